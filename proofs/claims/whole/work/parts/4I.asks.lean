/-! what is asked back: the reference -/
def SAm (a k : Nat) : Prop := SN a k ∨ (207 ≤ a ∧ a ≤ 209) ∨ (a = 166 ∧ k = 56)
theorem SAm_ok : ∀ a k, SAm a k → (194 ≤ a ∧ a ≤ 211) ∨ (a = 166 ∧ 41 ≤ k) := by
  intro a k z
  unfold SAm SN SM at z
  omega
theorem MX.fam {w : Wd} {t : Nat} {h h' : Hp} (q : MX w t h) (f : Fr SAm h h') : MX w t h' := q.gen (f.ip q.1) fun a k z => f.2.2 a k (by unfold SAm SN SM; omega)
theorem RM.fr {w : Wd} {sp : Nat} {md : Nat → Int32} {n : Nat} {S : Nat → Nat → Prop} {h h' : Hp} (q : RM w sp md n h) (f : Fr S h h') (hS : ∀ a k, 197 ≤ a → a ≤ 203 → ¬ S a k) : RM w sp md n h' := by
  intro k hk
  have e : ∀ a, 197 ≤ a → a ≤ 203 → h'.2.1 a k = h.2.1 a k := fun a z1 z2 => f.2.2 a k (hS a k z1 z2)
  rw [e 197 (by omega) (by omega), e 198 (by omega) (by omega), e 199 (by omega) (by omega), e 200 (by omega) (by omega), e 201 (by omega) (by omega), e 202 (by omega) (by omega), e 203 (by omega) (by omega)]
  exact q k hk
theorem omin_lt (x y : Int32) : (if x < y then x else y) = omin x y := by
  unfold omin
  by_cases h : x < y
  · by_cases h2 : y < x
    · exact (Int32.lt_irrefl (Int32.lt_trans h h2)).elim
    · rw [if_pos h, if_neg h2]
  · by_cases h2 : y < x
    · rw [if_neg h, if_pos h2]
    · rw [if_neg h, if_neg h2]
      exact Int32.le_antisymm (Int32.not_lt.mp h) (Int32.not_lt.mp h2)
def ARm (w : Wd) (P : Nat → Int32) (h : Hp) : Prop := (∀ k, k < W_n w → h.2.1 207 k = (if frA w ≤ k then W_R w k 4 else -1) ∧ h.2.1 208 k = (if frA w ≤ k then gft w P (W_n w - 1 - k) else 0)) ∧ h.2.1 166 56 = bck w ∧ h.2.1 166 51 = whz w 0
theorem m_hold {w : Wd} {t : Nat} {h : Hp} (q : MX w t h) (e72 : h.2.1 172 t = nI (W_n w)) : F_X11_holderOf [.ref 166, .int (nI t)] h = some (some (.int (frm (W_R w) (W_fo w) (W_n w))), h) := by
  have hn := q.1.1
  have hm := q.1.2.2
  have ht := q.2.1
  have e := q.fw (Nat.le_refl (W_n w))
  rw [← fq_eq]
  unfold F_X11_holderOf
  simp only [f_mkF, w_sI, w_sR, w_sL, w_sC, w_sk, w_sbr, w_sco, w_rV, w_rI, w_rR, w_rL, w_dI, w_sO, w_sq, w_si, w_pI, w_pZ, w_pR, w_pU, w_qI, w_qB, w_qZ, w_qU, w_qR, w_kV, q_icst, q_lcst, q_xR, q_ldI, q_ldR, q_ldL, q_bn, q_un, q_dv, q_fI, q_fR, q_aI, q_aR, q_aN, q_tn, q_cmp, q_cmz, q_cnt, q_ctt, q_cand, q_cor, q_vn, q_vI, q_vR, q_vL, q_kI, q_kR, q_kL, q_ckI, envN, argE, List.flatMap_cons, List.flatMap_nil, Value.category, junk, oadd, osub, omul, oand, oor, oxor, odiv, orem, oshl, oshr, oushr, omax, omin]
  simp (disch := first | omega | simp) [rk_i, rk_b, rk_o, st1, kill, Value.category, rcv, nog, inI_b, nI_clamp, nI_ltI, nI_leI, nI_eq, nI_9, nI_6, nI_22, nI_12, nI_180, nI_add, nI_1, hn, ly166, ly172, hm 8, mp, ht, e72, fq_of e]
theorem m_asks_all {w : Wd} {t : Nat} {h : Hp} (q : MX w t h) (e72 : h.2.1 172 t = nI (W_n w)) {np : Nat} (hnp : h.2.1 166 1 = nI np) (np12 : np ≤ 12) (hgv : ∀ i, i ≤ W_n w → (frm (W_R w) (W_fo w) i).toInt < np) : fq F_X11_asks [.ref 166, .int (nI (W_f w)), .int (nI t)] h fun r h' => r = none ∧ Fr SAm h h' ∧ ARm w (h.2.1 168) h' := by
  have hn := q.1.1
  have ht := q.2.1
  have n20 := q.wv.1
  unfold F_X11_asks
  refine f_mkE [.ref 166, .int (nI (W_f w)), .int (nI t), junk, junk, junk] rfl (by simp [argE, Value.category]) ?_
  refine w_fz fun B hB C hC => ?_
  simp only [f_mkF, w_sI, w_sR, w_sL, w_sC, w_sk, w_sbr, w_sco, w_rV, w_rI, w_rR, w_rL, w_dI, w_sO, w_sq, w_si, w_pI, w_pZ, w_pR, w_pU, w_qI, w_qB, w_qZ, w_qU, w_qR, w_kV, q_icst, q_lcst, q_xR, q_ldI, q_ldR, q_ldL, q_bn, q_un, q_dv, q_fI, q_fR, q_aI, q_aR, q_aN, q_tn, q_cmp, q_cmz, q_cnt, q_ctt, q_cand, q_cor, q_vn, q_vI, q_vR, q_vL, q_kI, q_kR, q_kL, q_ckI, envN, argE, List.flatMap_cons, List.flatMap_nil, Value.category, junk, oadd, osub, omul, oand, oor, oxor, odiv, orem, oshl, oshr, oushr, omax, omin]
  simp (disch := first | omega | simp) [rk_i, rk_b, rk_o, st1, kill, Value.category, rcv, nog, inI_b, nI_clamp, nI_ltI, nI_leI, nI_eq, nI_9, nI_6, nI_22, nI_12, nI_180, nI_add, nI_1, hn, ly166]
  refine fq_mono (m_judges q e72) ?_
  rintro r h1 ⟨rfl, f1, hR, e51, e41, e96⟩
  simp
  subst hB hC
  have f1' : Fr SAm h h1 := f1.sub fun a k z => Or.inl z
  have base : ∀ h', Fr (fun a k => (207 ≤ a ∧ a ≤ 209) ∨ (a = 166 ∧ k = 56) ∨ SG a k) h1 h' → MX w t h' ∧ RM w 0 (lows w) (W_n w) h' ∧ h'.2.1 166 51 = whz w 0 ∧ h'.2.1 166 41 = 0 ∧ (∀ i, i < W_n w → h'.2.1 196 i = W_R w i 6) ∧ h'.2.1 172 t = nI (W_n w) ∧ h'.2.1 166 1 = nI np ∧ h'.2.1 168 = h.2.1 168 ∧ Fr SAm h h' := by
    intro h' f
    have f2 : Fr SAm h h' := f1'.trans (f.sub fun a k z => by unfold SAm SN SM; unfold SG at z; omega)
    exact ⟨q.fam f2, hR.fr f fun a k z1 z2 => by unfold SG; omega, (f.2.2 166 51 (by unfold SG; omega)).trans e51, (f.2.2 166 41 (by unfold SG; omega)).trans e41, fun i hi => (f.2.2 196 i (by unfold SG; omega)).trans (e96 i hi), (f2.2.2 172 t (by unfold SAm SN SM; omega)).trans e72, (f2.2.2 166 1 (by unfold SAm SN SM; omega)).trans hnp, funext fun k => f2.2.2 168 k (by unfold SAm SN SM; omega), f2⟩
  refine w_sqS (fun E1 h2 => (∃ x, E1 = [.ref 166, .int (nI (W_f w)), .int (nI t), .int x, junk, junk]) ∧ Fr (fun a k => (207 ≤ a ∧ a ≤ 209) ∨ (a = 166 ∧ k = 56) ∨ SG a k) h1 h2 ∧ ∀ k, k < W_n w → h2.2.1 207 k = -1 ∧ h2.2.1 208 k = 0) ?_ ?_
  · refine w_sqI (E' := [.ref 166, .int (nI (W_f w)), .int (nI t), .int (nI 0), junk, junk]) (nI 0) (by simp only [f_mkF, w_sI, w_sR, w_sL, w_sC, w_sk, w_sbr, w_sco, w_rV, w_rI, w_rR, w_rL, w_dI, w_sO, w_sq, w_si, w_pI, w_pZ, w_pR, w_pU, w_qI, w_qB, w_qZ, w_qU, w_qR, w_kV, q_icst, q_lcst, q_xR, q_ldI, q_ldR, q_ldL, q_bn, q_un, q_dv, q_fI, q_fR, q_aI, q_aR, q_aN, q_tn, q_cmp, q_cmz, q_cnt, q_ctt, q_cand, q_cor, q_vn, q_vI, q_vR, q_vL, q_kI, q_kR, q_kL, q_ckI, envN, argE, List.flatMap_cons, List.flatMap_nil, Value.category, junk, oadd, osub, omul, oand, oor, oxor, odiv, orem, oshl, oshr, oushr, omax, omin]; simp [nI_0]) rfl ?_
    refine w_lp (fun k E h' => ∃ j, k = W_n w - j ∧ j ≤ W_n w ∧ E = [.ref 166, .int (nI (W_f w)), .int (nI t), .int (nI j), junk, junk] ∧ Fr (fun a k => (207 ≤ a ∧ a ≤ 209) ∨ (a = 166 ∧ k = 56) ∨ SG a k) h1 h' ∧ ∀ k, k < j → h'.2.1 207 k = -1 ∧ h'.2.1 208 k = 0) ?_ (W_n w) _ _ ⟨0, rfl, by omega, rfl, Fr.refl _, fun k hk => by omega⟩
    rintro k E h' ⟨j, rfl, hj, rfl, f, hk⟩
    obtain ⟨q2, -, -, -, -, d72, -, -, -⟩ := base h' f
    have hn2 := q2.1.1
    have hm2 : ∀ k, h'.2.2 166 k = mp k := q2.1.2.2
    by_cases hjn : j < W_n w
    · refine ev_T ?_ ⟨fun z => (by cases z), fun _ => ?_⟩
      · simp only [f_mkF, w_sI, w_sR, w_sL, w_sC, w_sk, w_sbr, w_sco, w_rV, w_rI, w_rR, w_rL, w_dI, w_sO, w_sq, w_si, w_pI, w_pZ, w_pR, w_pU, w_qI, w_qB, w_qZ, w_qU, w_qR, w_kV, q_icst, q_lcst, q_xR, q_ldI, q_ldR, q_ldL, q_bn, q_un, q_dv, q_fI, q_fR, q_aI, q_aR, q_aN, q_tn, q_cmp, q_cmz, q_cnt, q_ctt, q_cand, q_cor, q_vn, q_vI, q_vR, q_vL, q_kI, q_kR, q_kL, q_ckI, envN, argE, List.flatMap_cons, List.flatMap_nil, Value.category, junk, oadd, osub, omul, oand, oor, oxor, odiv, orem, oshl, oshr, oushr, omax, omin]
        simp (disch := first | omega | simp) [rk_i, rk_b, rk_o, st1, kill, Value.category, rcv, nog, inI_b, nI_clamp, nI_ltI, nI_leI, nI_eq, nI_9, nI_6, nI_22, nI_12, nI_180, nI_add, nI_1, hn2, ly166, ly172, hm2, mp, ht, d72, hjn]
      refine w_sqS (fun E1 h3 => E1 = [.ref 166, .int (nI (W_f w)), .int (nI t), .int (nI j), junk, junk] ∧ h3 = wI h' 207 j (-1)) (w_qIe 207 j (-1) ?_ ?_ ?_ (by omega) rfl (by omega) (by omega) ⟨rfl, rfl, rfl⟩) ?_
      · simp only [f_mkF, w_sI, w_sR, w_sL, w_sC, w_sk, w_sbr, w_sco, w_rV, w_rI, w_rR, w_rL, w_dI, w_sO, w_sq, w_si, w_pI, w_pZ, w_pR, w_pU, w_qI, w_qB, w_qZ, w_qU, w_qR, w_kV, q_icst, q_lcst, q_xR, q_ldI, q_ldR, q_ldL, q_bn, q_un, q_dv, q_fI, q_fR, q_aI, q_aR, q_aN, q_tn, q_cmp, q_cmz, q_cnt, q_ctt, q_cand, q_cor, q_vn, q_vI, q_vR, q_vL, q_kI, q_kR, q_kL, q_ckI, envN, argE, List.flatMap_cons, List.flatMap_nil, Value.category, junk, oadd, osub, omul, oand, oor, oxor, odiv, orem, oshl, oshr, oushr, omax, omin]; simp [hn2, ly166, hm2, mp]
      · simp only [f_mkF, w_sI, w_sR, w_sL, w_sC, w_sk, w_sbr, w_sco, w_rV, w_rI, w_rR, w_rL, w_dI, w_sO, w_sq, w_si, w_pI, w_pZ, w_pR, w_pU, w_qI, w_qB, w_qZ, w_qU, w_qR, w_kV, q_icst, q_lcst, q_xR, q_ldI, q_ldR, q_ldL, q_bn, q_un, q_dv, q_fI, q_fR, q_aI, q_aR, q_aN, q_tn, q_cmp, q_cmz, q_cnt, q_ctt, q_cand, q_cor, q_vn, q_vI, q_vR, q_vL, q_kI, q_kR, q_kL, q_ckI, envN, argE, List.flatMap_cons, List.flatMap_nil, Value.category, junk, oadd, osub, omul, oand, oor, oxor, odiv, orem, oshl, oshr, oushr, omax, omin]; simp
      · simp only [f_mkF, w_sI, w_sR, w_sL, w_sC, w_sk, w_sbr, w_sco, w_rV, w_rI, w_rR, w_rL, w_dI, w_sO, w_sq, w_si, w_pI, w_pZ, w_pR, w_pU, w_qI, w_qB, w_qZ, w_qU, w_qR, w_kV, q_icst, q_lcst, q_xR, q_ldI, q_ldR, q_ldL, q_bn, q_un, q_dv, q_fI, q_fR, q_aI, q_aR, q_aN, q_tn, q_cmp, q_cmz, q_cnt, q_ctt, q_cand, q_cor, q_vn, q_vI, q_vR, q_vL, q_kI, q_kR, q_kL, q_ckI, envN, argE, List.flatMap_cons, List.flatMap_nil, Value.category, junk, oadd, osub, omul, oand, oor, oxor, odiv, orem, oshl, oshr, oushr, omax, omin]; simp
      rintro E1 h3 ⟨rfl, rfl⟩
      refine w_qIe 208 j 0 ?_ ?_ ?_ (by rw [wI_1]; omega) rfl (by omega) (by omega) ⟨fun _ => ?_, (fun z => by cases z), fun z => absurd rfl z⟩
      · simp only [f_mkF, w_sI, w_sR, w_sL, w_sC, w_sk, w_sbr, w_sco, w_rV, w_rI, w_rR, w_rL, w_dI, w_sO, w_sq, w_si, w_pI, w_pZ, w_pR, w_pU, w_qI, w_qB, w_qZ, w_qU, w_qR, w_kV, q_icst, q_lcst, q_xR, q_ldI, q_ldR, q_ldL, q_bn, q_un, q_dv, q_fI, q_fR, q_aI, q_aR, q_aN, q_tn, q_cmp, q_cmz, q_cnt, q_ctt, q_cand, q_cor, q_vn, q_vI, q_vR, q_vL, q_kI, q_kR, q_kL, q_ckI, envN, argE, List.flatMap_cons, List.flatMap_nil, Value.category, junk, oadd, osub, omul, oand, oor, oxor, odiv, orem, oshl, oshr, oushr, omax, omin]; simp [hn2, ly166, hm2, mp, wI_1, wI_r]
      · simp only [f_mkF, w_sI, w_sR, w_sL, w_sC, w_sk, w_sbr, w_sco, w_rV, w_rI, w_rR, w_rL, w_dI, w_sO, w_sq, w_si, w_pI, w_pZ, w_pR, w_pU, w_qI, w_qB, w_qZ, w_qU, w_qR, w_kV, q_icst, q_lcst, q_xR, q_ldI, q_ldR, q_ldL, q_bn, q_un, q_dv, q_fI, q_fR, q_aI, q_aR, q_aN, q_tn, q_cmp, q_cmz, q_cnt, q_ctt, q_cand, q_cor, q_vn, q_vI, q_vR, q_vL, q_kI, q_kR, q_kL, q_ckI, envN, argE, List.flatMap_cons, List.flatMap_nil, Value.category, junk, oadd, osub, omul, oand, oor, oxor, odiv, orem, oshl, oshr, oushr, omax, omin]; simp
      · simp only [f_mkF, w_sI, w_sR, w_sL, w_sC, w_sk, w_sbr, w_sco, w_rV, w_rI, w_rR, w_rL, w_dI, w_sO, w_sq, w_si, w_pI, w_pZ, w_pR, w_pU, w_qI, w_qB, w_qZ, w_qU, w_qR, w_kV, q_icst, q_lcst, q_xR, q_ldI, q_ldR, q_ldL, q_bn, q_un, q_dv, q_fI, q_fR, q_aI, q_aR, q_aN, q_tn, q_cmp, q_cmz, q_cnt, q_ctt, q_cand, q_cor, q_vn, q_vI, q_vR, q_vL, q_kI, q_kR, q_kL, q_ckI, envN, argE, List.flatMap_cons, List.flatMap_nil, Value.category, junk, oadd, osub, omul, oand, oor, oxor, odiv, orem, oshl, oshr, oushr, omax, omin]; simp
      refine w_sCe (nI j) (nI (j + 1)) rfl (nI_1 _) rfl ⟨rfl, W_n w - (j + 1), by omega, j + 1, rfl, by omega, rfl, (f.w (Or.inl (by omega))).w (Or.inl (by omega)), fun k hk2 => ?_⟩
      by_cases hkj : k = j
      · subst hkj; simp [wI_i]
      · have := hk k (by omega)
        simp [wI_i, hkj, this]
    · have hjj : j = W_n w := by omega
      subst hjj
      refine ev_F ?_ ⟨fun _ => ⟨rfl, ⟨_, rfl⟩, f, hk⟩, fun z => (by cases z)⟩
      simp only [f_mkF, w_sI, w_sR, w_sL, w_sC, w_sk, w_sbr, w_sco, w_rV, w_rI, w_rR, w_rL, w_dI, w_sO, w_sq, w_si, w_pI, w_pZ, w_pR, w_pU, w_qI, w_qB, w_qZ, w_qU, w_qR, w_kV, q_icst, q_lcst, q_xR, q_ldI, q_ldR, q_ldL, q_bn, q_un, q_dv, q_fI, q_fR, q_aI, q_aR, q_aN, q_tn, q_cmp, q_cmz, q_cnt, q_ctt, q_cand, q_cor, q_vn, q_vI, q_vR, q_vL, q_kI, q_kR, q_kL, q_ckI, envN, argE, List.flatMap_cons, List.flatMap_nil, Value.category, junk, oadd, osub, omul, oand, oor, oxor, odiv, orem, oshl, oshr, oushr, omax, omin]
      simp (disch := first | omega | simp) [rk_i, rk_b, rk_o, st1, kill, Value.category, rcv, nog, inI_b, nI_clamp, nI_ltI, nI_leI, nI_eq, nI_9, nI_6, nI_22, nI_12, nI_180, nI_add, nI_1, hn2, ly166, ly172, hm2, mp, ht, d72]
  rintro E1 h2 ⟨⟨x, rfl⟩, f2, e2⟩
  refine w_sqS (fun E1 h3 => (∃ x, E1 = [.ref 166, .int (nI (W_f w)), .int (nI t), .int x, junk, junk]) ∧ Fr (fun a k => (207 ≤ a ∧ a ≤ 209) ∨ (a = 166 ∧ k = 56) ∨ SG a k) h1 h3 ∧ (∀ k, k < W_n w → h3.2.1 207 k = -1 ∧ h3.2.1 208 k = 0) ∧ ∀ p, p < np → h3.2.1 209 p = h.2.1 168 p) ?_ ?_
  · refine w_sqI (E' := [.ref 166, .int (nI (W_f w)), .int (nI t), .int (nI 0), junk, junk]) (nI 0) (by simp only [f_mkF, w_sI, w_sR, w_sL, w_sC, w_sk, w_sbr, w_sco, w_rV, w_rI, w_rR, w_rL, w_dI, w_sO, w_sq, w_si, w_pI, w_pZ, w_pR, w_pU, w_qI, w_qB, w_qZ, w_qU, w_qR, w_kV, q_icst, q_lcst, q_xR, q_ldI, q_ldR, q_ldL, q_bn, q_un, q_dv, q_fI, q_fR, q_aI, q_aR, q_aN, q_tn, q_cmp, q_cmz, q_cnt, q_ctt, q_cand, q_cor, q_vn, q_vI, q_vR, q_vL, q_kI, q_kR, q_kL, q_ckI, envN, argE, List.flatMap_cons, List.flatMap_nil, Value.category, junk, oadd, osub, omul, oand, oor, oxor, odiv, orem, oshl, oshr, oushr, omax, omin]; simp [nI_0]) rfl ?_
    refine w_lp (fun k E h' => ∃ j, k = np - j ∧ j ≤ np ∧ E = [.ref 166, .int (nI (W_f w)), .int (nI t), .int (nI j), junk, junk] ∧ Fr (fun a k => (207 ≤ a ∧ a ≤ 209) ∨ (a = 166 ∧ k = 56) ∨ SG a k) h1 h' ∧ (∀ k, k < W_n w → h'.2.1 207 k = -1 ∧ h'.2.1 208 k = 0) ∧ ∀ p, p < j → h'.2.1 209 p = h.2.1 168 p) ?_ np _ _ ⟨0, rfl, by omega, rfl, f2, e2, fun k hk => by omega⟩
    rintro k E h' ⟨j, rfl, hj, rfl, f, hk0, hk⟩
    obtain ⟨q2, -, -, -, -, -, dnp, d68, -⟩ := base h' f
    have hn2 := q2.1.1
    have hm2 : ∀ k, h'.2.2 166 k = mp k := q2.1.2.2
    by_cases hjn : j < np
    · have j12 : j < 12 := by omega
      refine ev_T ?_ ⟨fun z => (by cases z), fun _ => ?_⟩
      · simp only [f_mkF, w_sI, w_sR, w_sL, w_sC, w_sk, w_sbr, w_sco, w_rV, w_rI, w_rR, w_rL, w_dI, w_sO, w_sq, w_si, w_pI, w_pZ, w_pR, w_pU, w_qI, w_qB, w_qZ, w_qU, w_qR, w_kV, q_icst, q_lcst, q_xR, q_ldI, q_ldR, q_ldL, q_bn, q_un, q_dv, q_fI, q_fR, q_aI, q_aR, q_aN, q_tn, q_cmp, q_cmz, q_cnt, q_ctt, q_cand, q_cor, q_vn, q_vI, q_vR, q_vL, q_kI, q_kR, q_kL, q_ckI, envN, argE, List.flatMap_cons, List.flatMap_nil, Value.category, junk, oadd, osub, omul, oand, oor, oxor, odiv, orem, oshl, oshr, oushr, omax, omin]
        simp (disch := first | omega | simp) [rk_i, rk_b, rk_o, st1, kill, Value.category, rcv, nog, inI_b, nI_clamp, nI_ltI, nI_leI, nI_eq, nI_9, nI_6, nI_22, nI_12, nI_180, nI_add, nI_1, hn2, ly166, dnp, hjn]
      refine w_qIe 209 j (h.2.1 168 j) ?_ ?_ ?_ (by omega) rfl (by omega) (by omega) ⟨fun _ => ?_, (fun z => by cases z), fun z => absurd rfl z⟩
      · simp only [f_mkF, w_sI, w_sR, w_sL, w_sC, w_sk, w_sbr, w_sco, w_rV, w_rI, w_rR, w_rL, w_dI, w_sO, w_sq, w_si, w_pI, w_pZ, w_pR, w_pU, w_qI, w_qB, w_qZ, w_qU, w_qR, w_kV, q_icst, q_lcst, q_xR, q_ldI, q_ldR, q_ldL, q_bn, q_un, q_dv, q_fI, q_fR, q_aI, q_aR, q_aN, q_tn, q_cmp, q_cmz, q_cnt, q_ctt, q_cand, q_cor, q_vn, q_vI, q_vR, q_vL, q_kI, q_kR, q_kL, q_ckI, envN, argE, List.flatMap_cons, List.flatMap_nil, Value.category, junk, oadd, osub, omul, oand, oor, oxor, odiv, orem, oshl, oshr, oushr, omax, omin]; simp [hn2, ly166, hm2, mp]
      · simp only [f_mkF, w_sI, w_sR, w_sL, w_sC, w_sk, w_sbr, w_sco, w_rV, w_rI, w_rR, w_rL, w_dI, w_sO, w_sq, w_si, w_pI, w_pZ, w_pR, w_pU, w_qI, w_qB, w_qZ, w_qU, w_qR, w_kV, q_icst, q_lcst, q_xR, q_ldI, q_ldR, q_ldL, q_bn, q_un, q_dv, q_fI, q_fR, q_aI, q_aR, q_aN, q_tn, q_cmp, q_cmz, q_cnt, q_ctt, q_cand, q_cor, q_vn, q_vI, q_vR, q_vL, q_kI, q_kR, q_kL, q_ckI, envN, argE, List.flatMap_cons, List.flatMap_nil, Value.category, junk, oadd, osub, omul, oand, oor, oxor, odiv, orem, oshl, oshr, oushr, omax, omin]; simp
      · simp only [f_mkF, w_sI, w_sR, w_sL, w_sC, w_sk, w_sbr, w_sco, w_rV, w_rI, w_rR, w_rL, w_dI, w_sO, w_sq, w_si, w_pI, w_pZ, w_pR, w_pU, w_qI, w_qB, w_qZ, w_qU, w_qR, w_kV, q_icst, q_lcst, q_xR, q_ldI, q_ldR, q_ldL, q_bn, q_un, q_dv, q_fI, q_fR, q_aI, q_aR, q_aN, q_tn, q_cmp, q_cmz, q_cnt, q_ctt, q_cand, q_cor, q_vn, q_vI, q_vR, q_vL, q_kI, q_kR, q_kL, q_ckI, envN, argE, List.flatMap_cons, List.flatMap_nil, Value.category, junk, oadd, osub, omul, oand, oor, oxor, odiv, orem, oshl, oshr, oushr, omax, omin]; simp (disch := first | omega | simp) [rk_i, rk_b, rk_o, st1, kill, Value.category, rcv, nog, inI_b, nI_clamp, nI_ltI, nI_leI, nI_eq, nI_9, nI_6, nI_22, nI_12, nI_180, nI_add, nI_1, hn2, ly166, ly168, hm2, mp, j12, d68]
      refine w_sCe (nI j) (nI (j + 1)) rfl (nI_1 _) rfl ⟨rfl, np - (j + 1), by omega, j + 1, rfl, by omega, rfl, f.w (Or.inl (by omega)), fun k hk2 => ?_, fun p hp => ?_⟩
      · simpa [wI_i] using hk0 k hk2
      · rw [wI_i]
        by_cases hkj : p = j
        · rw [if_pos ⟨rfl, hkj⟩, hkj]
        · rw [if_neg (by omega)]; exact hk p (by omega)
    · have hjj : j = np := by omega
      subst hjj
      refine ev_F ?_ ⟨fun _ => ⟨rfl, ⟨_, rfl⟩, f, hk0, hk⟩, fun z => (by cases z)⟩
      simp only [f_mkF, w_sI, w_sR, w_sL, w_sC, w_sk, w_sbr, w_sco, w_rV, w_rI, w_rR, w_rL, w_dI, w_sO, w_sq, w_si, w_pI, w_pZ, w_pR, w_pU, w_qI, w_qB, w_qZ, w_qU, w_qR, w_kV, q_icst, q_lcst, q_xR, q_ldI, q_ldR, q_ldL, q_bn, q_un, q_dv, q_fI, q_fR, q_aI, q_aR, q_aN, q_tn, q_cmp, q_cmz, q_cnt, q_ctt, q_cand, q_cor, q_vn, q_vI, q_vR, q_vL, q_kI, q_kR, q_kL, q_ckI, envN, argE, List.flatMap_cons, List.flatMap_nil, Value.category, junk, oadd, osub, omul, oand, oor, oxor, odiv, orem, oshl, oshr, oushr, omax, omin]
      simp (disch := first | omega | simp) [rk_i, rk_b, rk_o, st1, kill, Value.category, rcv, nog, inI_b, nI_clamp, nI_ltI, nI_leI, nI_eq, nI_9, nI_6, nI_22, nI_12, nI_180, nI_add, nI_1, hn2, ly166, dnp]
  rintro E1 h3 ⟨⟨x, rfl⟩, f3, e3, p3⟩
  clear e2 f2 h2
  obtain ⟨q3, hR3, d51, d41, d96, d72, dnp, d68, f3'⟩ := base h3 f3
  have hn3 := q3.1.1
  have hm3 : ∀ k, h3.2.2 166 k = mp k := q3.1.2.2
  refine w_sqI (E' := [.ref 166, .int (nI (W_f w)), .int (nI t), .int (nI (W_n w) - 1), junk, junk]) (nI (W_n w) - 1) (by simp only [f_mkF, w_sI, w_sR, w_sL, w_sC, w_sk, w_sbr, w_sco, w_rV, w_rI, w_rR, w_rL, w_dI, w_sO, w_sq, w_si, w_pI, w_pZ, w_pR, w_pU, w_qI, w_qB, w_qZ, w_qU, w_qR, w_kV, q_icst, q_lcst, q_xR, q_ldI, q_ldR, q_ldL, q_bn, q_un, q_dv, q_fI, q_fR, q_aI, q_aR, q_aN, q_tn, q_cmp, q_cmz, q_cnt, q_ctt, q_cand, q_cor, q_vn, q_vI, q_vR, q_vL, q_kI, q_kR, q_kL, q_ckI, envN, argE, List.flatMap_cons, List.flatMap_nil, Value.category, junk, oadd, osub, omul, oand, oor, oxor, odiv, orem, oshl, oshr, oushr, omax, omin]; simp (disch := first | omega | simp) [rk_i, rk_b, rk_o, st1, kill, Value.category, rcv, nog, inI_b, nI_clamp, nI_ltI, nI_leI, nI_eq, nI_9, nI_6, nI_22, nI_12, nI_180, nI_add, nI_1, hn3, ly166, ly172, hm3, mp, ht, d72]) rfl ?_
  (refine w_fz fun B hB C hC => ?_); (simp only [f_mkF, w_sI, w_sR, w_sL, w_sC, w_sk, w_sbr, w_sco, w_rV, w_rI, w_rR, w_rL, w_dI, w_sO, w_sq, w_si, w_pI, w_pZ, w_pR, w_pU, w_qI, w_qB, w_qZ, w_qU, w_qR, w_kV, q_icst, q_lcst, q_xR, q_ldI, q_ldR, q_ldL, q_bn, q_un, q_dv, q_fI, q_fR, q_aI, q_aR, q_aN, q_tn, q_cmp, q_cmz, q_cnt, q_ctt, q_cand, q_cor, q_vn, q_vI, q_vR, q_vL, q_kI, q_kR, q_kL, q_ckI, envN, argE, List.flatMap_cons, List.flatMap_nil, Value.category, junk, oadd, osub, omul, oand, oor, oxor, odiv, orem, oshl, oshr, oushr, omax, omin]); (simp (disch := first | omega | simp) [rk_i, rk_b, rk_o, st1, kill, Value.category, rcv, nog, inI_b, nI_clamp, nI_ltI, nI_leI, nI_eq, nI_9, nI_6, nI_22, nI_12, nI_180, nI_add, nI_1, hn3, ly166]); (subst hB hC)
  have f4 : Fr (fun a k => (207 ≤ a ∧ a ≤ 209) ∨ (a = 166 ∧ k = 56) ∨ SG a k) h1 (wI h3 166 56 (-2)) := f3.w (Or.inr (Or.inl ⟨rfl, rfl⟩))
  have e4 : ∀ k, k < W_n w → (wI h3 166 56 (-2)).2.1 207 k = -1 ∧ (wI h3 166 56 (-2)).2.1 208 k = 0 := fun k hk => by simpa [wI_i] using e3 k hk
  have p4 : ∀ p, p < np → (wI h3 166 56 (-2)).2.1 209 p = h.2.1 168 p := fun p hp => by simpa [wI_i] using p3 p hp
  have b4 : (wI h3 166 56 (-2)).2.1 166 56 = -2 := by simp [wI_i]
  generalize wI h3 166 56 (-2) = h4 at *
  clear e3 p3 f3 q3 hR3 d51 d41 d96 d72 dnp d68 f3' hn3 hm3
  obtain ⟨q4, hR4, d51, d41, d96, d72, dnp, d68, f4'⟩ := base h4 f4
  have hn4 := q4.1.1
  have hm4 : ∀ k, h4.2.2 166 k = mp k := q4.1.2.2
  have eh := m_hold q4 d72
  by_cases ho : whz w 0 = frm (W_R w) (W_fo w) (W_n w)
  · have hm : mde w = 0 := by unfold mde; rw [if_pos ho]
    refine w_sq.mpr ((w_siT (by simp only [f_mkF, w_sI, w_sR, w_sL, w_sC, w_sk, w_sbr, w_sco, w_rV, w_rI, w_rR, w_rL, w_dI, w_sO, w_sq, w_si, w_pI, w_pZ, w_pR, w_pU, w_qI, w_qB, w_qZ, w_qU, w_qR, w_kV, q_icst, q_lcst, q_xR, q_ldI, q_ldR, q_ldL, q_bn, q_un, q_dv, q_fI, q_fR, q_aI, q_aR, q_aN, q_tn, q_cmp, q_cmz, q_cnt, q_ctt, q_cand, q_cor, q_vn, q_vI, q_vR, q_vL, q_kI, q_kR, q_kL, q_ckI, envN, argE, List.flatMap_cons, List.flatMap_nil, Value.category, junk, oadd, osub, omul, oand, oor, oxor, odiv, orem, oshl, oshr, oushr, omax, omin]; simp (disch := first | omega | simp) [rk_i, rk_b, rk_o, st1, kill, Value.category, rcv, nog, inI_b, nI_clamp, nI_ltI, nI_leI, nI_eq, nI_9, nI_6, nI_22, nI_12, nI_180, nI_add, nI_1, hn4, ly166, d51, fq_of eh, ho])).mpr ?_)
    rw [w_rV]
    refine ⟨(fun z => by cases z), fun _ => Or.inl ⟨rfl, rfl, rfl, f4', fun k hk => ?_, ?_, d51⟩⟩
    · have : ¬ frA w ≤ k := by unfold frA; rw [if_neg (by omega)]; omega
      rw [if_neg this, if_neg this]
      exact e4 k hk
    · rw [b4]; unfold bck; rw [if_pos hm]
  · refine w_sq.mpr ((w_siF (by simp only [f_mkF, w_sI, w_sR, w_sL, w_sC, w_sk, w_sbr, w_sco, w_rV, w_rI, w_rR, w_rL, w_dI, w_sO, w_sq, w_si, w_pI, w_pZ, w_pR, w_pU, w_qI, w_qB, w_qZ, w_qU, w_qR, w_kV, q_icst, q_lcst, q_xR, q_ldI, q_ldR, q_ldL, q_bn, q_un, q_dv, q_fI, q_fR, q_aI, q_aR, q_aN, q_tn, q_cmp, q_cmz, q_cnt, q_ctt, q_cand, q_cor, q_vn, q_vI, q_vR, q_vL, q_kI, q_kR, q_kL, q_ckI, envN, argE, List.flatMap_cons, List.flatMap_nil, Value.category, junk, oadd, osub, omul, oand, oor, oxor, odiv, orem, oshl, oshr, oushr, omax, omin]; simp (disch := first | omega | simp) [rk_i, rk_b, rk_o, st1, kill, Value.category, rcv, nog, inI_b, nI_clamp, nI_ltI, nI_leI, nI_eq, nI_9, nI_6, nI_22, nI_12, nI_180, nI_add, nI_1, hn4, ly166, d51, fq_of eh, ho])).mpr (w_sk2.mpr ?_))
    have hz : W_n w ≠ 0 := fun z => ho (by unfold whz; rw [z]; rfl)
    obtain ⟨l, hl⟩ : ∃ l, W_n w = l + 1 := ⟨W_n w - 1, by omega⟩
    have hl2 : W_n w - 1 = l := by omega
    rw [show nI (W_n w) - 1 = nI l by rw [hl]; exact nI_pred l]
    have hln : l < W_n w := by omega
    have nbn := stt_nb w 0 (lows w) (W_n w)
    have hsn : stt w 0 (lows w) (W_n w) ≠ 0 := fun z => ho (by unfold whz; rw [z]; rfl)
    (refine w_fz fun B hB C hC => ?_); (simp only [f_mkF, w_sI, w_sR, w_sL, w_sC, w_sk, w_sbr, w_sco, w_rV, w_rI, w_rR, w_rL, w_dI, w_sO, w_sq, w_si, w_pI, w_pZ, w_pR, w_pU, w_qI, w_qB, w_qZ, w_qU, w_qR, w_kV, q_icst, q_lcst, q_xR, q_ldI, q_ldR, q_ldL, q_bn, q_un, q_dv, q_fI, q_fR, q_aI, q_aR, q_aN, q_tn, q_cmp, q_cmz, q_cnt, q_ctt, q_cand, q_cor, q_vn, q_vI, q_vR, q_vL, q_kI, q_kR, q_kL, q_ckI, envN, argE, List.flatMap_cons, List.flatMap_nil, Value.category, junk, oadd, osub, omul, oand, oor, oxor, odiv, orem, oshl, oshr, oushr, omax, omin]); (simp (disch := first | omega | simp) [rk_i, rk_b, rk_o, st1, kill, Value.category, rcv, nog, inI_b, nI_clamp, nI_ltI, nI_leI, nI_eq, nI_9, nI_6, nI_22, nI_12, nI_180, nI_add, nI_1, hn4, ly166]); (subst hB hC)
    have f5 : Fr (fun a k => (207 ≤ a ∧ a ≤ 209) ∨ (a = 166 ∧ k = 56) ∨ SG a k) h1 (wI h4 166 56 0) := f4.w (Or.inr (Or.inl ⟨rfl, rfl⟩))
    have e5 : ∀ k, k < W_n w → (wI h4 166 56 0).2.1 207 k = -1 ∧ (wI h4 166 56 0).2.1 208 k = 0 := fun k hk => by simpa [wI_i] using e4 k hk
    have p5 : ∀ p, p < np → (wI h4 166 56 0).2.1 209 p = h.2.1 168 p := fun p hp => by simpa [wI_i] using p4 p hp
    have b5 : (wI h4 166 56 0).2.1 166 56 = 0 := by simp [wI_i]
    generalize wI h4 166 56 0 = h5 at *
    clear e4 p4 b4 f4 q4 hR4 d51 d41 d96 d72 dnp d68 f4' hn4 hm4 eh
    obtain ⟨q5, hR5, d51, d41, d96, d72, dnp, d68, f5'⟩ := base h5 f5
    have hn5 := q5.1.1
    have hm5 : ∀ k, h5.2.2 166 k = mp k := q5.1.2.2
    obtain ⟨r0, r1, r2, r3, r4, r5, r6⟩ := q5.row hln
    obtain ⟨k1, k2⟩ := q5.wv.kx hln
    rw [k1] at r1
    have kz : nI (kd w l) = 0 ↔ kd w l = 0 := by rw [← nI_0, nI_eq (by omega) (by omega)]
    have hgives : ∀ (i lt : Nat) (h' : Hp), i < W_n w → kd w i = 0 → stt w 0 (lows w) i ≠ 0 → lt < 8 → Fr (fun a k => (207 ≤ a ∧ a ≤ 209) ∨ (a = 166 ∧ k = 56) ∨ SG a k) h1 h' → fq F_X11_gives [.ref 166, .int (nI (W_f w)), .int (nI t), .int (nI i), .int (nI 0), .int (chL lt), .int (own w (stt w 0 (lows w) i) i)] h' fun r h'' => r = some (.int (b2 (clm w i lt = true))) ∧ Fr SG h' h'' := by
      intro i lt h' hi hk0 hs hlt f
      obtain ⟨q', hR', -, g41, g96, -, -, -, -⟩ := base h' f
      obtain ⟨-, -, -, -, t5⟩ := hR' i hi
      obtain ⟨t6, t7, t8⟩ := t5 hs
      have nb := stt_nb w 0 (lows w) i
      have := m_gives q' (sp := 0) g41 (by omega) (i := i) (left := lft (stt w 0 (lows w) i) i) (kind := 0) (lt := lt) hi nb.l (by omega) hlt t6 t7 t8
      rw [g96 i hi] at this
      refine fq_mono this ?_
      rintro r h'' ⟨rfl, g⟩
      refine ⟨?_, g⟩
      unfold clm
      rw [hk0]
      simp [hs]
    refine w_fz fun B hB C hC => ?_
    have hrest : ∀ h6, Fr SG h5 h6 → mde w = 2 → wp B [.ref 166, .int (nI (W_f w)), .int (nI t), .int (nI l), junk, junk] h6 C := by
      intro h6 f6 hm2
      rw [hB, hC]
      clear hB hC
      have hfr : frA w = dwn (okk w) (W_n w) := by unfold frA; rw [if_pos hm2]
      have f6' : Fr (fun a k => (207 ≤ a ∧ a ≤ 209) ∨ (a = 166 ∧ k = 56) ∨ SG a k) h1 h6 := f5.trans (f6.sub fun a k z => Or.inr (Or.inr z))
      have k6 : ∀ a k, 207 ≤ a → h6.2.1 a k = h5.2.1 a k := fun a k z => f6.2.2 a k (by unfold SG; omega)
      have b6 : h6.2.1 166 56 = 0 := (f6.2.2 166 56 (by unfold SG; omega)).trans b5
      refine w_sq.mpr ?_
      refine w_sqI (E' := [.ref 166, .int (nI (W_f w)), .int (nI t), .int (nI l), .int (nI (l + 1) - 1), junk]) (nI (l + 1) - 1) (by simp only [f_mkF, w_sI, w_sR, w_sL, w_sC, w_sk, w_sbr, w_sco, w_rV, w_rI, w_rR, w_rL, w_dI, w_sO, w_sq, w_si, w_pI, w_pZ, w_pR, w_pU, w_qI, w_qB, w_qZ, w_qU, w_qR, w_kV, q_icst, q_lcst, q_xR, q_ldI, q_ldR, q_ldL, q_bn, q_un, q_dv, q_fI, q_fR, q_aI, q_aR, q_aN, q_tn, q_cmp, q_cmz, q_cnt, q_ctt, q_cand, q_cor, q_vn, q_vI, q_vR, q_vL, q_kI, q_kR, q_kL, q_ckI, envN, argE, List.flatMap_cons, List.flatMap_nil, Value.category, junk, oadd, osub, omul, oand, oor, oxor, odiv, orem, oshl, oshr, oushr, omax, omin]; simp [nI_pred]) rfl ?_
      refine wp_mono (w_lp (Q := fun o _ _ h' => (o = 0 ∨ o = 1) ∧ Fr SAm h h' ∧ ARm w (h.2.1 168) h') (fun k E h' => ∃ j v5, k = j ∧ j ≤ W_n w ∧ E = [.ref 166, .int (nI (W_f w)), .int (nI t), .int (nI l), .int (nI j - 1), v5] ∧ v5.category = 1 ∧ Fr (fun a k => (207 ≤ a ∧ a ≤ 209) ∨ (a = 166 ∧ k = 56) ∨ SG a k) h1 h' ∧ dwn (okk w) (W_n w) = dwn (okk w) j ∧ (∀ k, j ≤ k → k ≤ W_n w → stt w 0 (lows w) k ≠ 0) ∧ (∀ p, p < np → h'.2.1 209 p = prs w (h.2.1 168) (W_n w - j) p) ∧ (∀ k, k < W_n w → h'.2.1 207 k = (if j ≤ k then W_R w k 4 else -1) ∧ h'.2.1 208 k = (if j ≤ k then gft w (h.2.1 168) (W_n w - 1 - k) else 0)) ∧ h'.2.1 166 56 = 0) ?_ (l + 1) _ _ ⟨l + 1, junk, rfl, by omega, rfl, rfl, f6', by rw [hl], fun k z1 z2 => by rw [show k = W_n w by omega]; exact hsn, fun p hp => by rw [show W_n w - (l + 1) = 0 by omega, k6 209 p (by omega)]; exact p5 p hp, fun k hk => by rw [if_neg (by omega), if_neg (by omega), k6 207 k (by omega), k6 208 k (by omega)]; exact e5 k hk, b6⟩) ?_
      · rintro k E h' ⟨j, v5, rfl, hj, rfl, c5, f, hd, hs, hp, hk, h56⟩
        have hend : frA w = k → ARm w (h.2.1 168) h' := by
          intro hkk
          refine ⟨fun i hi => ?_, ?_, ?_⟩
          · rw [hkk]; exact hk i hi
          · rw [h56]; unfold bck; rw [if_neg (by omega), if_neg (by omega)]
          · exact (base h' f).2.2.1
        match k, hj, f, hd, hs, hp, hk, hend with
        | 0, hj, f, hd, hs, hp, hk, hend =>
          refine ev_F ?_ ⟨fun _ => ⟨Or.inl rfl, (base h' f).2.2.2.2.2.2.2.2, hend (by rw [hfr, hd]; rfl)⟩, fun z => (by cases z)⟩
          simp only [f_mkF, w_sI, w_sR, w_sL, w_sC, w_sk, w_sbr, w_sco, w_rV, w_rI, w_rR, w_rL, w_dI, w_sO, w_sq, w_si, w_pI, w_pZ, w_pR, w_pU, w_qI, w_qB, w_qZ, w_qU, w_qR, w_kV, q_icst, q_lcst, q_xR, q_ldI, q_ldR, q_ldL, q_bn, q_un, q_dv, q_fI, q_fR, q_aI, q_aR, q_aN, q_tn, q_cmp, q_cmz, q_cnt, q_ctt, q_cand, q_cor, q_vn, q_vI, q_vR, q_vL, q_kI, q_kR, q_kL, q_ckI, envN, argE, List.flatMap_cons, List.flatMap_nil, Value.category, junk, oadd, osub, omul, oand, oor, oxor, odiv, orem, oshl, oshr, oushr, omax, omin]
          simp [nI_0]
        | i + 1, hj, f, hd, hs, hp, hk, hend =>
          have hi : i < W_n w := by omega
          obtain ⟨qi, hRi, d51, d41, d96, d72, dnp, d68, fi'⟩ := base h' f
          have hni := qi.1.1
          have hmi : ∀ k, h'.2.2 166 k = mp k := qi.1.2.2
          have hp0 : ¬ nI i < 0 := Int32.not_lt.mpr (nI_0le (by omega))
          have hp0' : 0 ≤ nI i := nI_0le (by omega)
          obtain ⟨r0, r1, r2, r3, r4, r5, r6⟩ := qi.row hi
          obtain ⟨k1, k2⟩ := qi.wv.kx hi
          rw [k1] at r1
          have kz : nI (kd w i) = 0 ↔ kd w i = 0 := by rw [← nI_0, nI_eq (by omega) (by omega)]
          have nb := stt_nb w 0 (lows w) i
          have hO : own w (stt w 0 (lows w) i) i = whz w 0 := chain_o (W_n w - i) i (by omega) fun k z1 z2 => hs k (by omega) z2
          rw [nI_pred]
          refine ev_T ?_ ⟨fun z => (by cases z), fun _ => ?_⟩
          · simp only [f_mkF, w_sI, w_sR, w_sL, w_sC, w_sk, w_sbr, w_sco, w_rV, w_rI, w_rR, w_rL, w_dI, w_sO, w_sq, w_si, w_pI, w_pZ, w_pR, w_pU, w_qI, w_qB, w_qZ, w_qU, w_qR, w_kV, q_icst, q_lcst, q_xR, q_ldI, q_ldR, q_ldL, q_bn, q_un, q_dv, q_fI, q_fR, q_aI, q_aR, q_aN, q_tn, q_cmp, q_cmz, q_cnt, q_ctt, q_cand, q_cor, q_vn, q_vI, q_vR, q_vL, q_kI, q_kR, q_kL, q_ckI, envN, argE, List.flatMap_cons, List.flatMap_nil, Value.category, junk, oadd, osub, omul, oand, oor, oxor, odiv, orem, oshl, oshr, oushr, omax, omin]; simp [hp0, hp0', zlt]
          have hv := frm_ok q.wv (i := i) (by omega)
          have hgc := clampI hv.1
          have hgn := hgv i (by omega)
          obtain ⟨g, hg, hg2, hg3⟩ := ofN (x := frm (W_R w) (W_fo w) i) (b := 11) hv.1 (by omega)
          have g12 : g < 12 := by omega
          have i20 : i < 20 := by omega
          refine w_sqI (E' := [.ref 166, .int (nI (W_f w)), .int (nI t), .int (nI l), .int (nI i), .int (frm (W_R w) (W_fo w) i)]) (frm (W_R w) (W_fo w) i) (by simp only [f_mkF, w_sI, w_sR, w_sL, w_sC, w_sk, w_sbr, w_sco, w_rV, w_rI, w_rR, w_rL, w_dI, w_sO, w_sq, w_si, w_pI, w_pZ, w_pR, w_pU, w_qI, w_qB, w_qZ, w_qU, w_qR, w_kV, q_icst, q_lcst, q_xR, q_ldI, q_ldR, q_ldL, q_bn, q_un, q_dv, q_fI, q_fR, q_aI, q_aR, q_aN, q_tn, q_cmp, q_cmz, q_cnt, q_ctt, q_cand, q_cor, q_vn, q_vI, q_vR, q_vL, q_kI, q_kR, q_kL, q_ckI, envN, argE, List.flatMap_cons, List.flatMap_nil, Value.category, junk, oadd, osub, omul, oand, oor, oxor, odiv, orem, oshl, oshr, oushr, omax, omin]; simp [rk_i, rk_b, rk_o, st1, kill, Value.category, rcv, nog, hni, ly166, fq_of (qi.fw (i := i) (by omega))]) (by simp [st1, kill, Value.category]) ?_
          have hnok : okk w i = false → ARm w (h.2.1 168) h' := fun ho => hend (by rw [hfr, hd, dwn, if_neg (by rw [ho]; simp)])
          have hstop : ∀ h7, Fr SG h' h7 → okk w i = false → Fr SAm h h7 ∧ ARm w (h.2.1 168) h7 := by
            intro h7 f7 ho
            obtain ⟨x1, x2, x3⟩ := hnok ho
            refine ⟨fi'.trans (f7.sub fun a k z => by unfold SAm SN SM; unfold SG at z; omega), fun k hk2 => ?_, ?_, ?_⟩
            · rw [f7.2.2 207 k (by unfold SG; omega), f7.2.2 208 k (by unfold SG; omega)]; exact x1 k hk2
            · rw [f7.2.2 166 56 (by unfold SG; omega)]; exact x2
            · rw [f7.2.2 166 51 (by unfold SG; omega)]; exact x3
          by_cases hk0 : kd w i = 0
          · by_cases hs0 : stt w 0 (lows w) i = 0
            · have hno : okk w i = false := by unfold okk clm; simp [hs0]
              have he : frm (W_R w) (W_fo w) i = whz w 0 := by rw [← hO, hs0]; rfl
              refine w_sq.mpr ((w_siT ?_).mpr ?_)
              · simp only [f_mkF, w_sI, w_sR, w_sL, w_sC, w_sk, w_sbr, w_sco, w_rV, w_rI, w_rR, w_rL, w_dI, w_sO, w_sq, w_si, w_pI, w_pZ, w_pR, w_pU, w_qI, w_qB, w_qZ, w_qU, w_qR, w_kV, q_icst, q_lcst, q_xR, q_ldI, q_ldR, q_ldL, q_bn, q_un, q_dv, q_fI, q_fR, q_aI, q_aR, q_aN, q_tn, q_cmp, q_cmz, q_cnt, q_ctt, q_cand, q_cor, q_vn, q_vI, q_vR, q_vL, q_kI, q_kR, q_kL, q_ckI, envN, argE, List.flatMap_cons, List.flatMap_nil, Value.category, junk, oadd, osub, omul, oand, oor, oxor, odiv, orem, oshl, oshr, oushr, omax, omin]
                simp (disch := first | omega | simp) [rk_i, rk_b, rk_o, st1, kill, Value.category, rcv, nog, inI_b, nI_clamp, nI_ltI, nI_leI, nI_eq, nI_9, nI_6, nI_22, nI_12, nI_180, nI_add, nI_1, hni, ly166, ly173, hmi, mp, r0, r1, hk0, nI_0, d51, he]
              · rw [w_rV]
                exact ⟨(fun z => by cases z), fun _ => ⟨(fun z => by rcases z with z | z <;> cases z), (fun z => by cases z), fun _ _ _ => ⟨Or.inr rfl, hstop h' (Fr.refl _) hno⟩⟩⟩
            · have he : ¬ frm (W_R w) (W_fo w) i = whz w 0 := by rw [← hO]; exact nb.ne hs0
              rw [w_sq, w_si, q_cor]
              refine ev_F ?_ ⟨fun z => (by cases z), fun _ => ?_⟩
              · simp only [f_mkF, w_sI, w_sR, w_sL, w_sC, w_sk, w_sbr, w_sco, w_rV, w_rI, w_rR, w_rL, w_dI, w_sO, w_sq, w_si, w_pI, w_pZ, w_pR, w_pU, w_qI, w_qB, w_qZ, w_qU, w_qR, w_kV, q_icst, q_lcst, q_xR, q_ldI, q_ldR, q_ldL, q_bn, q_un, q_dv, q_fI, q_fR, q_aI, q_aR, q_aN, q_tn, q_cmp, q_cmz, q_cnt, q_ctt, q_cand, q_cor, q_vn, q_vI, q_vR, q_vL, q_kI, q_kR, q_kL, q_ckI, envN, argE, List.flatMap_cons, List.flatMap_nil, Value.category, junk, oadd, osub, omul, oand, oor, oxor, odiv, orem, oshl, oshr, oushr, omax, omin]
                simp (disch := first | omega | simp) [rk_i, rk_b, rk_o, st1, kill, Value.category, rcv, nog, inI_b, nI_clamp, nI_ltI, nI_leI, nI_eq, nI_9, nI_6, nI_22, nI_12, nI_180, nI_add, nI_1, hni, ly166, ly173, hmi, mp, r0, r1, hk0, nI_0, d51, he]
              rw [q_cnt, q_cmz]
              have i22 : i < 22 := by omega
              refine q_kIe [.ref 166, .int (nI (W_f w)), .int (nI t), .int (nI i), .int (nI 0), .int (chL 7), .int (own w (stt w 0 (lows w) i) i)] (by simp only [f_mkF, w_sI, w_sR, w_sL, w_sC, w_sk, w_sbr, w_sco, w_rV, w_rI, w_rR, w_rL, w_dI, w_sO, w_sq, w_si, w_pI, w_pZ, w_pR, w_pU, w_qI, w_qB, w_qZ, w_qU, w_qR, w_kV, q_icst, q_lcst, q_xR, q_ldI, q_ldR, q_ldL, q_bn, q_un, q_dv, q_fI, q_fR, q_aI, q_aR, q_aN, q_tn, q_cmp, q_cmz, q_cnt, q_ctt, q_cand, q_cor, q_vn, q_vI, q_vR, q_vL, q_kI, q_kR, q_kL, q_ckI, envN, argE, List.flatMap_cons, List.flatMap_nil, Value.category, junk, oadd, osub, omul, oand, oor, oxor, odiv, orem, oshl, oshr, oushr, omax, omin]; simp (disch := first | omega | simp) [rk_i, rk_b, rk_o, st1, kill, Value.category, rcv, nog, inI_b, nI_clamp, nI_ltI, nI_leI, nI_eq, nI_9, nI_6, nI_22, nI_12, nI_180, nI_add, nI_1, hni, ly166, ly197, hmi, mp, i22, (hRi i hi).1, chL, nI_0]) (by simp [rcv, hni, ly166]) ?_
              refine fq_mono (hgives i 7 h' hi hk0 hs0 (by omega) f) ?_
              rintro r h7 ⟨rfl, f7⟩
              refine ⟨_, rfl, ?_⟩
              cases hcl : clm w i 7 with
              | false =>
                refine ⟨fun _ => ?_, fun z => ?_⟩
                · rw [w_rV]
                  exact ⟨(fun z => by cases z), fun _ => ⟨(fun z => by rcases z with z | z <;> cases z), (fun z => by cases z), fun _ _ _ => ⟨Or.inr rfl, hstop h7 f7 (by unfold okk; simp [hcl])⟩⟩⟩
                · simp [b2, zne] at z
              | true =>
                refine ⟨fun z => ?_, fun _ => w_sk2.mpr ?_⟩
                · simp [b2, zne] at z
                have hok : okk w i = true := by unfold okk; simp [hk0, hcl]
                have f7' : Fr (fun a k => (207 ≤ a ∧ a ≤ 209) ∨ (a = 166 ∧ k = 56) ∨ SG a k) h1 h7 := f.trans (f7.sub fun a k z => Or.inr (Or.inr z))
                have k7 : ∀ a k, 207 ≤ a → h7.2.1 a k = h'.2.1 a k := fun a k z => f7.2.2 a k (by unfold SG; omega)
                have k756 : h7.2.1 166 56 = 0 := (f7.2.2 166 56 (by unfold SG; omega)).trans h56
                obtain ⟨q7, -, -, -, -, -, -, -, -⟩ := base h7 f7'
                have hn7 := q7.1.1
                have hm7 : ∀ k, h7.2.2 166 k = mp k := q7.1.2.2
                obtain ⟨s0, s1, s2, s3, s4, s5, s6⟩ := q7.row hi
                have e65i := hp g (by omega)
                rw [← k7 209 g (by omega)] at e65i
                rw [hg]
                refine w_sqS (fun E1 h8 => E1 = [.ref 166, .int (nI (W_f w)), .int (nI t), .int (nI l), .int (nI i), .int (nI g)] ∧ h8 = wI h7 207 i (W_R w i 4)) (w_qIe 207 i (W_R w i 4) ?_ ?_ ?_ (by omega) rfl i20 (by omega) ⟨rfl, rfl, rfl⟩) ?_
                · simp only [f_mkF, w_sI, w_sR, w_sL, w_sC, w_sk, w_sbr, w_sco, w_rV, w_rI, w_rR, w_rL, w_dI, w_sO, w_sq, w_si, w_pI, w_pZ, w_pR, w_pU, w_qI, w_qB, w_qZ, w_qU, w_qR, w_kV, q_icst, q_lcst, q_xR, q_ldI, q_ldR, q_ldL, q_bn, q_un, q_dv, q_fI, q_fR, q_aI, q_aR, q_aN, q_tn, q_cmp, q_cmz, q_cnt, q_ctt, q_cand, q_cor, q_vn, q_vI, q_vR, q_vL, q_kI, q_kR, q_kL, q_ckI, envN, argE, List.flatMap_cons, List.flatMap_nil, Value.category, junk, oadd, osub, omul, oand, oor, oxor, odiv, orem, oshl, oshr, oushr, omax, omin]; simp [hn7, ly166, hm7, mp]
                · simp only [f_mkF, w_sI, w_sR, w_sL, w_sC, w_sk, w_sbr, w_sco, w_rV, w_rI, w_rR, w_rL, w_dI, w_sO, w_sq, w_si, w_pI, w_pZ, w_pR, w_pU, w_qI, w_qB, w_qZ, w_qU, w_qR, w_kV, q_icst, q_lcst, q_xR, q_ldI, q_ldR, q_ldL, q_bn, q_un, q_dv, q_fI, q_fR, q_aI, q_aR, q_aN, q_tn, q_cmp, q_cmz, q_cnt, q_ctt, q_cand, q_cor, q_vn, q_vI, q_vR, q_vL, q_kI, q_kR, q_kL, q_ckI, envN, argE, List.flatMap_cons, List.flatMap_nil, Value.category, junk, oadd, osub, omul, oand, oor, oxor, odiv, orem, oshl, oshr, oushr, omax, omin]; simp
                · simp only [f_mkF, w_sI, w_sR, w_sL, w_sC, w_sk, w_sbr, w_sco, w_rV, w_rI, w_rR, w_rL, w_dI, w_sO, w_sq, w_si, w_pI, w_pZ, w_pR, w_pU, w_qI, w_qB, w_qZ, w_qU, w_qR, w_kV, q_icst, q_lcst, q_xR, q_ldI, q_ldR, q_ldL, q_bn, q_un, q_dv, q_fI, q_fR, q_aI, q_aR, q_aN, q_tn, q_cmp, q_cmz, q_cnt, q_ctt, q_cand, q_cor, q_vn, q_vI, q_vR, q_vL, q_kI, q_kR, q_kL, q_ckI, envN, argE, List.flatMap_cons, List.flatMap_nil, Value.category, junk, oadd, osub, omul, oand, oor, oxor, odiv, orem, oshl, oshr, oushr, omax, omin]; simp (disch := first | omega | simp) [rk_i, rk_b, rk_o, st1, kill, Value.category, rcv, nog, inI_b, nI_clamp, nI_ltI, nI_leI, nI_eq, nI_9, nI_6, nI_22, nI_12, nI_180, nI_add, nI_1, hn7, ly166, ly177, hm7, mp, s0, s5]
                rintro E1 h8 ⟨rfl, rfl⟩
                refine w_sqS (fun E1 h8 => E1 = [.ref 166, .int (nI (W_f w)), .int (nI t), .int (nI l), .int (nI i), .int (nI g)] ∧ h8 = wI (wI h7 207 i (W_R w i 4)) 208 i (omin (W_R w i 4) (h7.2.1 209 g))) (w_qIe 208 i (omin (W_R w i 4) (h7.2.1 209 g)) ?_ ?_ ?_ (by rw [wI_1]; omega) rfl i20 (by omega) ⟨rfl, rfl, rfl⟩) ?_
                · simp only [f_mkF, w_sI, w_sR, w_sL, w_sC, w_sk, w_sbr, w_sco, w_rV, w_rI, w_rR, w_rL, w_dI, w_sO, w_sq, w_si, w_pI, w_pZ, w_pR, w_pU, w_qI, w_qB, w_qZ, w_qU, w_qR, w_kV, q_icst, q_lcst, q_xR, q_ldI, q_ldR, q_ldL, q_bn, q_un, q_dv, q_fI, q_fR, q_aI, q_aR, q_aN, q_tn, q_cmp, q_cmz, q_cnt, q_ctt, q_cand, q_cor, q_vn, q_vI, q_vR, q_vL, q_kI, q_kR, q_kL, q_ckI, envN, argE, List.flatMap_cons, List.flatMap_nil, Value.category, junk, oadd, osub, omul, oand, oor, oxor, odiv, orem, oshl, oshr, oushr, omax, omin]; simp [hn7, ly166, hm7, mp, wI_1, wI_r]
                · simp only [f_mkF, w_sI, w_sR, w_sL, w_sC, w_sk, w_sbr, w_sco, w_rV, w_rI, w_rR, w_rL, w_dI, w_sO, w_sq, w_si, w_pI, w_pZ, w_pR, w_pU, w_qI, w_qB, w_qZ, w_qU, w_qR, w_kV, q_icst, q_lcst, q_xR, q_ldI, q_ldR, q_ldL, q_bn, q_un, q_dv, q_fI, q_fR, q_aI, q_aR, q_aN, q_tn, q_cmp, q_cmz, q_cnt, q_ctt, q_cand, q_cor, q_vn, q_vI, q_vR, q_vL, q_kI, q_kR, q_kL, q_ckI, envN, argE, List.flatMap_cons, List.flatMap_nil, Value.category, junk, oadd, osub, omul, oand, oor, oxor, odiv, orem, oshl, oshr, oushr, omax, omin]; simp
                · rw [← omin_lt]
                  simp only [f_mkF, w_sI, w_sR, w_sL, w_sC, w_sk, w_sbr, w_sco, w_rV, w_rI, w_rR, w_rL, w_dI, w_sO, w_sq, w_si, w_pI, w_pZ, w_pR, w_pU, w_qI, w_qB, w_qZ, w_qU, w_qR, w_kV, q_icst, q_lcst, q_xR, q_ldI, q_ldR, q_ldL, q_bn, q_un, q_dv, q_fI, q_fR, q_aI, q_aR, q_aN, q_tn, q_cmp, q_cmz, q_cnt, q_ctt, q_cand, q_cor, q_vn, q_vI, q_vR, q_vL, q_kI, q_kR, q_kL, q_ckI, envN, argE, List.flatMap_cons, List.flatMap_nil, Value.category, junk, oadd, osub, omul, oand, oor, oxor, odiv, orem, oshl, oshr, oushr, omax, omin]
                  simp (disch := first | omega | simp) [rk_i, rk_b, rk_o, st1, kill, Value.category, rcv, nog, inI_b, nI_clamp, nI_ltI, nI_leI, nI_eq, nI_9, nI_6, nI_22, nI_12, nI_180, nI_add, nI_1, hn7, ly166, ly207, ly209, hm7, mp, wI_1, wI_r, wI_i, i20, g12]
                  try grind
                rintro E1 h8 ⟨rfl, rfl⟩
                refine w_qIe 209 g (h7.2.1 209 g - omin (W_R w i 4) (h7.2.1 209 g)) ?_ ?_ ?_ (by rw [wI_1, wI_1]; omega) rfl g12 (by omega) ⟨fun _ => ?_, (fun z => by cases z), fun z => absurd rfl z⟩
                · simp only [f_mkF, w_sI, w_sR, w_sL, w_sC, w_sk, w_sbr, w_sco, w_rV, w_rI, w_rR, w_rL, w_dI, w_sO, w_sq, w_si, w_pI, w_pZ, w_pR, w_pU, w_qI, w_qB, w_qZ, w_qU, w_qR, w_kV, q_icst, q_lcst, q_xR, q_ldI, q_ldR, q_ldL, q_bn, q_un, q_dv, q_fI, q_fR, q_aI, q_aR, q_aN, q_tn, q_cmp, q_cmz, q_cnt, q_ctt, q_cand, q_cor, q_vn, q_vI, q_vR, q_vL, q_kI, q_kR, q_kL, q_ckI, envN, argE, List.flatMap_cons, List.flatMap_nil, Value.category, junk, oadd, osub, omul, oand, oor, oxor, odiv, orem, oshl, oshr, oushr, omax, omin]; simp [hn7, ly166, hm7, mp, wI_1, wI_r]
                · simp only [f_mkF, w_sI, w_sR, w_sL, w_sC, w_sk, w_sbr, w_sco, w_rV, w_rI, w_rR, w_rL, w_dI, w_sO, w_sq, w_si, w_pI, w_pZ, w_pR, w_pU, w_qI, w_qB, w_qZ, w_qU, w_qR, w_kV, q_icst, q_lcst, q_xR, q_ldI, q_ldR, q_ldL, q_bn, q_un, q_dv, q_fI, q_fR, q_aI, q_aR, q_aN, q_tn, q_cmp, q_cmz, q_cnt, q_ctt, q_cand, q_cor, q_vn, q_vI, q_vR, q_vL, q_kI, q_kR, q_kL, q_ckI, envN, argE, List.flatMap_cons, List.flatMap_nil, Value.category, junk, oadd, osub, omul, oand, oor, oxor, odiv, orem, oshl, oshr, oushr, omax, omin]; simp
                · simp only [f_mkF, w_sI, w_sR, w_sL, w_sC, w_sk, w_sbr, w_sco, w_rV, w_rI, w_rR, w_rL, w_dI, w_sO, w_sq, w_si, w_pI, w_pZ, w_pR, w_pU, w_qI, w_qB, w_qZ, w_qU, w_qR, w_kV, q_icst, q_lcst, q_xR, q_ldI, q_ldR, q_ldL, q_bn, q_un, q_dv, q_fI, q_fR, q_aI, q_aR, q_aN, q_tn, q_cmp, q_cmz, q_cnt, q_ctt, q_cand, q_cor, q_vn, q_vI, q_vR, q_vL, q_kI, q_kR, q_kL, q_ckI, envN, argE, List.flatMap_cons, List.flatMap_nil, Value.category, junk, oadd, osub, omul, oand, oor, oxor, odiv, orem, oshl, oshr, oushr, omax, omin]; simp (disch := first | omega | simp) [rk_i, rk_b, rk_o, st1, kill, Value.category, rcv, nog, inI_b, nI_clamp, nI_ltI, nI_leI, nI_eq, nI_9, nI_6, nI_22, nI_12, nI_180, nI_add, nI_1, hn7, ly166, ly208, ly209, hm7, mp, wI_1, wI_r, wI_i, i20, g12]
                have hni1 : W_n w - i = (W_n w - (i + 1)) + 1 := by omega
                have hidx : W_n w - 1 - (W_n w - (i + 1)) = i := by omega
                refine w_sCe (nI i) (nI i - 1) rfl (Int32.sub_eq_add_neg _ _).symm rfl ⟨rfl, i, by omega, i, _, rfl, by omega, rfl, rfl, ((f7'.w (Or.inl (by omega))).w (Or.inl (by omega))).w (Or.inl (by omega)), ?_, fun k z1 z2 => ?_, fun p hp12 => ?_, fun k hk20 => ?_, ?_⟩
                · rw [hd, dwn, if_pos hok]
                · by_cases hki : k = i
                  · rw [hki]; exact hs0
                  · exact hs k (by omega) z2
                · rw [hni1, prs, hidx, hg3, wI_i]
                  dsimp only
                  by_cases hpg : p = g
                  · rw [if_pos ⟨rfl, hpg⟩, if_pos hpg, e65i, hpg]
                  · rw [if_neg (by omega), if_neg hpg, wI_o (by decide), wI_o (by decide), k7 209 p (by omega)]
                    exact hp p hp12
                · have w7 : (wI (wI (wI h7 207 i (W_R w i 4)) 208 i (omin (W_R w i 4) (h7.2.1 209 g))) 209 g (h7.2.1 209 g - omin (W_R w i 4) (h7.2.1 209 g))).2.1 207 k = if k = i then W_R w i 4 else h7.2.1 207 k := by simp [wI_i]
                  have w8 : (wI (wI (wI h7 207 i (W_R w i 4)) 208 i (omin (W_R w i 4) (h7.2.1 209 g))) 209 g (h7.2.1 209 g - omin (W_R w i 4) (h7.2.1 209 g))).2.1 208 k = if k = i then omin (W_R w i 4) (h7.2.1 209 g) else h7.2.1 208 k := by simp [wI_i]
                  rw [w7, w8]
                  by_cases hki : k = i
                  · subst hki
                    simp only [if_true, Nat.le_refl]
                    refine ⟨trivial, ?_⟩
                    unfold gft
                    rw [show W_n w - 1 - (W_n w - 1 - k) = k by omega, show W_n w - 1 - k = W_n w - (k + 1) by omega, hg3, e65i]
                  · obtain ⟨x1, x2⟩ := hk k hk20
                    rw [if_neg hki, if_neg hki, k7 207 k (by omega), k7 208 k (by omega), x1, x2]
                    by_cases hki2 : i ≤ k
                    · have hki3 : i + 1 ≤ k := by omega
                      simp [hki2, hki3]
                    · have hki3 : ¬ i + 1 ≤ k := by omega
                      simp [hki2, hki3]
                · rw [wI_o (by decide), wI_o (by decide), wI_o (by decide)]; exact k756
          · have hno : okk w i = false := by unfold okk; simp [hk0]
            refine w_sq.mpr ((w_siT ?_).mpr ?_)
            · simp only [f_mkF, w_sI, w_sR, w_sL, w_sC, w_sk, w_sbr, w_sco, w_rV, w_rI, w_rR, w_rL, w_dI, w_sO, w_sq, w_si, w_pI, w_pZ, w_pR, w_pU, w_qI, w_qB, w_qZ, w_qU, w_qR, w_kV, q_icst, q_lcst, q_xR, q_ldI, q_ldR, q_ldL, q_bn, q_un, q_dv, q_fI, q_fR, q_aI, q_aR, q_aN, q_tn, q_cmp, q_cmz, q_cnt, q_ctt, q_cand, q_cor, q_vn, q_vI, q_vR, q_vL, q_kI, q_kR, q_kL, q_ckI, envN, argE, List.flatMap_cons, List.flatMap_nil, Value.category, junk, oadd, osub, omul, oand, oor, oxor, odiv, orem, oshl, oshr, oushr, omax, omin]
              simp (disch := first | omega | simp) [rk_i, rk_b, rk_o, st1, kill, Value.category, rcv, nog, inI_b, nI_clamp, nI_ltI, nI_leI, nI_eq, nI_9, nI_6, nI_22, nI_12, nI_180, nI_add, nI_1, hni, ly166, ly173, hmi, mp, r0, r1, hk0, kz]
            · rw [w_rV]
              exact ⟨(fun z => by cases z), fun _ => ⟨(fun z => by rcases z with z | z <;> cases z), (fun z => by cases z), fun _ _ _ => ⟨Or.inr rfl, hstop h' (Fr.refl _) hno⟩⟩⟩
      · rintro o v E1 h7 ⟨rfl | rfl, f7, ar⟩
        · refine ⟨fun _ => ?_, fun z => absurd rfl z⟩
          rw [w_rV]
          exact Or.inl ⟨rfl, rfl, rfl, f7, ar⟩
        · exact ⟨(fun z => by cases z), fun _ => Or.inl ⟨rfl, rfl, rfl, f7, ar⟩⟩
    by_cases hk0 : kd w l = 0
    · have hsl : stt w 0 (lows w) l ≠ 0 := last_nz (by rw [← hl]; exact hsn) (by omega)
      have l22 : l < 22 := by omega
      rw [w_sq, w_si, q_cand]
      refine ev_T ?_ ⟨fun _ => ?_, fun z => (by cases z)⟩
      · simp only [f_mkF, w_sI, w_sR, w_sL, w_sC, w_sk, w_sbr, w_sco, w_rV, w_rI, w_rR, w_rL, w_dI, w_sO, w_sq, w_si, w_pI, w_pZ, w_pR, w_pU, w_qI, w_qB, w_qZ, w_qU, w_qR, w_kV, q_icst, q_lcst, q_xR, q_ldI, q_ldR, q_ldL, q_bn, q_un, q_dv, q_fI, q_fR, q_aI, q_aR, q_aN, q_tn, q_cmp, q_cmz, q_cnt, q_ctt, q_cand, q_cor, q_vn, q_vI, q_vR, q_vL, q_kI, q_kR, q_kL, q_ckI, envN, argE, List.flatMap_cons, List.flatMap_nil, Value.category, junk, oadd, osub, omul, oand, oor, oxor, odiv, orem, oshl, oshr, oushr, omax, omin]
        simp (disch := first | omega | simp) [rk_i, rk_b, rk_o, st1, kill, Value.category, rcv, nog, inI_b, nI_clamp, nI_ltI, nI_leI, nI_eq, nI_9, nI_6, nI_22, nI_12, nI_180, nI_add, nI_1, hn5, ly166, ly173, hm5, mp, r0, r1, hk0, nI_0]
      rw [q_cnt, q_cmz]
      refine q_kIe [.ref 166, .int (nI (W_f w)), .int (nI t), .int (nI l), .int (nI 0), .int (chL 6), .int (own w (stt w 0 (lows w) l) l)] (by simp only [f_mkF, w_sI, w_sR, w_sL, w_sC, w_sk, w_sbr, w_sco, w_rV, w_rI, w_rR, w_rL, w_dI, w_sO, w_sq, w_si, w_pI, w_pZ, w_pR, w_pU, w_qI, w_qB, w_qZ, w_qU, w_qR, w_kV, q_icst, q_lcst, q_xR, q_ldI, q_ldR, q_ldL, q_bn, q_un, q_dv, q_fI, q_fR, q_aI, q_aR, q_aN, q_tn, q_cmp, q_cmz, q_cnt, q_ctt, q_cand, q_cor, q_vn, q_vI, q_vR, q_vL, q_kI, q_kR, q_kL, q_ckI, envN, argE, List.flatMap_cons, List.flatMap_nil, Value.category, junk, oadd, osub, omul, oand, oor, oxor, odiv, orem, oshl, oshr, oushr, omax, omin]; simp (disch := first | omega | simp) [rk_i, rk_b, rk_o, st1, kill, Value.category, rcv, nog, inI_b, nI_clamp, nI_ltI, nI_leI, nI_eq, nI_9, nI_6, nI_22, nI_12, nI_180, nI_add, nI_1, hn5, ly166, ly197, hm5, mp, l22, (hR5 l hln).1, chL, nI_0]) (by simp [rcv, hn5, ly166]) ?_
      refine fq_mono (hgives l 6 h5 hln hk0 hsl (by omega) f5) ?_
      rintro r h6 ⟨rfl, f6⟩
      refine ⟨_, rfl, ?_⟩
      cases hcl : clm w l 6 with
      | true =>
        refine ⟨fun _ => ?_, fun z => ?_⟩
        · have hm1 : mde w = 1 := by
            unfold mde
            rw [if_neg ho, hl2, if_pos ⟨hk0, hcl⟩]
          have f6' : Fr (fun a k => (207 ≤ a ∧ a ≤ 209) ∨ (a = 166 ∧ k = 56) ∨ SG a k) h1 h6 := f5.trans (f6.sub fun a k z => Or.inr (Or.inr z))
          obtain ⟨q6, hR6, g51, -, -, -, -, -, g6'⟩ := base h6 f6'
          have hn6 := q6.1.1
          have hm6 : ∀ k, h6.2.2 166 k = mp k := q6.1.2.2
          obtain ⟨s0, s1, s2, s3, s4, s5, s6⟩ := q6.row hln
          rw [hC]
          refine w_fz fun B2 hB2 C2 hC2 => ?_
          simp only [f_mkF, w_sI, w_sR, w_sL, w_sC, w_sk, w_sbr, w_sco, w_rV, w_rI, w_rR, w_rL, w_dI, w_sO, w_sq, w_si, w_pI, w_pZ, w_pR, w_pU, w_qI, w_qB, w_qZ, w_qU, w_qR, w_kV, q_icst, q_lcst, q_xR, q_ldI, q_ldR, q_ldL, q_bn, q_un, q_dv, q_fI, q_fR, q_aI, q_aR, q_aN, q_tn, q_cmp, q_cmz, q_cnt, q_ctt, q_cand, q_cor, q_vn, q_vI, q_vR, q_vL, q_kI, q_kR, q_kL, q_ckI, envN, argE, List.flatMap_cons, List.flatMap_nil, Value.category, junk, oadd, osub, omul, oand, oor, oxor, odiv, orem, oshl, oshr, oushr, omax, omin]
          simp (disch := first | omega | simp) [rk_i, rk_b, rk_o, st1, kill, Value.category, rcv, nog, inI_b, nI_clamp, nI_ltI, nI_leI, nI_eq, nI_9, nI_6, nI_22, nI_12, nI_180, nI_add, nI_1, hn6, ly166, ly177, hm6, mp, s0, s5]
          subst hB2 hC2
          rw [w_rV]
          refine ⟨(fun z => by cases z), fun _ => Or.inl ⟨rfl, rfl, rfl, g6'.w (by unfold SAm; omega), fun k hk => ?_, ?_, ?_⟩⟩
          · have : ¬ frA w ≤ k := by unfold frA; rw [if_neg (by omega)]; omega
            rw [if_neg this, if_neg this, wI_o (show (207 : Nat) ≠ 166 by decide), wI_o (show (208 : Nat) ≠ 166 by decide), f6.2.2 207 k (by unfold SG; omega), f6.2.2 208 k (by unfold SG; omega)]
            exact e5 k hk
          · unfold bck
            rw [if_neg (by omega), if_pos hm1, hl2]
            simp [wI_i]
          · simpa [wI_i] using g51
        · simp [b2] at z
      | false =>
        refine ⟨fun z => ?_, fun _ => ?_⟩
        · simp [b2] at z
        · refine w_sk2.mpr (hrest h6 f6 ?_)
          unfold mde
          rw [if_neg ho, hl2, if_neg (by rw [hcl]; simp)]
    · refine w_sq.mpr ((w_siF ?_).mpr (w_sk2.mpr (hrest h5 (Fr.refl _) ?_)))
      · simp only [f_mkF, w_sI, w_sR, w_sL, w_sC, w_sk, w_sbr, w_sco, w_rV, w_rI, w_rR, w_rL, w_dI, w_sO, w_sq, w_si, w_pI, w_pZ, w_pR, w_pU, w_qI, w_qB, w_qZ, w_qU, w_qR, w_kV, q_icst, q_lcst, q_xR, q_ldI, q_ldR, q_ldL, q_bn, q_un, q_dv, q_fI, q_fR, q_aI, q_aR, q_aN, q_tn, q_cmp, q_cmz, q_cnt, q_ctt, q_cand, q_cor, q_vn, q_vI, q_vR, q_vL, q_kI, q_kR, q_kL, q_ckI, envN, argE, List.flatMap_cons, List.flatMap_nil, Value.category, junk, oadd, osub, omul, oand, oor, oxor, odiv, orem, oshl, oshr, oushr, omax, omin]
        simp (disch := first | omega | simp) [rk_i, rk_b, rk_o, st1, kill, Value.category, rcv, nog, inI_b, nI_clamp, nI_ltI, nI_leI, nI_eq, nI_9, nI_6, nI_22, nI_12, nI_180, nI_add, nI_1, hn5, ly166, ly173, hm5, mp, r0, r1, hk0, kz]
      · unfold mde
        rw [if_neg ho, hl2, if_neg fun z => hk0 z.1]
