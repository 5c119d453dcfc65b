/-! asked, back, out -/
/-- what the class may change in cells of its own -/
def SK2 (a _k : Nat) : Prop := a = 22 ∨ (147 ≤ a ∧ a ≤ 165)
def Fk (h h' : Hp) : Prop := h'.1 = h.1 ∧ (∀ a k, ¬ (a = 147 ∧ k = 12) → h'.2.2 a k = h.2.2 a k) ∧ ∀ a k, ¬ SK2 a k → h'.2.1 a k = h.2.1 a k
theorem Fj.k {h h' : Hp} (f : Fj h h') : Fk h h' := ⟨f.1, f.2.1, fun a k z => f.2.2 a k fun y => z (by unfold SJ SX at y; unfold SK2; omega)⟩
theorem Fk.trans {h h1 h2 : Hp} (a : Fk h h1) (b : Fk h1 h2) : Fk h h2 := ⟨b.1.trans a.1, fun x k q => (b.2.1 x k q).trans (a.2.1 x k q), fun x k q => (b.2.2 x k q).trans (a.2.2 x k q)⟩
theorem Fk.of {S : Nat → Nat → Prop} {h h1 : Hp} (a : Fr S h h1) (hS : ∀ x k, S x k → SK2 x k) : Fk h h1 := ⟨a.1, fun x k _ => by rw [a.2.1], fun x k q => a.2.2 x k fun z => q (hS x k z)⟩
theorem Fk.ip {h h1 : Hp} (a : Fk h h1) (q : Ip h) : Ip h1 := Ip_q a.1 (fun x k z => a.2.1 x k fun y => z (Or.inl y)) q
theorem MX.fk {w : Wd} {t : Nat} {h h' : Hp} (q : MX w t h) (f : Fk h h') : MX w t h' := q.gen (f.ip q.1) fun a k z => f.2.2 a k (by unfold SK2; omega)
theorem inv_k {n : Nat} {h h1 h2 : Hp} (q : INV LWc n h) (fj : Fk h h1) {S : Nat → Nat → Prop} (fr : Fr S h1 h2) (hS : ∀ a k, S a k → (194 ≤ a ∧ a ≤ 211) ∨ (a = 166 ∧ 41 ≤ k)) {c : Nat} (hc : c ≤ 20 * (n + 1)) (ic : IC c h1) : INV LWc (n + 1) h2 := by
  refine INV_q q (fr.1.trans fj.1) (fun a k z => ?_) (fun a k z => ?_) ?_ ?_
  · rw [fr.2.1]
    exact fj.2.1 a k fun y => z (Or.inl y)
  · rw [fr.2.2 a k fun y => z (by have := hS a k y; unfold SQ; omega)]
    exact fj.2.2 a k fun y => z (by unfold SK2 at y; unfold SQ; omega)
  · have := q.2.2.2.2.2.2.2.2.2.1.2
    unfold Ipai at *
    rw [fr.2.1, fj.2.1 157 3 (by omega), fj.2.1 157 4 (by omega)]
    exact this
  · obtain ⟨⟨i1, i2⟩, i3⟩ := ic
    have e1 : h2.2.1 147 10 = h1.2.1 147 10 := fr.2.2 147 10 fun y => by have := hS _ _ y; omega
    refine ⟨by rw [e1]; omega, fun k => ?_⟩
    rw [e1, fr.2.2 155 k fun y => by have := hS _ _ y; omega]
    exact i3 k
theorem IC.as {c : Nat} {h h' : Hp} (q : IC c h) (f : Fr SAs h h') : IC c h' := by
  obtain ⟨q1, q2⟩ := q
  refine ⟨by rw [f.2.2 147 10 (by unfold SAs S9; omega)]; exact q1, fun k => ?_⟩
  rw [f.2.2 147 10 (by unfold SAs S9; omega), f.2.2 155 k (by unfold SAs S9; omega)]
  exact q2 k
theorem SAs_K {a k : Nat} (z : SAs a k) : SK2 a k := by unfold SAs S9 at z; unfold SK2; omega
/-- persons: how many, and that every giver is one -/
theorem giv_of {n : Nat} {h : Hp} (q : INV LWc n h) {t : Nat} (ht : t < 4) (htt : nI t < h.2.1 166 2) {w : Wd} (hR : W_R w = mrow h t) (hfo : W_fo w = h.2.1 170 t) (hv : ∀ i, i < W_n w → rowV (h.2.1 166 1).toInt (h.2.1 166 0).toInt (mrow h t i)) : ∃ np, h.2.1 166 1 = nI np ∧ np ≤ 12 ∧ ∀ i, i ≤ W_n w → (frm (W_R w) (W_fo w) i).toInt < np := by
  have q2 := q.2.2.1
  have q6 := q.2.2.2.2.2.2.1
  have z := (q6.2.2 t ht).2.2.2 (by
    rw [Int32.lt_iff_toInt_lt, nI_toInt (by omega)] at htt
    omega)
  have c := clampI q2.2.1.1
  refine ⟨(h.2.1 166 1).toNatClampNeg, nI_toI q2.2.1.1, by have := q2.2.1.2; omega, fun i hi => ?_⟩
  unfold frm
  by_cases hz : i = 0
  · rw [if_pos hz, hfo]
    have := z.2.1.2
    omega
  · rw [if_neg hz, hR]
    have := (hv (i - 1) (by omega)).2.1.2
    omega
theorem pur_of {n : Nat} {h : Hp} (q : INV LWc n h) : h.2.1 2 = h.2.1 168 := funext fun i => q.2.2.1.2.2.2.1 i
theorem g_back : AG (INV LWc) F_X10_back F_X11_back 2 := by
  intro n h vs hl hn5 q
  match vs, hl with
  | [a, b], _ =>
    have hn := q.1.1
    by_cases hc : (0 ≤ a ∧ a ≤ 5) ∧ (0 ≤ b ∧ b < h.2.1 166 2)
    · obtain ⟨f, hf, rfl⟩ := land_num hc.1
      obtain ⟨t, ht, rfl⟩ := th_num q hc.2.1 hc.2.2
      obtain ⟨w, ra, y, m, e72, rfl, hno, hRw, ⟨hwo, hfo⟩, -, hv, -⟩ := wd_of q hf ht hc.2.2
      obtain ⟨np, n1, n2, n3⟩ := giv_of q ht hc.2.2 hRw hfo hv
      have hP := pur_of q
      have X : fq F_X10_back [.ref 0, .int (nI (W_f w)), .int (nI t)] h fun r h' => r = some (.int (bck w)) ∧ Fk h h' ∧ IC (20 * n + 1) h' := by
        unfold F_X10_back
        refine f_mkE _ rfl (by simp [argE, Value.category]) ?_
        refine w_sq.mpr ((w_siF (by simp only [f_mkF, w_sI, w_sR, w_sL, w_sC, w_sk, w_sbr, w_sco, w_rV, w_rI, w_rR, w_rL, w_dI, w_sO, w_sq, w_si, w_pI, w_pZ, w_pR, w_pU, w_qI, w_qB, w_qZ, w_qU, w_qR, w_kV, q_icst, q_lcst, q_xR, q_ldI, q_ldR, q_ldL, q_bn, q_un, q_dv, q_fI, q_fR, q_aI, q_aR, q_aN, q_tn, q_cmp, q_cmz, q_cnt, q_ctt, q_cand, q_cor, q_vn, q_vI, q_vR, q_vL, q_kI, q_kR, q_kL, q_ckI, envN, argE, List.flatMap_cons, List.flatMap_nil, Value.category, junk, oadd, osub, omul, oand, oor, oxor, odiv, orem, oshl, oshr, oushr, omax, omin]; simp (disch := first | omega | simp) [rk_i, rk_b, rk_o, st1, kill, Value.category, rcv, nog, inI_b, nI_clamp, nI_ltI, nI_leI, nI_eq, nI_9, nI_6, nI_22, nI_12, nI_180, nI_add, nI_1, hn, ly0, fq_of (e_x_isLand _ _), fq_of (i_x_isThing q _), b2_0, hc, zne, zeq])).mpr (w_sk2.mpr ?_))
        refine w_fz fun B hB C hC => ?_
        simp only [f_mkF, w_sI, w_sR, w_sL, w_sC, w_sk, w_sbr, w_sco, w_rV, w_rI, w_rR, w_rL, w_dI, w_sO, w_sq, w_si, w_pI, w_pZ, w_pR, w_pU, w_qI, w_qB, w_qZ, w_qU, w_qR, w_kV, q_icst, q_lcst, q_xR, q_ldI, q_ldR, q_ldL, q_bn, q_un, q_dv, q_fI, q_fR, q_aI, q_aR, q_aN, q_tn, q_cmp, q_cmz, q_cnt, q_ctt, q_cand, q_cor, q_vn, q_vI, q_vR, q_vL, q_kI, q_kR, q_kL, q_ckI, envN, argE, List.flatMap_cons, List.flatMap_nil, Value.category, junk, oadd, osub, omul, oand, oor, oxor, odiv, orem, oshl, oshr, oushr, omax, omin]
        simp (disch := first | omega | simp) [rk_i, rk_b, rk_o, st1, kill, Value.category, rcv, nog, inI_b, nI_clamp, nI_ltI, nI_leI, nI_eq, nI_9, nI_6, nI_22, nI_12, nI_180, nI_add, nI_1, hn, ly0]
        refine fq_mono (x_judge y (by omega) (inv_ic q) ht rfl (by rw [q.2.1.1, hno])) ?_
        rintro r h1 ⟨rfl, fj, ic, cx, -, hX, -⟩
        simp
        subst hB hC
        have hn1 := cx.1.1
        have p10 : h1.2.2 0 10 = some 162 := cx.1.2.1.at 10 rfl
        have p1' : h1.2.2 0 1 = some 2 := cx.1.2.1.at 1 rfl
        refine w_fz fun B hB C hC => ?_
        simp only [f_mkF, w_sI, w_sR, w_sL, w_sC, w_sk, w_sbr, w_sco, w_rV, w_rI, w_rR, w_rL, w_dI, w_sO, w_sq, w_si, w_pI, w_pZ, w_pR, w_pU, w_qI, w_qB, w_qZ, w_qU, w_qR, w_kV, q_icst, q_lcst, q_xR, q_ldI, q_ldR, q_ldL, q_bn, q_un, q_dv, q_fI, q_fR, q_aI, q_aR, q_aN, q_tn, q_cmp, q_cmz, q_cnt, q_ctt, q_cand, q_cor, q_vn, q_vI, q_vR, q_vL, q_kI, q_kR, q_kL, q_ckI, envN, argE, List.flatMap_cons, List.flatMap_nil, Value.category, junk, oadd, osub, omul, oand, oor, oxor, odiv, orem, oshl, oshr, oushr, omax, omin]
        simp (disch := first | omega | simp) [rk_i, rk_b, rk_o, st1, kill, Value.category, rcv, nog, inI_b, nI_clamp, nI_ltI, nI_leI, nI_eq, nI_9, nI_6, nI_22, nI_12, nI_180, nI_add, nI_1, hn1, ly0, ly162, p10, p1']
        refine fq_mono (x_settle cx hX) ?_
        rintro r h2 ⟨rfl, f2, ar⟩
        simp
        subst hB hC
        have hn2 : h2.1 = 212 := f2.1.trans hn1
        have fk := fj.k.trans (Fk.of f2 fun x k z => SAs_K z)
        have ic2 := ic.as f2
        simp only [f_mkF, w_sI, w_sR, w_sL, w_sC, w_sk, w_sbr, w_sco, w_rV, w_rI, w_rR, w_rL, w_dI, w_sO, w_sq, w_si, w_pI, w_pZ, w_pR, w_pU, w_qI, w_qB, w_qZ, w_qU, w_qR, w_kV, q_icst, q_lcst, q_xR, q_ldI, q_ldR, q_ldL, q_bn, q_un, q_dv, q_fI, q_fR, q_aI, q_aR, q_aN, q_tn, q_cmp, q_cmz, q_cnt, q_ctt, q_cand, q_cor, q_vn, q_vI, q_vR, q_vL, q_kI, q_kR, q_kL, q_ckI, envN, argE, List.flatMap_cons, List.flatMap_nil, Value.category, junk, oadd, osub, omul, oand, oor, oxor, odiv, orem, oshl, oshr, oushr, omax, omin]
        simp [rk_i, rk_b, rk_o, st1, kill, Value.category, rcv, nog, hn2, ly0, ly162, f2.2.1, p10, ar.2, fk, ic2]
      obtain ⟨r, h1, e1, rfl, fj, ic⟩ := X
      have m1 := m.fk fj
      have hn1 := m1.1.1
      have e72' : h1.2.1 172 t = nI (W_n w) := (fj.2.2 172 t (by unfold SK2; omega)).trans e72
      have e2' : h1.2.1 166 2 = h.2.1 166 2 := fj.2.2 166 2 (by unfold SK2; omega)
      have n1' : h1.2.1 166 1 = nI np := (fj.2.2 166 1 (by unfold SK2; omega)).trans n1
      have Y : fq F_X11_back [.ref 166, .int (nI (W_f w)), .int (nI t)] h1 fun r h' => r = some (.int (bck w)) ∧ Fr SAm h1 h' := by
        unfold F_X11_back
        refine f_mkE _ rfl (by simp [argE, Value.category]) ?_
        refine w_sq.mpr ((w_siF (by simp only [f_mkF, w_sI, w_sR, w_sL, w_sC, w_sk, w_sbr, w_sco, w_rV, w_rI, w_rR, w_rL, w_dI, w_sO, w_sq, w_si, w_pI, w_pZ, w_pR, w_pU, w_qI, w_qB, w_qZ, w_qU, w_qR, w_kV, q_icst, q_lcst, q_xR, q_ldI, q_ldR, q_ldL, q_bn, q_un, q_dv, q_fI, q_fR, q_aI, q_aR, q_aN, q_tn, q_cmp, q_cmz, q_cnt, q_ctt, q_cand, q_cor, q_vn, q_vI, q_vR, q_vL, q_kI, q_kR, q_kL, q_ckI, envN, argE, List.flatMap_cons, List.flatMap_nil, Value.category, junk, oadd, osub, omul, oand, oor, oxor, odiv, orem, oshl, oshr, oushr, omax, omin]; simp (disch := first | omega | simp) [rk_i, rk_b, rk_o, st1, kill, Value.category, rcv, nog, inI_b, nI_clamp, nI_ltI, nI_leI, nI_eq, nI_9, nI_6, nI_22, nI_12, nI_180, nI_add, nI_1, hn1, ly166, fq_of (m_can hn1 _ _), b2_0, e2', hc, zne, zeq])).mpr (w_sk2.mpr ?_))
        refine w_fz fun B hB C hC => ?_
        simp only [f_mkF, w_sI, w_sR, w_sL, w_sC, w_sk, w_sbr, w_sco, w_rV, w_rI, w_rR, w_rL, w_dI, w_sO, w_sq, w_si, w_pI, w_pZ, w_pR, w_pU, w_qI, w_qB, w_qZ, w_qU, w_qR, w_kV, q_icst, q_lcst, q_xR, q_ldI, q_ldR, q_ldL, q_bn, q_un, q_dv, q_fI, q_fR, q_aI, q_aR, q_aN, q_tn, q_cmp, q_cmz, q_cnt, q_ctt, q_cand, q_cor, q_vn, q_vI, q_vR, q_vL, q_kI, q_kR, q_kL, q_ckI, envN, argE, List.flatMap_cons, List.flatMap_nil, Value.category, junk, oadd, osub, omul, oand, oor, oxor, odiv, orem, oshl, oshr, oushr, omax, omin]
        simp (disch := first | omega | simp) [rk_i, rk_b, rk_o, st1, kill, Value.category, rcv, nog, inI_b, nI_clamp, nI_ltI, nI_leI, nI_eq, nI_9, nI_6, nI_22, nI_12, nI_180, nI_add, nI_1, hn1, ly166]
        refine fq_mono (m_asks_all m1 e72' n1' n2 n3) ?_
        rintro r h2 ⟨rfl, f2, ar⟩
        simp
        subst hB hC
        have hn2 : h2.1 = 212 := f2.1.trans hn1
        simp only [f_mkF, w_sI, w_sR, w_sL, w_sC, w_sk, w_sbr, w_sco, w_rV, w_rI, w_rR, w_rL, w_dI, w_sO, w_sq, w_si, w_pI, w_pZ, w_pR, w_pU, w_qI, w_qB, w_qZ, w_qU, w_qR, w_kV, q_icst, q_lcst, q_xR, q_ldI, q_ldR, q_ldL, q_bn, q_un, q_dv, q_fI, q_fR, q_aI, q_aR, q_aN, q_tn, q_cmp, q_cmz, q_cnt, q_ctt, q_cand, q_cor, q_vn, q_vI, q_vR, q_vL, q_kI, q_kR, q_kL, q_ckI, envN, argE, List.flatMap_cons, List.flatMap_nil, Value.category, junk, oadd, osub, omul, oand, oor, oxor, odiv, orem, oshl, oshr, oushr, omax, omin]
        simp [rk_i, rk_b, rk_o, st1, kill, Value.category, rcv, nog, hn2, ly166, ar.2.1, f2]
      obtain ⟨r, h2, e2, rfl, f2⟩ := Y
      exact ⟨_, h1, h2, e1, hn1, e2, inv_k q fj f2 SAm_ok (by omega) ic⟩
    · refine ⟨-1, h, h, ?_, hn, ?_, INV_up q⟩
      · rw [← fq_eq]
        unfold F_X10_back
        refine f_mkE _ rfl (by simp [argE, Value.category]) ?_
        refine w_sq.mpr ((w_siT ?_).mpr ?_)
        · simp only [f_mkF, w_sI, w_sR, w_sL, w_sC, w_sk, w_sbr, w_sco, w_rV, w_rI, w_rR, w_rL, w_dI, w_sO, w_sq, w_si, w_pI, w_pZ, w_pR, w_pU, w_qI, w_qB, w_qZ, w_qU, w_qR, w_kV, q_icst, q_lcst, q_xR, q_ldI, q_ldR, q_ldL, q_bn, q_un, q_dv, q_fI, q_fR, q_aI, q_aR, q_aN, q_tn, q_cmp, q_cmz, q_cnt, q_ctt, q_cand, q_cor, q_vn, q_vI, q_vR, q_vL, q_kI, q_kR, q_kL, q_ckI, envN, argE, List.flatMap_cons, List.flatMap_nil, Value.category, junk, oadd, osub, omul, oand, oor, oxor, odiv, orem, oshl, oshr, oushr, omax, omin]
          simp [rk_i, rk_b, rk_o, st1, kill, Value.category, rcv, nog, fq_of (e_x_isLand _ _), fq_of (i_x_isThing q _), b2_0, hn, ly0, zne, zeq]
          grind
        · simp only [f_mkF, w_sI, w_sR, w_sL, w_sC, w_sk, w_sbr, w_sco, w_rV, w_rI, w_rR, w_rL, w_dI, w_sO, w_sq, w_si, w_pI, w_pZ, w_pR, w_pU, w_qI, w_qB, w_qZ, w_qU, w_qR, w_kV, q_icst, q_lcst, q_xR, q_ldI, q_ldR, q_ldL, q_bn, q_un, q_dv, q_fI, q_fR, q_aI, q_aR, q_aN, q_tn, q_cmp, q_cmz, q_cnt, q_ctt, q_cand, q_cor, q_vn, q_vI, q_vR, q_vL, q_kI, q_kR, q_kL, q_ckI, envN, argE, List.flatMap_cons, List.flatMap_nil, Value.category, junk, oadd, osub, omul, oand, oor, oxor, odiv, orem, oshl, oshr, oushr, omax, omin]; simp [rk_i, rk_b, rk_o, st1, kill, Value.category, rcv, nog]
      · rw [← fq_eq]
        unfold F_X11_back
        refine f_mkE _ rfl (by simp [argE, Value.category]) ?_
        refine w_sq.mpr ((w_siT ?_).mpr ?_)
        · simp only [f_mkF, w_sI, w_sR, w_sL, w_sC, w_sk, w_sbr, w_sco, w_rV, w_rI, w_rR, w_rL, w_dI, w_sO, w_sq, w_si, w_pI, w_pZ, w_pR, w_pU, w_qI, w_qB, w_qZ, w_qU, w_qR, w_kV, q_icst, q_lcst, q_xR, q_ldI, q_ldR, q_ldL, q_bn, q_un, q_dv, q_fI, q_fR, q_aI, q_aR, q_aN, q_tn, q_cmp, q_cmz, q_cnt, q_ctt, q_cand, q_cor, q_vn, q_vI, q_vR, q_vL, q_kI, q_kR, q_kL, q_ckI, envN, argE, List.flatMap_cons, List.flatMap_nil, Value.category, junk, oadd, osub, omul, oand, oor, oxor, odiv, orem, oshl, oshr, oushr, omax, omin]
          simp [rk_i, rk_b, rk_o, st1, kill, Value.category, rcv, nog, fq_of (m_can hn _ _), b2_0, hn, ly166, zne, zeq]
          grind
        · simp only [f_mkF, w_sI, w_sR, w_sL, w_sC, w_sk, w_sbr, w_sco, w_rV, w_rI, w_rR, w_rL, w_dI, w_sO, w_sq, w_si, w_pI, w_pZ, w_pR, w_pU, w_qI, w_qB, w_qZ, w_qU, w_qR, w_kV, q_icst, q_lcst, q_xR, q_ldI, q_ldR, q_ldL, q_bn, q_un, q_dv, q_fI, q_fR, q_aI, q_aR, q_aN, q_tn, q_cmp, q_cmz, q_cnt, q_ctt, q_cand, q_cor, q_vn, q_vI, q_vR, q_vL, q_kI, q_kR, q_kL, q_ckI, envN, argE, List.flatMap_cons, List.flatMap_nil, Value.category, junk, oadd, osub, omul, oand, oor, oxor, odiv, orem, oshl, oshr, oushr, omax, omin]; simp [rk_i, rk_b, rk_o, st1, kill, Value.category, rcv, nog]
theorem g_asked : AG (INV LWc) F_X10_asked F_X11_asked 4 := by
  intro n h vs hl hn5 q
  match vs, hl with
  | [a, b, c, d], _ =>
    have hn := q.1.1
    by_cases hc : (0 ≤ a ∧ a ≤ 5) ∧ ((0 ≤ b ∧ b < h.2.1 166 2) ∧ 0 ≤ c ∧ c < h.2.1 172 b.toNatClampNeg) ∧ (0 ≤ d ∧ d ≤ 1)
    · obtain ⟨f, hf, rfl⟩ := land_num hc.1
      obtain ⟨t, i, m0, ht, rfl, rfl, hi, hm0, e72o⟩ := pa_num q hc.2.1
      obtain ⟨w, ra, y, m, e72, rfl, hno, hRw, ⟨hwo, hfo⟩, -, hv, -⟩ := wd_of q hf ht hc.2.1.1.2
      obtain ⟨np, n1, n2, n3⟩ := giv_of q ht hc.2.1.1.2 hRw hfo hv
      have hP := pur_of q
      have hi' : i < W_n w := by
        rw [e72o] at e72
        have := m.wv.1
        rw [nI_eq (by omega) (by omega)] at e72
        omega
      have n20 := m.wv.1
      have hlt : nI i < h.2.1 172 t := by rw [e72, nI_ltI (by omega) (by omega)]; exact hi'
      have i20 : i < 20 := by omega
      have i22 : i < 22 := by omega
      have X : fq F_X10_asked [.ref 0, .int (nI (W_f w)), .int (nI t), .int (nI i), .int d] h fun r h' => r = some (.int (if frA w ≤ i then (if d = 0 then W_R w i 4 else gft w (h.2.1 168) (W_n w - 1 - i)) else -2)) ∧ Fk h h' ∧ IC (20 * n + 1) h' := by
        unfold F_X10_asked
        refine f_mkE _ rfl (by simp [argE, Value.category]) ?_
        refine w_sq.mpr ((w_siF (by simp only [f_mkF, w_sI, w_sR, w_sL, w_sC, w_sk, w_sbr, w_sco, w_rV, w_rI, w_rR, w_rL, w_dI, w_sO, w_sq, w_si, w_pI, w_pZ, w_pR, w_pU, w_qI, w_qB, w_qZ, w_qU, w_qR, w_kV, q_icst, q_lcst, q_xR, q_ldI, q_ldR, q_ldL, q_bn, q_un, q_dv, q_fI, q_fR, q_aI, q_aR, q_aN, q_tn, q_cmp, q_cmz, q_cnt, q_ctt, q_cand, q_cor, q_vn, q_vI, q_vR, q_vL, q_kI, q_kR, q_kL, q_ckI, envN, argE, List.flatMap_cons, List.flatMap_nil, Value.category, junk, oadd, osub, omul, oand, oor, oxor, odiv, orem, oshl, oshr, oushr, omax, omin]; simp (disch := first | omega | simp) [rk_i, rk_b, rk_o, st1, kill, Value.category, rcv, nog, inI_b, nI_clamp, nI_ltI, nI_leI, nI_eq, nI_9, nI_6, nI_22, nI_12, nI_180, nI_add, nI_1, hn, ly0, fq_of (e_x_isLand _ _), fq_of (i_x_isPassing q _ _), fq_of (e_x_isWithin _ _ _ _), b2_0, hc, hlt, zne, zeq])).mpr (w_sk2.mpr ?_))
        refine w_fz fun B hB C hC => ?_
        simp only [f_mkF, w_sI, w_sR, w_sL, w_sC, w_sk, w_sbr, w_sco, w_rV, w_rI, w_rR, w_rL, w_dI, w_sO, w_sq, w_si, w_pI, w_pZ, w_pR, w_pU, w_qI, w_qB, w_qZ, w_qU, w_qR, w_kV, q_icst, q_lcst, q_xR, q_ldI, q_ldR, q_ldL, q_bn, q_un, q_dv, q_fI, q_fR, q_aI, q_aR, q_aN, q_tn, q_cmp, q_cmz, q_cnt, q_ctt, q_cand, q_cor, q_vn, q_vI, q_vR, q_vL, q_kI, q_kR, q_kL, q_ckI, envN, argE, List.flatMap_cons, List.flatMap_nil, Value.category, junk, oadd, osub, omul, oand, oor, oxor, odiv, orem, oshl, oshr, oushr, omax, omin]
        simp (disch := first | omega | simp) [rk_i, rk_b, rk_o, st1, kill, Value.category, rcv, nog, inI_b, nI_clamp, nI_ltI, nI_leI, nI_eq, nI_9, nI_6, nI_22, nI_12, nI_180, nI_add, nI_1, hn, ly0]
        refine fq_mono (x_judge y (by omega) (inv_ic q) ht rfl (by rw [q.2.1.1, hno])) ?_
        rintro r h1 ⟨rfl, fj, ic, cx, -, hX, -⟩
        simp
        subst hB hC
        have hn1 := cx.1.1
        have p10 : h1.2.2 0 10 = some 162 := cx.1.2.1.at 10 rfl
        have p1' : h1.2.2 0 1 = some 2 := cx.1.2.1.at 1 rfl
        refine w_fz fun B hB C hC => ?_
        simp only [f_mkF, w_sI, w_sR, w_sL, w_sC, w_sk, w_sbr, w_sco, w_rV, w_rI, w_rR, w_rL, w_dI, w_sO, w_sq, w_si, w_pI, w_pZ, w_pR, w_pU, w_qI, w_qB, w_qZ, w_qU, w_qR, w_kV, q_icst, q_lcst, q_xR, q_ldI, q_ldR, q_ldL, q_bn, q_un, q_dv, q_fI, q_fR, q_aI, q_aR, q_aN, q_tn, q_cmp, q_cmz, q_cnt, q_ctt, q_cand, q_cor, q_vn, q_vI, q_vR, q_vL, q_kI, q_kR, q_kL, q_ckI, envN, argE, List.flatMap_cons, List.flatMap_nil, Value.category, junk, oadd, osub, omul, oand, oor, oxor, odiv, orem, oshl, oshr, oushr, omax, omin]
        simp (disch := first | omega | simp) [rk_i, rk_b, rk_o, st1, kill, Value.category, rcv, nog, inI_b, nI_clamp, nI_ltI, nI_leI, nI_eq, nI_9, nI_6, nI_22, nI_12, nI_180, nI_add, nI_1, hn1, ly0, ly162, p10, p1']
        refine fq_mono (x_settle cx hX) ?_
        rintro r h2 ⟨rfl, f2, ar⟩
        simp
        subst hB hC
        have hn2 : h2.1 = 212 := f2.1.trans hn1
        have fk := fj.k.trans (Fk.of f2 fun x k z => SAs_K z)
        have ic2 := ic.as f2
        have e2h : h1.2.1 2 = h.2.1 168 := by rw [← hP]; exact funext fun k => fj.2.2 2 k (by unfold SJ SX; omega)
        obtain ⟨y1, y2⟩ := ar.1 i hi'
        rw [e2h] at y2
        have p1c : h1.2.2 162 1 = some 163 := cx.1.2.1.at 79 rfl
        have p2c : h1.2.2 162 2 = some 164 := cx.1.2.1.at 80 rfl
        simp only [f_mkF, w_sI, w_sR, w_sL, w_sC, w_sk, w_sbr, w_sco, w_rV, w_rI, w_rR, w_rL, w_dI, w_sO, w_sq, w_si, w_pI, w_pZ, w_pR, w_pU, w_qI, w_qB, w_qZ, w_qU, w_qR, w_kV, q_icst, q_lcst, q_xR, q_ldI, q_ldR, q_ldL, q_bn, q_un, q_dv, q_fI, q_fR, q_aI, q_aR, q_aN, q_tn, q_cmp, q_cmz, q_cnt, q_ctt, q_cand, q_cor, q_vn, q_vI, q_vR, q_vL, q_kI, q_kR, q_kL, q_ckI, envN, argE, List.flatMap_cons, List.flatMap_nil, Value.category, junk, oadd, osub, omul, oand, oor, oxor, odiv, orem, oshl, oshr, oushr, omax, omin]
        by_cases hd : d = 0
        · simp (disch := first | omega | simp) [rk_i, rk_b, rk_o, st1, kill, Value.category, rcv, nog, inI_b, nI_clamp, nI_ltI, nI_leI, nI_eq, nI_9, nI_6, nI_22, nI_12, nI_180, nI_add, nI_1, hn2, ly0, ly162, ly163, f2.2.1, p10, p1c, i20, y1, fk, ic2, hd]
          try grind
        · simp (disch := first | omega | simp) [rk_i, rk_b, rk_o, st1, kill, Value.category, rcv, nog, inI_b, nI_clamp, nI_ltI, nI_leI, nI_eq, nI_9, nI_6, nI_22, nI_12, nI_180, nI_add, nI_1, hn2, ly0, ly162, ly164, f2.2.1, p10, p2c, i20, y2, fk, ic2, hd]
          try grind
      obtain ⟨r, h1, e1, rfl, fj, ic⟩ := X
      have m1 := m.fk fj
      have hn1 := m1.1.1
      have e72' : h1.2.1 172 t = nI (W_n w) := (fj.2.2 172 t (by unfold SK2; omega)).trans e72
      have e2' : h1.2.1 166 2 = h.2.1 166 2 := fj.2.2 166 2 (by unfold SK2; omega)
      have e3' : ∀ k, h1.2.1 172 k = h.2.1 172 k := fun k => fj.2.2 172 k (by unfold SK2; omega)
      have h24 : (h1.2.1 166 2).toInt ≤ 4 := by rw [e2']; exact q.2.2.2.2.2.2.1.2.1.2
      have n1' : h1.2.1 166 1 = nI np := (fj.2.2 166 1 (by unfold SK2; omega)).trans n1
      have Y : fq F_X11_asked [.ref 166, .int (nI (W_f w)), .int (nI t), .int (nI i), .int d] h1 fun r h' => r = some (.int (if frA w ≤ i then (if d = 0 then W_R w i 4 else gft w (h.2.1 168) (W_n w - 1 - i)) else -2)) ∧ Fr SAm h1 h' := by
        unfold F_X11_asked
        refine f_mkE _ rfl (by simp [argE, Value.category]) ?_
        refine w_sq.mpr ((w_siF (by simp only [f_mkF, w_sI, w_sR, w_sL, w_sC, w_sk, w_sbr, w_sco, w_rV, w_rI, w_rR, w_rL, w_dI, w_sO, w_sq, w_si, w_pI, w_pZ, w_pR, w_pU, w_qI, w_qB, w_qZ, w_qU, w_qR, w_kV, q_icst, q_lcst, q_xR, q_ldI, q_ldR, q_ldL, q_bn, q_un, q_dv, q_fI, q_fR, q_aI, q_aR, q_aN, q_tn, q_cmp, q_cmz, q_cnt, q_ctt, q_cand, q_cor, q_vn, q_vI, q_vR, q_vL, q_kI, q_kR, q_kL, q_ckI, envN, argE, List.flatMap_cons, List.flatMap_nil, Value.category, junk, oadd, osub, omul, oand, oor, oxor, odiv, orem, oshl, oshr, oushr, omax, omin]; simp (disch := first | omega | simp) [rk_i, rk_b, rk_o, st1, kill, Value.category, rcv, nog, inI_b, nI_clamp, nI_ltI, nI_leI, nI_eq, nI_9, nI_6, nI_22, nI_12, nI_180, nI_add, nI_1, hn1, ly166, fq_of (e_m_isLand _ _), fq_of (e_m_isPassing m1.1 _ _ h24), fq_of (e_m_in _ _ _ _), b2_0, e2', e3', hc, hlt, zne, zeq])).mpr (w_sk2.mpr ?_))
        refine w_fz fun B hB C hC => ?_
        simp only [f_mkF, w_sI, w_sR, w_sL, w_sC, w_sk, w_sbr, w_sco, w_rV, w_rI, w_rR, w_rL, w_dI, w_sO, w_sq, w_si, w_pI, w_pZ, w_pR, w_pU, w_qI, w_qB, w_qZ, w_qU, w_qR, w_kV, q_icst, q_lcst, q_xR, q_ldI, q_ldR, q_ldL, q_bn, q_un, q_dv, q_fI, q_fR, q_aI, q_aR, q_aN, q_tn, q_cmp, q_cmz, q_cnt, q_ctt, q_cand, q_cor, q_vn, q_vI, q_vR, q_vL, q_kI, q_kR, q_kL, q_ckI, envN, argE, List.flatMap_cons, List.flatMap_nil, Value.category, junk, oadd, osub, omul, oand, oor, oxor, odiv, orem, oshl, oshr, oushr, omax, omin]
        simp (disch := first | omega | simp) [rk_i, rk_b, rk_o, st1, kill, Value.category, rcv, nog, inI_b, nI_clamp, nI_ltI, nI_leI, nI_eq, nI_9, nI_6, nI_22, nI_12, nI_180, nI_add, nI_1, hn1, ly166]
        refine fq_mono (m_asks_all m1 e72' n1' n2 n3) ?_
        rintro r h2 ⟨rfl, f2, ar⟩
        simp
        subst hB hC
        have hn2 : h2.1 = 212 := f2.1.trans hn1
        have hm2 : ∀ k, h2.2.2 166 k = mp k := fun k => by rw [f2.2.1]; exact m1.1.2.2 k
        have e68 : h1.2.1 168 = h.2.1 168 := funext fun k => fj.2.2 168 k (by unfold SK2; omega)
        obtain ⟨y1, y2⟩ := ar.1 i hi'
        rw [e68] at y2
        have hpr : ¬ W_R w i 4 = -1 := fun z => by
          have := (m1.wv.2.2.1 i hi').2.2.2.2.1.1
          rw [z] at this
          exact absurd this (by decide)
        simp only [f_mkF, w_sI, w_sR, w_sL, w_sC, w_sk, w_sbr, w_sco, w_rV, w_rI, w_rR, w_rL, w_dI, w_sO, w_sq, w_si, w_pI, w_pZ, w_pR, w_pU, w_qI, w_qB, w_qZ, w_qU, w_qR, w_kV, q_icst, q_lcst, q_xR, q_ldI, q_ldR, q_ldL, q_bn, q_un, q_dv, q_fI, q_fR, q_aI, q_aR, q_aN, q_tn, q_cmp, q_cmz, q_cnt, q_ctt, q_cand, q_cor, q_vn, q_vI, q_vR, q_vL, q_kI, q_kR, q_kL, q_ckI, envN, argE, List.flatMap_cons, List.flatMap_nil, Value.category, junk, oadd, osub, omul, oand, oor, oxor, odiv, orem, oshl, oshr, oushr, omax, omin]
        by_cases hA : frA w ≤ i
        · by_cases hd : d = 0
          · simp (disch := first | omega | simp) [rk_i, rk_b, rk_o, st1, kill, Value.category, rcv, nog, inI_b, nI_clamp, nI_ltI, nI_leI, nI_eq, nI_9, nI_6, nI_22, nI_12, nI_180, nI_add, nI_1, hn2, ly166, ly207, ly208, hm2, mp, i20, y1, y2, f2, hd, hA, hpr]
          · simp (disch := first | omega | simp) [rk_i, rk_b, rk_o, st1, kill, Value.category, rcv, nog, inI_b, nI_clamp, nI_ltI, nI_leI, nI_eq, nI_9, nI_6, nI_22, nI_12, nI_180, nI_add, nI_1, hn2, ly166, ly207, ly208, hm2, mp, i20, y1, y2, f2, hd, hA, hpr]
        · simp (disch := first | omega | simp) [rk_i, rk_b, rk_o, st1, kill, Value.category, rcv, nog, inI_b, nI_clamp, nI_ltI, nI_leI, nI_eq, nI_9, nI_6, nI_22, nI_12, nI_180, nI_add, nI_1, hn2, ly166, ly207, hm2, mp, i20, y1, f2, hA]
      obtain ⟨r, h2, e2, rfl, f2⟩ := Y
      exact ⟨_, h1, h2, e1, hn1, e2, inv_k q fj f2 SAm_ok (by omega) ic⟩
    · refine ⟨-1, h, h, ?_, hn, ?_, INV_up q⟩
      · rw [← fq_eq]
        unfold F_X10_asked
        refine f_mkE _ rfl (by simp [argE, Value.category]) ?_
        refine w_sq.mpr ((w_siT ?_).mpr ?_)
        · simp only [f_mkF, w_sI, w_sR, w_sL, w_sC, w_sk, w_sbr, w_sco, w_rV, w_rI, w_rR, w_rL, w_dI, w_sO, w_sq, w_si, w_pI, w_pZ, w_pR, w_pU, w_qI, w_qB, w_qZ, w_qU, w_qR, w_kV, q_icst, q_lcst, q_xR, q_ldI, q_ldR, q_ldL, q_bn, q_un, q_dv, q_fI, q_fR, q_aI, q_aR, q_aN, q_tn, q_cmp, q_cmz, q_cnt, q_ctt, q_cand, q_cor, q_vn, q_vI, q_vR, q_vL, q_kI, q_kR, q_kL, q_ckI, envN, argE, List.flatMap_cons, List.flatMap_nil, Value.category, junk, oadd, osub, omul, oand, oor, oxor, odiv, orem, oshl, oshr, oushr, omax, omin]
          simp [rk_i, rk_b, rk_o, st1, kill, Value.category, rcv, nog, fq_of (e_x_isLand _ _), fq_of (i_x_isPassing q _ _), fq_of (e_x_isWithin _ _ _ _), b2_0, hn, ly0, zne, zeq]
          grind
        · simp only [f_mkF, w_sI, w_sR, w_sL, w_sC, w_sk, w_sbr, w_sco, w_rV, w_rI, w_rR, w_rL, w_dI, w_sO, w_sq, w_si, w_pI, w_pZ, w_pR, w_pU, w_qI, w_qB, w_qZ, w_qU, w_qR, w_kV, q_icst, q_lcst, q_xR, q_ldI, q_ldR, q_ldL, q_bn, q_un, q_dv, q_fI, q_fR, q_aI, q_aR, q_aN, q_tn, q_cmp, q_cmz, q_cnt, q_ctt, q_cand, q_cor, q_vn, q_vI, q_vR, q_vL, q_kI, q_kR, q_kL, q_ckI, envN, argE, List.flatMap_cons, List.flatMap_nil, Value.category, junk, oadd, osub, omul, oand, oor, oxor, odiv, orem, oshl, oshr, oushr, omax, omin]; simp [rk_i, rk_b, rk_o, st1, kill, Value.category, rcv, nog]
      · rw [← fq_eq]
        unfold F_X11_asked
        refine f_mkE _ rfl (by simp [argE, Value.category]) ?_
        refine w_sq.mpr ((w_siT ?_).mpr ?_)
        · simp only [f_mkF, w_sI, w_sR, w_sL, w_sC, w_sk, w_sbr, w_sco, w_rV, w_rI, w_rR, w_rL, w_dI, w_sO, w_sq, w_si, w_pI, w_pZ, w_pR, w_pU, w_qI, w_qB, w_qZ, w_qU, w_qR, w_kV, q_icst, q_lcst, q_xR, q_ldI, q_ldR, q_ldL, q_bn, q_un, q_dv, q_fI, q_fR, q_aI, q_aR, q_aN, q_tn, q_cmp, q_cmz, q_cnt, q_ctt, q_cand, q_cor, q_vn, q_vI, q_vR, q_vL, q_kI, q_kR, q_kL, q_ckI, envN, argE, List.flatMap_cons, List.flatMap_nil, Value.category, junk, oadd, osub, omul, oand, oor, oxor, odiv, orem, oshl, oshr, oushr, omax, omin]
          simp [rk_i, rk_b, rk_o, st1, kill, Value.category, rcv, nog, fq_of (e_m_isLand _ _), fq_of (i_m_isPassing q _ _), fq_of (e_m_in _ _ _ _), b2_0, hn, ly166, zne, zeq]
          grind
        · simp only [f_mkF, w_sI, w_sR, w_sL, w_sC, w_sk, w_sbr, w_sco, w_rV, w_rI, w_rR, w_rL, w_dI, w_sO, w_sq, w_si, w_pI, w_pZ, w_pR, w_pU, w_qI, w_qB, w_qZ, w_qU, w_qR, w_kV, q_icst, q_lcst, q_xR, q_ldI, q_ldR, q_ldL, q_bn, q_un, q_dv, q_fI, q_fR, q_aI, q_aR, q_aN, q_tn, q_cmp, q_cmz, q_cnt, q_ctt, q_cand, q_cor, q_vn, q_vI, q_vR, q_vL, q_kI, q_kR, q_kL, q_ckI, envN, argE, List.flatMap_cons, List.flatMap_nil, Value.category, junk, oadd, osub, omul, oand, oor, oxor, odiv, orem, oshl, oshr, oushr, omax, omin]; simp [rk_i, rk_b, rk_o, st1, kill, Value.category, rcv, nog]
