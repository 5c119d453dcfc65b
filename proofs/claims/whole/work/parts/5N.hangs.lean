/-! hangs: both -/
def Fh (h h' : Hp) : Prop := h'.1 = h.1 ∧ (∀ a k, ¬ RQ a k → h'.2.2 a k = h.2.2 a k) ∧ ∀ a k, ¬ SK2 a k → h'.2.1 a k = h.2.1 a k
theorem Fh.k {h h' : Hp} (f : Fk h h') : Fh h h' := ⟨f.1, fun a k z => f.2.1 a k fun y => z (Or.inl y), f.2.2⟩
theorem Fp.h {h h' : Hp} (f : Fp h h') : Fh h h' := ⟨f.1, fun a k z => f.2.1 a k fun y => z (Or.inr y), fun a k z => f.2.2 a k fun y => z (by unfold S61 at y; unfold SK2; omega)⟩
theorem Fh.trans {h h1 h2 : Hp} (a : Fh h h1) (b : Fh h1 h2) : Fh h h2 := ⟨b.1.trans a.1, fun x k z => (b.2.1 x k z).trans (a.2.1 x k z), fun x k z => (b.2.2 x k z).trans (a.2.2 x k z)⟩
theorem MX.fh {w : Wd} {t : Nat} {h h' : Hp} (q : MX w t h) (f : Fh h h') : MX w t h' := q.gen (Ip_q f.1 f.2.1 q.1) fun a k z => f.2.2 a k (by unfold SK2; omega)
theorem inv_h {n : Nat} {h h1 h2 : Hp} (q : INV LWc n h) (fj : Fh h h1) (pai : Ipai h1) {S : Nat → Nat → Prop} (fr : Fr S h1 h2) (hS : ∀ a k, S a k → (194 ≤ a ∧ a ≤ 211) ∨ (a = 166 ∧ 41 ≤ k)) {c : Nat} (hc : c ≤ 20 * (n + 1)) (ic : IC c h1) : INV LWc (n + 1) h2 := by
  refine INV_q q (fr.1.trans fj.1) (fun a k z => ?_) (fun a k z => ?_) ?_ ?_
  · rw [fr.2.1]
    exact fj.2.1 a k z
  · rw [fr.2.2 a k fun y => z (by have := hS a k y; unfold SQ; omega)]
    exact fj.2.2 a k fun y => z (by unfold SK2 at y; unfold SQ; omega)
  · unfold Ipai at *
    rw [fr.2.1]
    exact pai
  · obtain ⟨⟨i1, i2⟩, i3⟩ := ic
    have e1 : h2.2.1 147 10 = h1.2.1 147 10 := fr.2.2 147 10 fun y => by have := hS _ _ y; omega
    refine ⟨by rw [e1]; omega, fun k => ?_⟩
    rw [e1, fr.2.2 155 k fun y => by have := hS _ _ y; omega]
    exact i3 k
theorem x_hang {w : Wd} {T : Nat} {ra : Nat → Nat} {h : Hp} (q : CX w T ra h) (tc : TC w h) (hs1 : h.2.1 147 14 = 0) (pai : Ipai h) : fq F_X2_decisivePassings [.ref 157] h fun r h' => (∃ x, r = some (.int x) ∧ HAN w x) ∧ ∃ h1, Fr SSpr h h1 ∧ TC w h1 ∧ Fp h1 h' ∧ Ipai h' := by
  have hn := q.1.1
  have w20 := q.wv.1
  unfold F_X2_decisivePassings
  refine f_mkE [.ref 157, junk, junk] rfl (by simp [argE, Value.category]) ?_
  refine w_sqS (fun E1 h1 => E1 = [.ref 157, junk, junk] ∧ Fr SSpr h h1 ∧ CX w T ra h1 ∧ TC w h1 ∧ SPR w (W_n w) h1) (w_kVe [.ref 157] (by simp only [f_mkF, w_sI, w_sR, w_sL, w_sC, w_sk, w_sbr, w_sco, w_rV, w_rI, w_rR, w_rL, w_dI, w_sO, w_sq, w_si, w_pI, w_pZ, w_pR, w_pU, w_qI, w_qB, w_qZ, w_qU, w_qR, w_kV, q_icst, q_lcst, q_xR, q_ldI, q_ldR, q_ldL, q_bn, q_un, q_dv, q_fI, q_fR, q_aI, q_aR, q_aN, q_tn, q_cmp, q_cmz, q_cnt, q_ctt, q_cand, q_cor, q_vn, q_vI, q_vR, q_vL, q_kI, q_kR, q_kL, q_ckI, envN, argE, List.flatMap_cons, List.flatMap_nil, Value.category, junk, oadd, osub, omul, oand, oor, oxor, odiv, orem, oshl, oshr, oushr, omax, omin]; simp) (by simp [rcv, hn, ly157]) (fq_mono (x_spread q tc hs1) ?_)) ?_
  · rintro r h1 ⟨rfl, z⟩
    exact ⟨rfl, rfl, rfl, z⟩
  rintro E1 h1 ⟨rfl, f1, q1, tc1, sp1⟩
  have d1 : ∃ A B, DX w T ra A B h1 := by
    unfold Ipai at pai
    rw [← f1.2.1] at pai
    rcases pai with ⟨z1, z2⟩ | ⟨z1, z2⟩
    · exact ⟨160, 161, q1, sp1, z1, z2, Or.inl ⟨rfl, rfl⟩⟩
    · exact ⟨161, 160, q1, sp1, z1, z2, Or.inr ⟨rfl, rfl⟩⟩
  refine w_sqI (E' := [.ref 157, .int 0, junk]) 0 (by simp only [f_mkF, w_sI, w_sR, w_sL, w_sC, w_sk, w_sbr, w_sco, w_rV, w_rI, w_rR, w_rL, w_dI, w_sO, w_sq, w_si, w_pI, w_pZ, w_pR, w_pU, w_qI, w_qB, w_qZ, w_qU, w_qR, w_kV, q_icst, q_lcst, q_xR, q_ldI, q_ldR, q_ldL, q_bn, q_un, q_dv, q_fI, q_fR, q_aI, q_aR, q_aN, q_tn, q_cmp, q_cmz, q_cnt, q_ctt, q_cand, q_cor, q_vn, q_vI, q_vR, q_vL, q_kI, q_kR, q_kL, q_ckI, envN, argE, List.flatMap_cons, List.flatMap_nil, Value.category, junk, oadd, osub, omul, oand, oor, oxor, odiv, orem, oshl, oshr, oushr, omax, omin]; simp) rfl ?_
  refine w_sqS (fun E2 h2 => (∃ x v2, E2 = [.ref 157, .int x, v2] ∧ HAN w x) ∧ Fp h1 h2 ∧ ∃ A B, DX w T ra A B h2) ?_ ?_
  · refine w_sqI (E' := [.ref 157, .int 0, .int (nI 0)]) (nI 0) (by simp only [f_mkF, w_sI, w_sR, w_sL, w_sC, w_sk, w_sbr, w_sco, w_rV, w_rI, w_rR, w_rL, w_dI, w_sO, w_sq, w_si, w_pI, w_pZ, w_pR, w_pU, w_qI, w_qB, w_qZ, w_qU, w_qR, w_kV, q_icst, q_lcst, q_xR, q_ldI, q_ldR, q_ldL, q_bn, q_un, q_dv, q_fI, q_fR, q_aI, q_aR, q_aN, q_tn, q_cmp, q_cmz, q_cnt, q_ctt, q_cand, q_cor, q_vn, q_vI, q_vR, q_vL, q_kI, q_kR, q_kL, q_ckI, envN, argE, List.flatMap_cons, List.flatMap_nil, Value.category, junk, oadd, osub, omul, oand, oor, oxor, odiv, orem, oshl, oshr, oushr, omax, omin]; simp [nI_0]) rfl ?_
    refine w_for (lo := 0) (hi := W_n w) (fun j E h' => (∃ x, E = [.ref 157, .int x, .int (nI j)] ∧ ∀ i, i < 32 → (bI x i = true ↔ i < j ∧ HG w i)) ∧ Fp h1 h' ∧ ∃ A B, DX w T ra A B h') (fun j E h' => (∃ x, E = [.ref 157, .int x, .int (nI j)] ∧ ∀ i, i < 32 → (bI x i = true ↔ i < j + 1 ∧ HG w i)) ∧ Fp h1 h' ∧ ∃ A B, DX w T ra A B h') (by omega) ⟨⟨0, rfl, fun i _ => by rw [bI_0]; constructor; (intro z; cases z); (rintro ⟨z, -⟩; omega)⟩, Fp.of (Fr.refl h1), d1⟩ ?_ ?_
    · rintro j E h2 - hj ⟨⟨x, rfl, hx⟩, f2, A, B, d2⟩
      obtain ⟨hn2, g1, g2, g3, g4, g5, g6, g7⟩ := d2.1.hd
      have p02 : h2.2.2 157 0 = some 147 := d2.1.1.2.1.at 75 rfl
      by_cases hjn : j < W_n w
      · refine ev_T ?_ ⟨rfl, fun _ => ⟨hjn, ?_⟩, fun z => by cases z⟩
        · simp only [f_mkF, w_sI, w_sR, w_sL, w_sC, w_sk, w_sbr, w_sco, w_rV, w_rI, w_rR, w_rL, w_dI, w_sO, w_sq, w_si, w_pI, w_pZ, w_pR, w_pU, w_qI, w_qB, w_qZ, w_qU, w_qR, w_kV, q_icst, q_lcst, q_xR, q_ldI, q_ldR, q_ldL, q_bn, q_un, q_dv, q_fI, q_fR, q_aI, q_aR, q_aN, q_tn, q_cmp, q_cmz, q_cnt, q_ctt, q_cand, q_cor, q_vn, q_vI, q_vR, q_vL, q_kI, q_kR, q_kL, q_ckI, envN, argE, List.flatMap_cons, List.flatMap_nil, Value.category, junk, oadd, osub, omul, oand, oor, oxor, odiv, orem, oshl, oshr, oushr, omax, omin]
          simp (disch := first | omega | simp) [rk_i, rk_b, rk_o, st1, kill, Value.category, rcv, nog, inI_b, nI_clamp, nI_ltI, nI_leI, nI_eq, nI_9, nI_6, nI_22, nI_12, nI_180, nI_add, nI_1, hn2, ly157, ly147, p02, g1, g2, g4, g7, hjn]
        rw [w_si, q_cnt, q_cmz]
        refine q_kIe [.ref 157, .int (nI j)] (by simp only [f_mkF, w_sI, w_sR, w_sL, w_sC, w_sk, w_sbr, w_sco, w_rV, w_rI, w_rR, w_rL, w_dI, w_sO, w_sq, w_si, w_pI, w_pZ, w_pR, w_pU, w_qI, w_qB, w_qZ, w_qU, w_qR, w_kV, q_icst, q_lcst, q_xR, q_ldI, q_ldR, q_ldL, q_bn, q_un, q_dv, q_fI, q_fR, q_aI, q_aR, q_aN, q_tn, q_cmp, q_cmz, q_cnt, q_ctt, q_cand, q_cor, q_vn, q_vI, q_vR, q_vL, q_kI, q_kR, q_kL, q_ckI, envN, argE, List.flatMap_cons, List.flatMap_nil, Value.category, junk, oadd, osub, omul, oand, oor, oxor, odiv, orem, oshl, oshr, oushr, omax, omin]; simp) (by simp [rcv, hn2, ly157]) ?_
        refine fq_mono (x_decisive d2 hjn) ?_
        rintro r h3 ⟨⟨y, rfl, hy⟩, f3, d3⟩
        refine ⟨y, rfl, ?_⟩
        rcases hy with ⟨rfl, hg⟩ | ⟨rfl, hg⟩
        · refine ⟨fun _ => ?_, fun z => absurd z (by decide)⟩
          refine w_sIe (E' := [.ref 157, .int (oor x (oshl 1 (nI j))), .int (nI j)]) (oor x (oshl 1 (nI j))) ?_ rfl ⟨rfl, ⟨_, rfl, fun i hi => ?_⟩, f2.trans f3, d3⟩
          · rw [q_bn, q_ldI]
            refine ⟨x, rfl, ?_⟩
            rw [q_bn, q_icst, q_ldI]
            exact ⟨_, rfl, rfl, rfl⟩
          · rw [bI_or (by omega) hi]
            simp only [Bool.or_eq_true, decide_eq_true_eq]
            rw [hx i hi]
            constructor
            · rintro (⟨z1, z2⟩ | rfl)
              · exact ⟨by omega, z2⟩
              · exact ⟨by omega, hg⟩
            · rintro ⟨z1, z2⟩
              by_cases e : i = j
              · exact Or.inr e
              · exact Or.inl ⟨by omega, z2⟩
        · refine ⟨fun z => absurd z (by decide), fun _ => ?_⟩
          rw [w_sk]
          refine ⟨rfl, ⟨_, rfl, fun i hi => ?_⟩, f2.trans f3, d3⟩
          rw [hx i hi]
          constructor
          · rintro ⟨z1, z2⟩; exact ⟨by omega, z2⟩
          · rintro ⟨z1, z2⟩
            have : i ≠ j := fun e => hg (e ▸ z2)
            exact ⟨by omega, z2⟩
      · have : j = W_n w := by omega
        subst this
        refine ev_F ?_ ⟨rfl, (fun z => by cases z), fun _ => ⟨rfl, ⟨x, _, rfl, hx⟩, f2, A, B, d2⟩⟩
        simp only [f_mkF, w_sI, w_sR, w_sL, w_sC, w_sk, w_sbr, w_sco, w_rV, w_rI, w_rR, w_rL, w_dI, w_sO, w_sq, w_si, w_pI, w_pZ, w_pR, w_pU, w_qI, w_qB, w_qZ, w_qU, w_qR, w_kV, q_icst, q_lcst, q_xR, q_ldI, q_ldR, q_ldL, q_bn, q_un, q_dv, q_fI, q_fR, q_aI, q_aR, q_aN, q_tn, q_cmp, q_cmz, q_cnt, q_ctt, q_cand, q_cor, q_vn, q_vI, q_vR, q_vL, q_kI, q_kR, q_kL, q_ckI, envN, argE, List.flatMap_cons, List.flatMap_nil, Value.category, junk, oadd, osub, omul, oand, oor, oxor, odiv, orem, oshl, oshr, oushr, omax, omin]
        simp (disch := first | omega | simp) [rk_i, rk_b, rk_o, st1, kill, Value.category, rcv, nog, inI_b, nI_clamp, nI_ltI, nI_leI, nI_eq, nI_9, nI_6, nI_22, nI_12, nI_180, nI_add, nI_1, hn2, ly157, ly147, p02, g1, g2, g4, g7]
    · rintro j E h2 - - ⟨⟨x, rfl, hx⟩, z⟩
      exact ⟨rfl, ⟨x, by simp [st1, kill, Value.category], hx⟩, z⟩
  rintro E2 h2 ⟨⟨x, v2, rfl, hx⟩, f2, A, B, d2⟩
  rw [w_rI, q_ldI]
  refine ⟨x, rfl, Or.inr ⟨rfl, rfl, ⟨x, rfl, hx⟩, h1, f1, tc1, f2, ?_⟩⟩
  obtain ⟨-, -, z1, z2, z3⟩ := d2
  unfold Ipai
  rw [z1, z2]
  rcases z3 with ⟨rfl, rfl⟩ | ⟨rfl, rfl⟩
  · exact Or.inl ⟨rfl, rfl⟩
  · exact Or.inr ⟨rfl, rfl⟩
theorem g_hangs : AG (INV LWc) F_X10_hangs F_X11_hangs 2 := by
  intro n h vs hl hn5 q
  match vs, hl with
  | [a, b], _ =>
    have hn := q.1.1
    by_cases hc : (0 ≤ a ∧ a ≤ 5) ∧ (0 ≤ b ∧ b < h.2.1 166 2)
    · obtain ⟨f, hf, rfl⟩ := land_num hc.1
      obtain ⟨t, ht, rfl⟩ := th_num q hc.2.1 hc.2.2
      obtain ⟨w, ra, y, m, e72, rfl, hno, -⟩ := wd_of q hf ht hc.2.2
      have n20 := m.wv.1
      have uN := uns_le (W_R w) (W_n w)
      have p2 : h.2.2 0 2 = some 3 := q.1.2.1.at 2 rfl
      obtain ⟨p1, p3, -⟩ := ptT q.1 ht
      have p4 : 28 + 22 * t < 212 := by omega
      have eu := e_x_unsure y.2.1
      have k8 : (8 : Int32) = nI 8 := rfl
      have pai : Ipai h := q.2.2.2.2.2.2.2.2.2.1.2
      have X : fq F_X10_hangs [.ref 0, .int (nI (W_f w)), .int (nI t)] h fun r h' => (∃ x, r = some (.int x) ∧ (uns (W_R w) (W_n w) ≤ 8 → HAN w x) ∧ (¬ uns (W_R w) (W_n w) ≤ 8 → x = -1)) ∧ Fh h h' ∧ Ipai h' ∧ IC (20 * n + 1) h' := by
        unfold F_X10_hangs
        refine f_mkE _ rfl (by simp [argE, Value.category]) ?_
        by_cases hU8 : uns (W_R w) (W_n w) ≤ 8
        · refine w_sq.mpr ((w_siF ?_).mpr (w_sk2.mpr ?_))
          · simp only [f_mkF, w_sI, w_sR, w_sL, w_sC, w_sk, w_sbr, w_sco, w_rV, w_rI, w_rR, w_rL, w_dI, w_sO, w_sq, w_si, w_pI, w_pZ, w_pR, w_pU, w_qI, w_qB, w_qZ, w_qU, w_qR, w_kV, q_icst, q_lcst, q_xR, q_ldI, q_ldR, q_ldL, q_bn, q_un, q_dv, q_fI, q_fR, q_aI, q_aR, q_aN, q_tn, q_cmp, q_cmz, q_cnt, q_ctt, q_cand, q_cor, q_vn, q_vI, q_vR, q_vL, q_kI, q_kR, q_kL, q_ckI, envN, argE, List.flatMap_cons, List.flatMap_nil, Value.category, junk, oadd, osub, omul, oand, oor, oxor, odiv, orem, oshl, oshr, oushr, omax, omin]
            simp (disch := first | omega | simp) [rk_i, rk_b, rk_o, st1, kill, Value.category, rcv, nog, inI_b, nI_clamp, nI_ltI, nI_leI, nI_eq, nI_9, nI_6, nI_22, nI_12, nI_180, nI_add, nI_1, hn, ly0, ly3, p2, p1, p3, p4, ht, fq_of (e_x_isLand _ _), fq_of (i_x_isThing q _), fq_of eu, b2_0, hc, zne, zeq, k8, hU8]
          have p8 : h.2.2 0 8 = some 147 := q.1.2.1.at 8 rfl
          have h12 : h.2.1 0 12 = W_no w := by rw [q.2.1.1, hno]
          have eo := x_open hn (nI (W_f w)) (28 + 22 * t) (W_no w)
          (refine w_fz fun B hB C hC => ?_); (simp only [f_mkF, w_sI, w_sR, w_sL, w_sC, w_sk, w_sbr, w_sco, w_rV, w_rI, w_rR, w_rL, w_dI, w_sO, w_sq, w_si, w_pI, w_pZ, w_pR, w_pU, w_qI, w_qB, w_qZ, w_qU, w_qR, w_kV, q_icst, q_lcst, q_xR, q_ldI, q_ldR, q_ldL, q_bn, q_un, q_dv, q_fI, q_fR, q_aI, q_aR, q_aN, q_tn, q_cmp, q_cmz, q_cnt, q_ctt, q_cand, q_cor, q_vn, q_vI, q_vR, q_vL, q_kI, q_kR, q_kL, q_ckI, envN, argE, List.flatMap_cons, List.flatMap_nil, Value.category, junk, oadd, osub, omul, oand, oor, oxor, odiv, orem, oshl, oshr, oushr, omax, omin]); (simp (disch := first | omega | simp) [rk_i, rk_b, rk_o, st1, kill, Value.category, rcv, nog, inI_b, nI_clamp, nI_ltI, nI_leI, nI_eq, nI_9, nI_6, nI_22, nI_12, nI_180, nI_add, nI_1, hn, ly0, ly3, ly147, p8, p2, p1, ht, h12, fq_of eo]); (subst hB hC)
          have cx := cx_open y
          obtain ⟨ic1, tc1⟩ := ic_open (by omega) (inv_ic q) (nI (W_f w)) (28 + 22 * t) (W_no w)
          have fj1 := opn_fj h (nI (W_f w)) (28 + 22 * t) (W_no w)
          obtain ⟨-, -, -, -, o5, -⟩ := opn_at h (nI (W_f w)) (28 + 22 * t) (W_no w)
          generalize opn h (nI (W_f w)) (28 + 22 * t) (W_no w) = h1 at *
          have hn1 := cx.1.1
          have p9 : h1.2.2 0 9 = some 157 := cx.1.2.1.at 9 rfl
          rw [w_rI]
          refine q_kIe [.ref 157] (by simp only [f_mkF, w_sI, w_sR, w_sL, w_sC, w_sk, w_sbr, w_sco, w_rV, w_rI, w_rR, w_rL, w_dI, w_sO, w_sq, w_si, w_pI, w_pZ, w_pR, w_pU, w_qI, w_qB, w_qZ, w_qU, w_qR, w_kV, q_icst, q_lcst, q_xR, q_ldI, q_ldR, q_ldL, q_bn, q_un, q_dv, q_fI, q_fR, q_aI, q_aR, q_aN, q_tn, q_cmp, q_cmz, q_cnt, q_ctt, q_cand, q_cor, q_vn, q_vI, q_vR, q_vL, q_kI, q_kR, q_kL, q_ckI, envN, argE, List.flatMap_cons, List.flatMap_nil, Value.category, junk, oadd, osub, omul, oand, oor, oxor, odiv, orem, oshl, oshr, oushr, omax, omin]; simp [rk_i, rk_b, rk_o, st1, kill, Value.category, rcv, nog, hn1, ly0, p9]) (by simp [rcv, hn1, ly157]) ?_
          have pai1 : Ipai h1 := by
            unfold Ipai at *
            rw [fj1.2.1 157 3 (by omega), fj1.2.1 157 4 (by omega)]
            exact pai
          refine fq_mono (x_hang cx (tc1 w) o5 pai1) ?_
          rintro r h3 ⟨⟨x, rfl, hx⟩, h2, f2, tc2, f3, pai3⟩
          refine ⟨x, rfl, Or.inr ⟨rfl, rfl, ⟨x, rfl, fun _ => hx, fun z => absurd hU8 z⟩, (Fh.k (fj1.k.trans (Fk.of f2 fun a k z => by unfold SSpr SX at z; unfold SK2; omega))).trans f3.h, pai3, ?_⟩⟩
          have e10 : h3.2.1 147 10 = h1.2.1 147 10 := (f3.2.2 147 10 (by unfold S61; omega)).trans (f2.2.2 147 10 (by unfold SSpr SX; omega))
          have e11 : h3.2.1 147 10 = h2.2.1 147 10 := f3.2.2 147 10 (by unfold S61; omega)
          refine ⟨by rw [e10]; exact ic1.1, fun k => ?_⟩
          rw [e11, f3.2.2 155 k (by unfold S61; omega)]
          exact tc2.1 k
        · refine w_sq.mpr ((w_siT ?_).mpr ?_)
          · simp only [f_mkF, w_sI, w_sR, w_sL, w_sC, w_sk, w_sbr, w_sco, w_rV, w_rI, w_rR, w_rL, w_dI, w_sO, w_sq, w_si, w_pI, w_pZ, w_pR, w_pU, w_qI, w_qB, w_qZ, w_qU, w_qR, w_kV, q_icst, q_lcst, q_xR, q_ldI, q_ldR, q_ldL, q_bn, q_un, q_dv, q_fI, q_fR, q_aI, q_aR, q_aN, q_tn, q_cmp, q_cmz, q_cnt, q_ctt, q_cand, q_cor, q_vn, q_vI, q_vR, q_vL, q_kI, q_kR, q_kL, q_ckI, envN, argE, List.flatMap_cons, List.flatMap_nil, Value.category, junk, oadd, osub, omul, oand, oor, oxor, odiv, orem, oshl, oshr, oushr, omax, omin]
            simp (disch := first | omega | simp) [rk_i, rk_b, rk_o, st1, kill, Value.category, rcv, nog, inI_b, nI_clamp, nI_ltI, nI_leI, nI_eq, nI_9, nI_6, nI_22, nI_12, nI_180, nI_add, nI_1, hn, ly0, ly3, p2, p1, p3, p4, ht, fq_of (e_x_isLand _ _), fq_of (i_x_isThing q _), fq_of eu, b2_0, hc, zne, zeq, k8]
            try omega
          · rw [w_rI, q_icst]
            exact ⟨(fun z => by cases z), fun _ => Or.inr ⟨rfl, rfl, ⟨-1, rfl, fun z => absurd z hU8, fun _ => rfl⟩, Fh.k (Fj.refl h).k, pai, (inv_ic q).le (by omega)⟩⟩
      obtain ⟨r, h1, e1, ⟨x, rfl, hx1, hx2⟩, fk, pai1, ic⟩ := X
      have m1 := m.fh fk
      have hn1 := m1.1.1
      have e72' : h1.2.1 172 t = nI (W_n w) := (fk.2.2 172 t (by unfold SK2; omega)).trans e72
      have e2' : h1.2.1 166 2 = h.2.1 166 2 := fk.2.2 166 2 (by unfold SK2; omega)
      have hcan : b2 ((0 ≤ nI (W_f w) ∧ nI (W_f w) ≤ 5) ∧ (0 ≤ nI t ∧ nI t < h1.2.1 166 2)) = 1 := b2_t (by rw [e2']; exact hc)
      have Y : fq F_X11_hangs [.ref 166, .int (nI (W_f w)), .int (nI t)] h1 fun r h' => r = some (.int x) ∧ Fr STr h1 h' := by
        unfold F_X11_hangs
        refine f_mkE [.ref 166, .int (nI (W_f w)), .int (nI t), junk, junk, junk, junk, junk] rfl (by simp [argE, Value.category]) ?_
        rw [w_sq, w_si, q_cor]
        refine ev_F ?_ ⟨(fun z => by cases z), fun _ => ?_⟩
        · simp only [f_mkF, w_sI, w_sR, w_sL, w_sC, w_sk, w_sbr, w_sco, w_rV, w_rI, w_rR, w_rL, w_dI, w_sO, w_sq, w_si, w_pI, w_pZ, w_pR, w_pU, w_qI, w_qB, w_qZ, w_qU, w_qR, w_kV, q_icst, q_lcst, q_xR, q_ldI, q_ldR, q_ldL, q_bn, q_un, q_dv, q_fI, q_fR, q_aI, q_aR, q_aN, q_tn, q_cmp, q_cmz, q_cnt, q_ctt, q_cand, q_cor, q_vn, q_vI, q_vR, q_vL, q_kI, q_kR, q_kL, q_ckI, envN, argE, List.flatMap_cons, List.flatMap_nil, Value.category, junk, oadd, osub, omul, oand, oor, oxor, odiv, orem, oshl, oshr, oushr, omax, omin]
          simp [rk_i, rk_b, rk_o, st1, kill, Value.category, rcv, nog, hn1, ly166, fq_of (m_can hn1 _ _), hcan]
        rw [q_cnt, q_cmz]
        refine q_kIe [.ref 166, .int (nI (W_f w)), .int (nI t)] (by simp only [f_mkF, w_sI, w_sR, w_sL, w_sC, w_sk, w_sbr, w_sco, w_rV, w_rI, w_rR, w_rL, w_dI, w_sO, w_sq, w_si, w_pI, w_pZ, w_pR, w_pU, w_qI, w_qB, w_qZ, w_qU, w_qR, w_kV, q_icst, q_lcst, q_xR, q_ldI, q_ldR, q_ldL, q_bn, q_un, q_dv, q_fI, q_fR, q_aI, q_aR, q_aN, q_tn, q_cmp, q_cmz, q_cnt, q_ctt, q_cand, q_cor, q_vn, q_vI, q_vR, q_vL, q_kI, q_kR, q_kL, q_ckI, envN, argE, List.flatMap_cons, List.flatMap_nil, Value.category, junk, oadd, osub, omul, oand, oor, oxor, odiv, orem, oshl, oshr, oushr, omax, omin]; simp) (by simp [rcv, hn1, ly166]) ?_
        refine fq_mono (m_tries m1 e72') ?_
        rintro r h2 ⟨rfl, f2, ty⟩
        refine ⟨_, rfl, ?_⟩
        by_cases hU8 : uns (W_R w) (W_n w) ≤ 8
        · rw [b2_t hU8]
          refine ⟨(fun z => by simp at z), fun _ => w_sk2.mpr ?_⟩
          refine wp_mono (m_hangL (m1.ftr f2) hU8 (ty hU8)) ?_
          rintro o v E1 h3 ⟨rfl, rfl, x', rfl, hx'⟩
          exact Or.inr ⟨rfl, rfl, by rw [HAN_eq hx' (hx1 hU8)], f2⟩
        · rw [b2_f hU8]
          refine ⟨fun _ => ?_, (fun z => by simp at z)⟩
          rw [w_rI, q_icst]
          exact ⟨(fun z => by cases z), fun _ => Or.inr ⟨rfl, rfl, by rw [hx2 hU8], f2⟩⟩
      obtain ⟨r, h2, e2, rfl, f2⟩ := Y
      exact ⟨x, h1, h2, e1, hn1, e2, inv_h q fk pai1 f2 STr_ok (by omega) ic⟩
    · refine ⟨-1, h, h, ?_, hn, ?_, INV_up q⟩
      · rw [← fq_eq]
        unfold F_X10_hangs
        refine f_mkE _ rfl (by simp [argE, Value.category]) ?_
        rw [w_sq, w_si, q_cor]
        refine ev_T ?_ ⟨fun _ => ⟨fun _ => ?_, fun z => by cases z⟩, (fun z => by cases z)⟩
        · simp only [f_mkF, w_sI, w_sR, w_sL, w_sC, w_sk, w_sbr, w_sco, w_rV, w_rI, w_rR, w_rL, w_dI, w_sO, w_sq, w_si, w_pI, w_pZ, w_pR, w_pU, w_qI, w_qB, w_qZ, w_qU, w_qR, w_kV, q_icst, q_lcst, q_xR, q_ldI, q_ldR, q_ldL, q_bn, q_un, q_dv, q_fI, q_fR, q_aI, q_aR, q_aN, q_tn, q_cmp, q_cmz, q_cnt, q_ctt, q_cand, q_cor, q_vn, q_vI, q_vR, q_vL, q_kI, q_kR, q_kL, q_ckI, envN, argE, List.flatMap_cons, List.flatMap_nil, Value.category, junk, oadd, osub, omul, oand, oor, oxor, odiv, orem, oshl, oshr, oushr, omax, omin]
          simp [rk_i, rk_b, rk_o, st1, kill, Value.category, rcv, nog, fq_of (e_x_isLand _ _), fq_of (i_x_isThing q _), b2_0, hn, ly0, zne, zeq]
          grind
        · simp only [f_mkF, w_sI, w_sR, w_sL, w_sC, w_sk, w_sbr, w_sco, w_rV, w_rI, w_rR, w_rL, w_dI, w_sO, w_sq, w_si, w_pI, w_pZ, w_pR, w_pU, w_qI, w_qB, w_qZ, w_qU, w_qR, w_kV, q_icst, q_lcst, q_xR, q_ldI, q_ldR, q_ldL, q_bn, q_un, q_dv, q_fI, q_fR, q_aI, q_aR, q_aN, q_tn, q_cmp, q_cmz, q_cnt, q_ctt, q_cand, q_cor, q_vn, q_vI, q_vR, q_vL, q_kI, q_kR, q_kL, q_ckI, envN, argE, List.flatMap_cons, List.flatMap_nil, Value.category, junk, oadd, osub, omul, oand, oor, oxor, odiv, orem, oshl, oshr, oushr, omax, omin]; simp [rk_i, rk_b, rk_o, st1, kill, Value.category, rcv, nog]
      · rw [← fq_eq]
        unfold F_X11_hangs
        refine f_mkE _ rfl (by simp [argE, Value.category]) ?_
        rw [w_sq, w_si, q_cor]
        refine ev_T ?_ ⟨fun _ => ⟨fun _ => ?_, fun z => by cases z⟩, (fun z => by cases z)⟩
        · simp only [f_mkF, w_sI, w_sR, w_sL, w_sC, w_sk, w_sbr, w_sco, w_rV, w_rI, w_rR, w_rL, w_dI, w_sO, w_sq, w_si, w_pI, w_pZ, w_pR, w_pU, w_qI, w_qB, w_qZ, w_qU, w_qR, w_kV, q_icst, q_lcst, q_xR, q_ldI, q_ldR, q_ldL, q_bn, q_un, q_dv, q_fI, q_fR, q_aI, q_aR, q_aN, q_tn, q_cmp, q_cmz, q_cnt, q_ctt, q_cand, q_cor, q_vn, q_vI, q_vR, q_vL, q_kI, q_kR, q_kL, q_ckI, envN, argE, List.flatMap_cons, List.flatMap_nil, Value.category, junk, oadd, osub, omul, oand, oor, oxor, odiv, orem, oshl, oshr, oushr, omax, omin]
          simp [rk_i, rk_b, rk_o, st1, kill, Value.category, rcv, nog, fq_of (m_can hn _ _), hn, ly166, b2_f hc]
        · simp only [f_mkF, w_sI, w_sR, w_sL, w_sC, w_sk, w_sbr, w_sco, w_rV, w_rI, w_rR, w_rL, w_dI, w_sO, w_sq, w_si, w_pI, w_pZ, w_pR, w_pU, w_qI, w_qB, w_qZ, w_qU, w_qR, w_kV, q_icst, q_lcst, q_xR, q_ldI, q_ldR, q_ldL, q_bn, q_un, q_dv, q_fI, q_fR, q_aI, q_aR, q_aN, q_tn, q_cmp, q_cmz, q_cnt, q_ctt, q_cand, q_cor, q_vn, q_vI, q_vR, q_vL, q_kI, q_kR, q_kL, q_ckI, envN, argE, List.flatMap_cons, List.flatMap_nil, Value.category, junk, oadd, osub, omul, oand, oor, oxor, odiv, orem, oshl, oshr, oushr, omax, omin]; simp [rk_i, rk_b, rk_o, st1, kill, Value.category, rcv, nog]
