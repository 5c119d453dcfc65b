/-! register, look, count, mind -/
theorem e_m_holder {h : Hp} (hp : Ip h) {t m : Nat} (ht : t < 4) (hm20 : m ≤ 22) (t2 : h.2.1 172 t = nI m) : F_X11_holderOf [.ref 166, .int (nI t)] h = some (some (.int (frm (mrow h t) (h.2.1 170 t) m)), h) := by
  have hn := hp.1
  have hm := hp.2.2
  rw [← fq_eq]
  unfold F_X11_holderOf
  simp only [f_mkF, w_sI, w_sR, w_sL, w_sC, w_sk, w_sbr, w_sco, w_rV, w_rI, w_rR, w_rL, w_dI, w_sO, w_sq, w_si, w_pI, w_pZ, w_pR, w_pU, w_qI, w_qB, w_qZ, w_qU, w_qR, w_kV, q_icst, q_lcst, q_xR, q_ldI, q_ldR, q_ldL, q_bn, q_un, q_dv, q_fI, q_fR, q_aI, q_aR, q_aN, q_tn, q_cmp, q_cmz, q_cnt, q_ctt, q_cand, q_cor, q_vn, q_vI, q_vR, q_vL, q_kI, q_kR, q_kL, q_ckI, envN, argE, List.flatMap_cons, List.flatMap_nil, Value.category, junk, oadd, osub, omul, oand, oor, oxor, odiv, orem, oshl, oshr, oushr, omax, omin]
  simp (disch := first | omega | simp) [rk_i, rk_b, rk_o, st1, kill, Value.category, rcv, nog, hn, ly166, ly172, hm 8, mp, inI_b, nI_clamp, nI_ltI, nI_leI, nI_eq, nI_9, nI_6, nI_22, nI_12, nI_180, nI_add, nI_1, t2, fq_of (e_m_from hp ht (by omega : m ≤ 22))]
  omega
theorem g_register {LW : Hp → Prop} : AG (INV LW) F_X10_register F_X11_register 1 := by
  intro n h vs hl hn q
  match vs, hl with
  | [a], _ =>
    have q0 := q.1
    have hn := q0.1
    by_cases hc : 0 ≤ a ∧ a < h.2.1 166 2
    · obtain ⟨t, ht, rfl⟩ := th_num q hc.1 hc.2
      obtain ⟨ra, m, t1, t2, -⟩ := th_of q ht
      have t3 := t1.2.1.2
      have t4 := t1.2.1.1
      obtain ⟨p1, p2, -⟩ := ptT q0 ht
      have p3 : 28 + 22 * t < 212 := by omega
      have p4 : h.2.2 0 2 = some 3 := q0.2.1.at 2 rfl
      have hm := q0.2.2
      refine ⟨regd (mrow h t) (h.2.1 170 t) m, h, h, ?_, hn, ?_, INV_up q⟩
      · rw [← fq_eq]
        unfold F_X10_register
        simp only [List.map_cons, List.map_nil, f_mkF, w_sI, w_sR, w_sL, w_sC, w_sk, w_sbr, w_sco, w_rV, w_rI, w_rR, w_rL, w_dI, w_sO, w_sq, w_si, w_pI, w_pZ, w_pR, w_pU, w_qI, w_qB, w_qZ, w_qU, w_qR, w_kV, q_icst, q_lcst, q_xR, q_ldI, q_ldR, q_ldL, q_bn, q_un, q_dv, q_fI, q_fR, q_aI, q_aR, q_aN, q_tn, q_cmp, q_cmz, q_cnt, q_ctt, q_cand, q_cor, q_vn, q_vI, q_vR, q_vL, q_kI, q_kR, q_kL, q_ckI, envN, argE, List.flatMap_cons, List.flatMap_nil, Value.category, junk, oadd, osub, omul, oand, oor, oxor, odiv, orem, oshl, oshr, oushr, omax, omin]
        simp (disch := first | omega | simp) [rk_i, rk_b, rk_o, st1, kill, Value.category, rcv, nog, fq_of (i_x_isThing q _), b2_0, hc, hn, ly0, ly3, p1, p2, p3, p4, inI_b, nI_clamp, nI_ltI, nI_leI, nI_eq, nI_9, nI_6, nI_22, nI_12, nI_180, nI_add, nI_1, t4, fq_of (e_x_reg t1 (Nat.le_refl m)), (th_fo q ht).1]
        omega
      · rw [← fq_eq]
        unfold F_X11_register
        simp only [List.map_cons, List.map_nil, f_mkF, w_sI, w_sR, w_sL, w_sC, w_sk, w_sbr, w_sco, w_rV, w_rI, w_rR, w_rL, w_dI, w_sO, w_sq, w_si, w_pI, w_pZ, w_pR, w_pU, w_qI, w_qB, w_qZ, w_qU, w_qR, w_kV, q_icst, q_lcst, q_xR, q_ldI, q_ldR, q_ldL, q_bn, q_un, q_dv, q_fI, q_fR, q_aI, q_aR, q_aN, q_tn, q_cmp, q_cmz, q_cnt, q_ctt, q_cand, q_cor, q_vn, q_vI, q_vR, q_vL, q_kI, q_kR, q_kL, q_ckI, envN, argE, List.flatMap_cons, List.flatMap_nil, Value.category, junk, oadd, osub, omul, oand, oor, oxor, odiv, orem, oshl, oshr, oushr, omax, omin]
        simp (disch := first | omega | simp) [rk_i, rk_b, rk_o, st1, kill, Value.category, rcv, nog, fq_of (i_m_isThing q _), b2_0, hc, hn, ly166, ly172, hm 8, mp, inI_b, nI_clamp, nI_ltI, nI_leI, nI_eq, nI_9, nI_6, nI_22, nI_12, nI_180, nI_add, nI_1, t2, fq_of (e_m_reg q0 ht (by omega : m ≤ 22))]
        omega
    · refine ⟨-1, h, h, ?_, hn, ?_, INV_up q⟩
      · rw [← fq_eq]
        unfold F_X10_register
        simp only [List.map_cons, List.map_nil, f_mkF, w_sI, w_sR, w_sL, w_sC, w_sk, w_sbr, w_sco, w_rV, w_rI, w_rR, w_rL, w_dI, w_sO, w_sq, w_si, w_pI, w_pZ, w_pR, w_pU, w_qI, w_qB, w_qZ, w_qU, w_qR, w_kV, q_icst, q_lcst, q_xR, q_ldI, q_ldR, q_ldL, q_bn, q_un, q_dv, q_fI, q_fR, q_aI, q_aR, q_aN, q_tn, q_cmp, q_cmz, q_cnt, q_ctt, q_cand, q_cor, q_vn, q_vI, q_vR, q_vL, q_kI, q_kR, q_kL, q_ckI, envN, argE, List.flatMap_cons, List.flatMap_nil, Value.category, junk, oadd, osub, omul, oand, oor, oxor, odiv, orem, oshl, oshr, oushr, omax, omin]
        simp [rk_i, rk_b, rk_o, st1, kill, Value.category, rcv, nog, fq_of (i_x_isThing q _), b2_0, hn, ly0]
        grind
      · rw [← fq_eq]
        unfold F_X11_register
        simp only [List.map_cons, List.map_nil, f_mkF, w_sI, w_sR, w_sL, w_sC, w_sk, w_sbr, w_sco, w_rV, w_rI, w_rR, w_rL, w_dI, w_sO, w_sq, w_si, w_pI, w_pZ, w_pR, w_pU, w_qI, w_qB, w_qZ, w_qU, w_qR, w_kV, q_icst, q_lcst, q_xR, q_ldI, q_ldR, q_ldL, q_bn, q_un, q_dv, q_fI, q_fR, q_aI, q_aR, q_aN, q_tn, q_cmp, q_cmz, q_cnt, q_ctt, q_cand, q_cor, q_vn, q_vI, q_vR, q_vL, q_kI, q_kR, q_kL, q_ckI, envN, argE, List.flatMap_cons, List.flatMap_nil, Value.category, junk, oadd, osub, omul, oand, oor, oxor, odiv, orem, oshl, oshr, oushr, omax, omin]
        simp [rk_i, rk_b, rk_o, st1, kill, Value.category, rcv, nog, fq_of (i_m_isThing q _), b2_0, hn, ly166]
        grind
theorem pa_of {LW : Hp → Prop} {n : Nat} {h : Hp} (q : INV LW n h) {a b : Int32} (h0 : (0 ≤ a ∧ a < h.2.1 166 2) ∧ 0 ≤ b ∧ b < h.2.1 172 a.toNatClampNeg) : ∃ t i ra m, t < 4 ∧ a = nI t ∧ b = nI i ∧ i < m ∧ m ≤ 20 ∧ TH h (28 + 22 * t) ra m (mrow h t) ∧ h.2.1 172 t = nI m ∧ (∀ i j, i < 20 → j < 20 → ra i = ra j → i = j) ∧ (∀ i, i < m → rowV (h.2.1 166 1).toInt (h.2.1 166 0).toInt (mrow h t i)) ∧ ∀ i, i + 1 < m → (mrow h t i 3).toInt ≤ (mrow h t (i + 1) 3).toInt := by
  obtain ⟨t, ht, rfl⟩ := th_num q h0.1.1 h0.1.2
  rw [nI_clamp (by omega)] at h0
  obtain ⟨ra, m, t1, t2, t4⟩ := th_of q ht
  rw [t2] at h0
  have t3 := t1.2.1.2
  have z1 := Int32.le_iff_toInt_le.mp h0.2.1
  have z2 := Int32.lt_iff_toInt_lt.mp h0.2.2
  rw [nI_toInt (by omega)] at z2
  have z3 := clampI z1
  exact ⟨t, b.toNatClampNeg, ra, m, ht, rfl, nI_toI z1, by omega, t3, t1, t2, t4⟩
theorem g_mind {LW : Hp → Prop} (hW : LWok LW) : AG (INV LW) F_X10_mind F_X11_mind 4 := by
  intro n h vs hl hn q
  match vs, hl with
  | [a, b, lo, hi], _ =>
    have q' := q
    have q0 := q.1
    have hn := q0.1
    by_cases hc : ((0 ≤ a ∧ a < h.2.1 166 2) ∧ 0 ≤ b ∧ b < h.2.1 172 a.toNatClampNeg) ∧ (0 ≤ lo ∧ lo ≤ hi ∧ hi ≤ 2)
    · have hc1 := hc.1
      have hc2 := hc.2
      clear hc
      obtain ⟨t, i, ra, m, ht, rfl, rfl, hi1, hm20, t1, t2, t8, t9, t10⟩ := pa_of q hc1
      obtain ⟨⟨-, y1, y2, y3, y4, y5⟩, ⟨y6, -⟩, y7, y8⟩ := t1
      obtain ⟨p1, p2, -⟩ := ptT q0 ht
      have p3 : 28 + 22 * t < 212 := by omega
      have p4 : h.2.2 0 2 = some 3 := q0.2.1.at 2 rfl
      have p5 : 28 + 22 * t + 1 < 212 := by omega
      have hm := q0.2.2
      obtain ⟨z1, z2, z3, z4⟩ := y7 i (by omega)
      have z5 : ra i < 212 := by omega
      generalize hh1 : wI (wI h (ra i) 6 lo) (ra i) 7 hi = h1
      have ep : Ip h1 := by rw [← hh1]; exact Ip_c rfl rfl q0
      have q1 : h1.2.1 166 2 = h.2.1 166 2 := by
        rw [← hh1]
        simp only [wI_i]
        rw [if_neg (by omega), if_neg (by omega)]
      have q2 : h1.2.1 172 t = h.2.1 172 t := by
        rw [← hh1]
        simp only [wI_i]
        rw [if_neg (by omega), if_neg (by omega)]
      have c1 := Int32.le_iff_toInt_le.mp hc2.1
      have c2 := Int32.le_iff_toInt_le.mp hc2.2.1
      have c3 : hi.toInt ≤ 2 := Int32.le_iff_toInt_le.mp hc2.2.2
      refine ⟨1, h1, wI (wI h1 179 (22 * t + i) lo) 180 (22 * t + i) hi, ?_, ep.1, ?_, ?_⟩
      · rw [← fq_eq]
        unfold F_X10_mind
        simp only [List.map_cons, List.map_nil, f_mkF, w_sI, w_sR, w_sL, w_sC, w_sk, w_sbr, w_sco, w_rV, w_rI, w_rR, w_rL, w_dI, w_sO, w_sq, w_si, w_pI, w_pZ, w_pR, w_pU, w_qI, w_qB, w_qZ, w_qU, w_qR, w_kV, q_icst, q_lcst, q_xR, q_ldI, q_ldR, q_ldL, q_bn, q_un, q_dv, q_fI, q_fR, q_aI, q_aR, q_aN, q_tn, q_cmp, q_cmz, q_cnt, q_ctt, q_cand, q_cor, q_vn, q_vI, q_vR, q_vL, q_kI, q_kR, q_kL, q_ckI, envN, argE, List.flatMap_cons, List.flatMap_nil, Value.category, junk, oadd, osub, omul, oand, oor, oxor, odiv, orem, oshl, oshr, oushr, omax, omin]
        rw [nI_clamp (by omega)] at hc1
        simp (disch := first | omega | simp) [rk_i, rk_b, rk_o, st1, kill, Value.category, rcv, nog, fq_of (i_x_isPassing q _ _), fq_of (e_x_isRange _ _ _), b2_0, hc2, hn, ly0, ly3, p1, p2, p3, p4, p5, inI_b, nI_clamp, nI_ltI, nI_leI, nI_eq, nI_9, nI_6, nI_22, nI_12, nI_180, nI_add, nI_1, y4, y5, z1, z5, z4, fq_of (e_x_knows _ _ _ _ hn z5 z4), hh1, hc1]
        omega
      · rw [← fq_eq]
        have t3 := q.2.2.2.2.2.2.1.2.1.2
        unfold F_X11_mind
        simp only [List.map_cons, List.map_nil, f_mkF, w_sI, w_sR, w_sL, w_sC, w_sk, w_sbr, w_sco, w_rV, w_rI, w_rR, w_rL, w_dI, w_sO, w_sq, w_si, w_pI, w_pZ, w_pR, w_pU, w_qI, w_qB, w_qZ, w_qU, w_qR, w_kV, q_icst, q_lcst, q_xR, q_ldI, q_ldR, q_ldL, q_bn, q_un, q_dv, q_fI, q_fR, q_aI, q_aR, q_aN, q_tn, q_cmp, q_cmz, q_cnt, q_ctt, q_cand, q_cor, q_vn, q_vI, q_vR, q_vL, q_kI, q_kR, q_kL, q_ckI, envN, argE, List.flatMap_cons, List.flatMap_nil, Value.category, junk, oadd, osub, omul, oand, oor, oxor, odiv, orem, oshl, oshr, oushr, omax, omin]
        rw [nI_clamp (by omega)] at hc1
        simp (disch := first | omega | simp) [rk_i, rk_b, rk_o, st1, kill, Value.category, rcv, nog, fq_of (e_m_isPassing ep _ _ (by rw [q1]; exact t3)), fq_of (e_m_isMind _ _ _), b2_0, hc2, ep.1, ly166, ly179, ly180, hm 15, hm 16, ep.2.2 15, ep.2.2 16, mp, inI_b, nI_clamp, nI_ltI, nI_leI, nI_eq, nI_9, nI_6, nI_22, nI_12, nI_180, nI_add, nI_1, wI_1, wI_r, q1, q2, hc1]
        omega
      · have sm : ∀ S : Nat → Nat → Prop, ¬ S (ra i) 6 → ¬ S (ra i) 7 → ¬ S 179 (22 * t + i) → ¬ S 180 (22 * t + i) → same S h (wI (wI h1 179 (22 * t + i) lo) 180 (22 * t + i) hi) := by
          intro S x1 x2 x3 x4
          rw [← hh1]
          exact same_w (same_w (same_w (same_w same_0 x1) x2) x3) x4
        have rr : (wI (wI h1 179 (22 * t + i) lo) 180 (22 * t + i) hi).2.2 = h.2.2 := by rw [← hh1]; rfl
        have e : ∀ x k, ¬ (x = ra i ∧ (k = 6 ∨ k = 7)) → ¬ ((x = 179 ∨ x = 180) ∧ k = 22 * t + i) → (wI (wI h1 179 (22 * t + i) lo) 180 (22 * t + i) hi).2.1 x k = h.2.1 x k := by
          intro x k hx1 hx2
          refine sm (fun u w => u = x ∧ w = k) ?_ ?_ ?_ ?_ x k ⟨rfl, rfl⟩ <;> (rintro ⟨rfl, rfl⟩; omega)
        have e6 : (wI (wI h1 179 (22 * t + i) lo) 180 (22 * t + i) hi).2.1 (ra i) 6 = lo := by
          rw [← hh1]
          simp only [wI_i]
          rw [if_neg (by omega), if_neg (by omega), if_neg (by omega), if_pos (by simp)]
        have e7 : (wI (wI h1 179 (22 * t + i) lo) 180 (22 * t + i) hi).2.1 (ra i) 7 = hi := by
          rw [← hh1]
          simp only [wI_i]
          rw [if_neg (by omega), if_neg (by omega), if_pos (by simp)]
        have e9 : (wI (wI h1 179 (22 * t + i) lo) 180 (22 * t + i) hi).2.1 179 (22 * t + i) = lo := by simp [wI_i]
        have e10 : (wI (wI h1 179 (22 * t + i) lo) 180 (22 * t + i) hi).2.1 180 (22 * t + i) = hi := by simp [wI_i]
        have e11 : (wI (wI h1 179 (22 * t + i) lo) 180 (22 * t + i) hi).1 = 212 := by rw [← hh1]; exact hn
        generalize (wI (wI h1 179 (22 * t + i) lo) 180 (22 * t + i) hi) = h2 at *
        obtain ⟨-, w1, w2, w3, w4, w5, w6, w7, w8, w9, w10⟩ := q
        refine ⟨⟨e11, by rw [rr]; exact q0.2⟩, Iclk_c (sm _ ?_ ?_ ?_ ?_) w1, Iper_c (sm _ ?_ ?_ ?_ ?_) w2, Isen_c (sm _ ?_ ?_ ?_ ?_) w3, Iroa_c (sm _ ?_ ?_ ?_ ?_) w4, Itap_c (sm _ ?_ ?_ ?_ ?_) w5, Ithi_c (sm _ ?_ ?_ ?_ ?_) ?hnp w6, ?irow, Icla_c (sm _ ?_ ?_ ?_ ?_) (sameR_of rr) w8, hW _ _ (sm _ ?_ ?_ ?_ ?_) (sameR_of rr) w9, Icou_c (sm _ ?_ ?_ ?_ ?_) w10⟩
        case hnp => rw [e 166 1 (by omega) (by omega)]; exact Int.le_refl _
        case irow =>
          intro s hs
          by_cases hst : s = t
          · subst hst
            have ee : ∀ j k, j < m → k < 8 → (j = i → k ≠ 6 ∧ k ≠ 7) → h2.2.1 (ra j) k = h.2.1 (ra j) k ∧ mrow h2 s j k = mrow h s j k := by
              intro j k hj hk hji
              have := y7 j (by omega)
              refine ⟨e _ _ ?_ (by omega), e _ _ (by omega) ?_⟩
              · rintro ⟨f1, f2⟩
                have := t8 j i (by omega) (by omega) f1
                omega
              · rintro ⟨f1, f2⟩
                have : j = i := by omega
                omega
            have em6 : mrow h2 s i 6 = lo := e9
            have em7 : mrow h2 s i 7 = hi := e10
            refine ⟨ra, fun j hj => by rw [rr]; have := y7 j hj; exact ⟨by rw [show 29 + 22 * s = 28 + 22 * s + 1 by omega]; exact this.1, by omega, by omega⟩, t8, fun j hj hjm => ?_⟩
            rw [e 172 s (by omega) (by omega), t2, nI_toInt (by omega)] at hjm ⊢
            have hjm2 : j < m := by omega
            refine ⟨fun k hk => ?_, ?_, fun hjm3 => ?_⟩
            · by_cases hji : j = i ∧ (k = 6 ∨ k = 7)
              · obtain ⟨rfl, rfl | rfl⟩ := hji
                · rw [e6, em6]
                · rw [e7, em7]
              · obtain ⟨g1, g2⟩ := ee j k hjm2 hk (by omega)
                rw [g1, g2]
                exact y8 j k hjm2 hk
            · have v := t9 j hjm2
              rw [e 166 1 (by omega) (by omega), e 166 0 (by omega) (by omega)]
              unfold rowV at v ⊢
              rw [(ee j 0 hjm2 (by omega) (by omega)).2, (ee j 1 hjm2 (by omega) (by omega)).2, (ee j 2 hjm2 (by omega) (by omega)).2, (ee j 3 hjm2 (by omega) (by omega)).2, (ee j 4 hjm2 (by omega) (by omega)).2, (ee j 5 hjm2 (by omega) (by omega)).2]
              by_cases hji : j = i
              · subst hji
                rw [em6, em7]
                have c0 : Int32.toInt 0 = 0 := rfl
                omega
              · rw [(ee j 6 hjm2 (by omega) (by omega)).2, (ee j 7 hjm2 (by omega) (by omega)).2]
                exact v
            · rw [(ee j 3 hjm2 (by omega) (by omega)).2, (ee (j + 1) 3 (by omega) (by omega) (by omega)).2]
              exact t10 j (by omega)
          · obtain ⟨rb, g1, g2, g3⟩ := w7 s hs
            refine ⟨rb, fun j hj => by rw [rr]; exact g1 j hj, g2, fun j hj hjm => ?_⟩
            rw [e 172 s (by omega) (by omega)] at hjm ⊢
            obtain ⟨f1, f2, f3⟩ := g3 j hj hjm
            have em : ∀ j k, j ≤ 20 → k < 8 → mrow h2 s j k = mrow h s j k := fun j k hj hk => e _ _ (by omega) (by omega)
            refine ⟨fun k hk => ?_, ?_, fun hjm3 => ?_⟩
            · rw [em j k (by omega) hk, e _ _ (by have := g1 j hj; omega) (by have := g1 j hj; omega)]
              exact f1 k hk
            · rw [e 166 1 (by omega) (by omega), e 166 0 (by omega) (by omega)]
              exact rowV_c (fun k hk => em j k (by omega) hk) f2
            · rw [em j 3 (by omega) (by omega), em (j + 1) 3 (by omega) (by omega)]
              exact f3 hjm3
        all_goals (simp only [Sclk, Sper, Ssen, Sroa, Stap, Sthi, Srow, Slaw, Scou]; omega)
    · refine ⟨0, h, h, ?_, hn, ?_, INV_up q⟩
      · rw [← fq_eq]
        unfold F_X10_mind
        simp only [List.map_cons, List.map_nil, f_mkF, w_sI, w_sR, w_sL, w_sC, w_sk, w_sbr, w_sco, w_rV, w_rI, w_rR, w_rL, w_dI, w_sO, w_sq, w_si, w_pI, w_pZ, w_pR, w_pU, w_qI, w_qB, w_qZ, w_qU, w_qR, w_kV, q_icst, q_lcst, q_xR, q_ldI, q_ldR, q_ldL, q_bn, q_un, q_dv, q_fI, q_fR, q_aI, q_aR, q_aN, q_tn, q_cmp, q_cmz, q_cnt, q_ctt, q_cand, q_cor, q_vn, q_vI, q_vR, q_vL, q_kI, q_kR, q_kL, q_ckI, envN, argE, List.flatMap_cons, List.flatMap_nil, Value.category, junk, oadd, osub, omul, oand, oor, oxor, odiv, orem, oshl, oshr, oushr, omax, omin]
        simp [rk_i, rk_b, rk_o, st1, kill, Value.category, rcv, nog, fq_of (i_x_isPassing q _ _), fq_of (e_x_isRange _ _ _), b2_0, hn, ly0]
        grind
      · rw [← fq_eq]
        unfold F_X11_mind
        simp only [List.map_cons, List.map_nil, f_mkF, w_sI, w_sR, w_sL, w_sC, w_sk, w_sbr, w_sco, w_rV, w_rI, w_rR, w_rL, w_dI, w_sO, w_sq, w_si, w_pI, w_pZ, w_pR, w_pU, w_qI, w_qB, w_qZ, w_qU, w_qR, w_kV, q_icst, q_lcst, q_xR, q_ldI, q_ldR, q_ldL, q_bn, q_un, q_dv, q_fI, q_fR, q_aI, q_aR, q_aN, q_tn, q_cmp, q_cmz, q_cnt, q_ctt, q_cand, q_cor, q_vn, q_vI, q_vR, q_vL, q_kI, q_kR, q_kL, q_ckI, envN, argE, List.flatMap_cons, List.flatMap_nil, Value.category, junk, oadd, osub, omul, oand, oor, oxor, odiv, orem, oshl, oshr, oushr, omax, omin]
        simp [rk_i, rk_b, rk_o, st1, kill, Value.category, rcv, nog, fq_of (i_m_isPassing q _ _), fq_of (e_m_isMind _ _ _), b2_0, hn, ly166]
        grind
