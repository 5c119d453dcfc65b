/-! may: both -/
theorem may_c {w : Wd} (hw : WV w) {p : Nat} : (∃ c, c < 3 ^ uns (W_R w) (W_n w) ∧ cok w c ∧ own w (stt w 0 (mdc w c) (W_n w)) (W_n w) = nI p) ↔ ∃ md, VM w md (W_n w) ∧ own w (stt w 0 md (W_n w)) (W_n w) = nI p := by
  constructor
  · rintro ⟨c, -, h1, h2⟩; exact ⟨mdc w c, h1, h2⟩
  · rintro ⟨md, h1, h2⟩
    have e : ∀ i, i < W_n w → mdc w (enc w md (W_n w)) i = md i := fun i hi => mdc_enc hw h1 hi
    refine ⟨enc w md (W_n w), (enc_ok hw h1 _ (Nat.le_refl _)).1, fun i hi => by rw [e i hi]; exact h1 i hi, ?_⟩
    rw [stt_c (md' := md) e]
    exact h2
theorem f_may (f t : Nat) : True := trivial
theorem m_mayL {w : Wd} {t : Nat} {h : Hp} (m : MX w t h) (hU8 : uns (W_R w) (W_n w) ≤ 8) (ty : TRY w h) : wp (sq (sI 3 (icst 0)) (sq (sq (sI 4 (icst 0)) (lp (cnt (cmp oge (ldI 4) (aI 13 (fR 11 54 (ldR 0)) (fI 11 52 (ldR 0))))) (sI 3 (tn (cnt (cmp one (aI 13 (fR 11 55 (ldR 0)) (ldI 4)) (icst (-1)))) (ldI 3) (bn oor (ldI 3) (bn oshl (icst 1) (aI 13 (fR 11 55 (ldR 0)) (ldI 4)))))) (sC 4 1))) (rI (ldI 3)))) [.ref 166, .int (nI (W_f w)), .int (nI t), junk, junk] h fun o v _ h' => o = 2 ∧ h' = h ∧ ∃ x, v = .int x ∧ MAY w x := by
  have hn := m.1.1
  have hm := m.1.2.2
  have hW := m.wv
  obtain ⟨t1, t2, t3, t4⟩ := ty
  have pl := pow_le hU8
  have mc := fun p => may_c hW (p := p)
  generalize uns (W_R w) (W_n w) = U at *
  have U9 : U < 9 := by omega
  refine w_sqI (E' := [.ref 166, .int (nI (W_f w)), .int (nI t), .int 0, junk]) 0 (by simp only [f_mkF, w_sI, w_sR, w_sL, w_sC, w_sk, w_sbr, w_sco, w_rV, w_rI, w_rR, w_rL, w_dI, w_sO, w_sq, w_si, w_pI, w_pZ, w_pR, w_pU, w_qI, w_qB, w_qZ, w_qU, w_qR, w_kV, q_icst, q_lcst, q_xR, q_ldI, q_ldR, q_ldL, q_bn, q_un, q_dv, q_fI, q_fR, q_aI, q_aR, q_aN, q_tn, q_cmp, q_cmz, q_cnt, q_ctt, q_cand, q_cor, q_vn, q_vI, q_vR, q_vL, q_kI, q_kR, q_kL, q_ckI, envN, argE, List.flatMap_cons, List.flatMap_nil, Value.category, junk, oadd, osub, omul, oand, oor, oxor, odiv, orem, oshl, oshr, oushr, omax, omin]; simp) rfl ?_
  refine w_sq.mpr ?_
  refine w_sqI (E' := [.ref 166, .int (nI (W_f w)), .int (nI t), .int 0, .int (nI 0)]) (nI 0) (by simp only [f_mkF, w_sI, w_sR, w_sL, w_sC, w_sk, w_sbr, w_sco, w_rV, w_rI, w_rR, w_rL, w_dI, w_sO, w_sq, w_si, w_pI, w_pZ, w_pR, w_pU, w_qI, w_qB, w_qZ, w_qU, w_qR, w_kV, q_icst, q_lcst, q_xR, q_ldI, q_ldR, q_ldL, q_bn, q_un, q_dv, q_fI, q_fR, q_aI, q_aR, q_aN, q_tn, q_cmp, q_cmz, q_cnt, q_ctt, q_cand, q_cor, q_vn, q_vI, q_vR, q_vL, q_kI, q_kR, q_kL, q_ckI, envN, argE, List.flatMap_cons, List.flatMap_nil, Value.category, junk, oadd, osub, omul, oand, oor, oxor, odiv, orem, oshl, oshr, oushr, omax, omin]; simp [nI_0]) rfl ?_
  refine wp_mono (w_lp (Q := fun o _ E1 h' => o = 0 ∧ h' = h ∧ ∃ x, E1[3]? = some (.int x) ∧ MAY w x) (fun k E h' => h' = h ∧ ∃ c x, k = 3 ^ U - c ∧ c ≤ 3 ^ U ∧ E = [.ref 166, .int (nI (W_f w)), .int (nI t), .int x, .int (nI c)] ∧ ∀ p, p < 32 → (bI x p = true ↔ ∃ c', c' < c ∧ cok w c' ∧ own w (stt w 0 (mdc w c') (W_n w)) (W_n w) = nI p)) ?_ (3 ^ U) _ _ ⟨rfl, 0, 0, rfl, Nat.zero_le _, rfl, fun p hp => by rw [bI_0]; constructor; (intro z; cases z); (rintro ⟨s0, z, -⟩; omega)⟩) ?_
  · rintro k E h' ⟨rfl, c, x, rfl, hc, rfl, hx⟩
    by_cases hcU : c < 3 ^ U
    · refine ev_T ?_ ⟨fun z => (by cases z), fun _ => ?_⟩
      · simp only [f_mkF, w_sI, w_sR, w_sL, w_sC, w_sk, w_sbr, w_sco, w_rV, w_rI, w_rR, w_rL, w_dI, w_sO, w_sq, w_si, w_pI, w_pZ, w_pR, w_pU, w_qI, w_qB, w_qZ, w_qU, w_qR, w_kV, q_icst, q_lcst, q_xR, q_ldI, q_ldR, q_ldL, q_bn, q_un, q_dv, q_fI, q_fR, q_aI, q_aR, q_aN, q_tn, q_cmp, q_cmz, q_cnt, q_ctt, q_cand, q_cor, q_vn, q_vI, q_vR, q_vL, q_kI, q_kR, q_kL, q_ckI, envN, argE, List.flatMap_cons, List.flatMap_nil, Value.category, junk, oadd, osub, omul, oand, oor, oxor, odiv, orem, oshl, oshr, oushr, omax, omin]
        simp (disch := first | omega | simp) [rk_i, rk_b, rk_o, st1, kill, Value.category, rcv, nog, inI_b, nI_clamp, nI_ltI, nI_leI, nI_eq, nI_9, nI_6, nI_22, nI_12, nI_180, nI_add, nI_1, hn, ly166, ly205, hm 54, mp, t1, U9, t3 U (Nat.le_refl _), hcU]
      have c65 : c < 6561 := by omega
      have hgo : ∀ x', (∀ p, p < 32 → (bI x' p = true ↔ ∃ c', c' < c + 1 ∧ cok w c' ∧ own w (stt w 0 (mdc w c') (W_n w)) (W_n w) = nI p)) → wp (sC 4 1) [.ref 166, .int (nI (W_f w)), .int (nI t), .int x', .int (nI c)] h' fun o2 _ E2 h3 => o2 = 0 ∧ ∃ k2, k2 < 3 ^ U - c ∧ h3 = h' ∧ ∃ c x, k2 = 3 ^ U - c ∧ c ≤ 3 ^ U ∧ E2 = [.ref 166, .int (nI (W_f w)), .int (nI t), .int x, .int (nI c)] ∧ ∀ p, p < 32 → (bI x p = true ↔ ∃ c', c' < c ∧ cok w c' ∧ own w (stt w 0 (mdc w c') (W_n w)) (W_n w) = nI p) := fun x' hx' => w_sCe (nI c) (nI (c + 1)) rfl (nI_1 _) rfl ⟨rfl, 3 ^ U - (c + 1), by omega, rfl, c + 1, x', rfl, by omega, rfl, hx'⟩
      rcases t4 c hcU with ⟨ok, e⟩ | ⟨nok, e⟩
      · have oo := own_ok hW (stt_nb w 0 (mdc w c) (W_n w)).1 (Nat.le_refl _)
        obtain ⟨o, o1, o2, -⟩ := ofN (x := own w (stt w 0 (mdc w c) (W_n w)) (W_n w)) (b := 11) oo.1 (by omega)
        rw [o1] at e
        have om : ¬ nI o = -1 := m1_ne (by omega)
        refine w_sIe (oor x (oshl 1 (nI o))) ?_ rfl ⟨fun _ => hgo _ fun p hp => ?_, (fun z => by cases z), fun z => absurd rfl z⟩
        · rw [q_tn]
          refine ev_F ?_ ⟨(fun z => by cases z), fun _ => ?_⟩
          · simp only [f_mkF, w_sI, w_sR, w_sL, w_sC, w_sk, w_sbr, w_sco, w_rV, w_rI, w_rR, w_rL, w_dI, w_sO, w_sq, w_si, w_pI, w_pZ, w_pR, w_pU, w_qI, w_qB, w_qZ, w_qU, w_qR, w_kV, q_icst, q_lcst, q_xR, q_ldI, q_ldR, q_ldL, q_bn, q_un, q_dv, q_fI, q_fR, q_aI, q_aR, q_aN, q_tn, q_cmp, q_cmz, q_cnt, q_ctt, q_cand, q_cor, q_vn, q_vI, q_vR, q_vL, q_kI, q_kR, q_kL, q_ckI, envN, argE, List.flatMap_cons, List.flatMap_nil, Value.category, junk, oadd, osub, omul, oand, oor, oxor, odiv, orem, oshl, oshr, oushr, omax, omin]
            simp (disch := first | omega | simp) [rk_i, rk_b, rk_o, st1, kill, Value.category, rcv, nog, inI_b, nI_clamp, nI_ltI, nI_leI, nI_eq, nI_9, nI_6, nI_22, nI_12, nI_180, nI_add, nI_1, hn, ly166, ly206, hm 55, mp, c65, e, om]
          · rw [q_bn, q_ldI]
            refine ⟨x, rfl, ?_⟩
            rw [q_bn, q_icst]
            refine ev_mono (P := fun v h2 => v = nI o ∧ h2 = h') (by simp only [f_mkF, w_sI, w_sR, w_sL, w_sC, w_sk, w_sbr, w_sco, w_rV, w_rI, w_rR, w_rL, w_dI, w_sO, w_sq, w_si, w_pI, w_pZ, w_pR, w_pU, w_qI, w_qB, w_qZ, w_qU, w_qR, w_kV, q_icst, q_lcst, q_xR, q_ldI, q_ldR, q_ldL, q_bn, q_un, q_dv, q_fI, q_fR, q_aI, q_aR, q_aN, q_tn, q_cmp, q_cmz, q_cnt, q_ctt, q_cand, q_cor, q_vn, q_vI, q_vR, q_vL, q_kI, q_kR, q_kL, q_ckI, envN, argE, List.flatMap_cons, List.flatMap_nil, Value.category, junk, oadd, osub, omul, oand, oor, oxor, odiv, orem, oshl, oshr, oushr, omax, omin]; simp (disch := first | omega | simp) [rk_i, rk_b, rk_o, st1, kill, Value.category, rcv, nog, inI_b, nI_clamp, nI_ltI, nI_leI, nI_eq, nI_9, nI_6, nI_22, nI_12, nI_180, nI_add, nI_1, hn, ly166, ly206, hm 55, mp, c65, e]) ?_
            rintro v h2 ⟨rfl, rfl⟩
            exact ⟨rfl, rfl⟩
        · rw [bI_or (by omega) hp]
          simp only [Bool.or_eq_true, decide_eq_true_eq]
          rw [hx p hp]
          constructor
          · rintro (⟨c', y1, y2⟩ | rfl)
            · exact ⟨c', by omega, y2⟩
            · exact ⟨c, by omega, ok, o1⟩
          · rintro ⟨c', y1, y2, y3⟩
            by_cases z : c' = c
            · subst z
              rw [o1, nI_eq (by omega) (by omega)] at y3
              exact Or.inr y3.symm
            · exact Or.inl ⟨c', by omega, y2, y3⟩
      · refine w_sIe x ?_ rfl ⟨fun _ => hgo _ fun p hp => ?_, (fun z => by cases z), fun z => absurd rfl z⟩
        · rw [q_tn]
          refine ev_T ?_ ⟨fun _ => ?_, fun z => by cases z⟩
          · simp only [f_mkF, w_sI, w_sR, w_sL, w_sC, w_sk, w_sbr, w_sco, w_rV, w_rI, w_rR, w_rL, w_dI, w_sO, w_sq, w_si, w_pI, w_pZ, w_pR, w_pU, w_qI, w_qB, w_qZ, w_qU, w_qR, w_kV, q_icst, q_lcst, q_xR, q_ldI, q_ldR, q_ldL, q_bn, q_un, q_dv, q_fI, q_fR, q_aI, q_aR, q_aN, q_tn, q_cmp, q_cmz, q_cnt, q_ctt, q_cand, q_cor, q_vn, q_vI, q_vR, q_vL, q_kI, q_kR, q_kL, q_ckI, envN, argE, List.flatMap_cons, List.flatMap_nil, Value.category, junk, oadd, osub, omul, oand, oor, oxor, odiv, orem, oshl, oshr, oushr, omax, omin]
            simp (disch := first | omega | simp) [rk_i, rk_b, rk_o, st1, kill, Value.category, rcv, nog, inI_b, nI_clamp, nI_ltI, nI_leI, nI_eq, nI_9, nI_6, nI_22, nI_12, nI_180, nI_add, nI_1, hn, ly166, ly206, hm 55, mp, c65, e]
          · simp only [f_mkF, w_sI, w_sR, w_sL, w_sC, w_sk, w_sbr, w_sco, w_rV, w_rI, w_rR, w_rL, w_dI, w_sO, w_sq, w_si, w_pI, w_pZ, w_pR, w_pU, w_qI, w_qB, w_qZ, w_qU, w_qR, w_kV, q_icst, q_lcst, q_xR, q_ldI, q_ldR, q_ldL, q_bn, q_un, q_dv, q_fI, q_fR, q_aI, q_aR, q_aN, q_tn, q_cmp, q_cmz, q_cnt, q_ctt, q_cand, q_cor, q_vn, q_vI, q_vR, q_vL, q_kI, q_kR, q_kL, q_ckI, envN, argE, List.flatMap_cons, List.flatMap_nil, Value.category, junk, oadd, osub, omul, oand, oor, oxor, odiv, orem, oshl, oshr, oushr, omax, omin]; simp
        · rw [hx p hp]
          constructor
          · rintro ⟨c', y1, y2⟩; exact ⟨c', by omega, y2⟩
          · rintro ⟨c', y1, y2, y3⟩
            by_cases z : c' = c
            · subst z; exact absurd y2 nok
            · exact ⟨c', by omega, y2, y3⟩
    · have : c = 3 ^ U := by omega
      subst this
      refine ev_F ?_ ⟨fun _ => ⟨rfl, rfl, x, rfl, fun p hp => (hx p hp).trans (mc p)⟩, fun z => (by cases z)⟩
      simp only [f_mkF, w_sI, w_sR, w_sL, w_sC, w_sk, w_sbr, w_sco, w_rV, w_rI, w_rR, w_rL, w_dI, w_sO, w_sq, w_si, w_pI, w_pZ, w_pR, w_pU, w_qI, w_qB, w_qZ, w_qU, w_qR, w_kV, q_icst, q_lcst, q_xR, q_ldI, q_ldR, q_ldL, q_bn, q_un, q_dv, q_fI, q_fR, q_aI, q_aR, q_aN, q_tn, q_cmp, q_cmz, q_cnt, q_ctt, q_cand, q_cor, q_vn, q_vI, q_vR, q_vL, q_kI, q_kR, q_kL, q_ckI, envN, argE, List.flatMap_cons, List.flatMap_nil, Value.category, junk, oadd, osub, omul, oand, oor, oxor, odiv, orem, oshl, oshr, oushr, omax, omin]
      simp (disch := first | omega | simp) [rk_i, rk_b, rk_o, st1, kill, Value.category, rcv, nog, inI_b, nI_clamp, nI_ltI, nI_leI, nI_eq, nI_9, nI_6, nI_22, nI_12, nI_180, nI_add, nI_1, hn, ly166, ly205, hm 54, mp, t1, U9, t3 U (Nat.le_refl _)]
  · rintro o v E1 h2 ⟨rfl, rfl, x, e2, hx⟩
    refine ⟨fun _ => ?_, fun z => absurd rfl z⟩
    rw [w_rI, q_ldI]
    exact ⟨x, e2, rfl, rfl, x, rfl, hx⟩
theorem g_may : AG (INV LWc) F_X10_may F_X11_may 2 := by
  intro n h vs hl hn5 q
  match vs, hl with
  | [a, b], _ =>
    have hn := q.1.1
    by_cases hc : (0 ≤ a ∧ a ≤ 5) ∧ (0 ≤ b ∧ b < h.2.1 166 2)
    · obtain ⟨f, hf, rfl⟩ := land_num hc.1
      obtain ⟨t, ht, rfl⟩ := th_num q hc.2.1 hc.2.2
      obtain ⟨w, ra, y, m, e72, rfl, hno, -⟩ := wd_of q hf ht hc.2.2
      have n20 := m.wv.1
      have uN := uns_le (W_R w) (W_n w)
      have p2 : h.2.2 0 2 = some 3 := q.1.2.1.at 2 rfl
      obtain ⟨p1, p3, -⟩ := ptT q.1 ht
      have p4 : 28 + 22 * t < 212 := by omega
      have eu := e_x_unsure y.2.1
      have k8 : (8 : Int32) = nI 8 := rfl
      have X : fq F_X10_may [.ref 0, .int (nI (W_f w)), .int (nI t)] h fun r h' => (∃ x, r = some (.int x) ∧ (uns (W_R w) (W_n w) ≤ 8 → MAY w x) ∧ (¬ uns (W_R w) (W_n w) ≤ 8 → x = -1)) ∧ Fk h h' ∧ IC (20 * n + 1) h' := by
        unfold F_X10_may
        refine f_mkE _ rfl (by simp [argE, Value.category]) ?_
        by_cases hU8 : uns (W_R w) (W_n w) ≤ 8
        · refine w_sq.mpr ((w_siF ?_).mpr (w_sk2.mpr ?_))
          · simp only [f_mkF, w_sI, w_sR, w_sL, w_sC, w_sk, w_sbr, w_sco, w_rV, w_rI, w_rR, w_rL, w_dI, w_sO, w_sq, w_si, w_pI, w_pZ, w_pR, w_pU, w_qI, w_qB, w_qZ, w_qU, w_qR, w_kV, q_icst, q_lcst, q_xR, q_ldI, q_ldR, q_ldL, q_bn, q_un, q_dv, q_fI, q_fR, q_aI, q_aR, q_aN, q_tn, q_cmp, q_cmz, q_cnt, q_ctt, q_cand, q_cor, q_vn, q_vI, q_vR, q_vL, q_kI, q_kR, q_kL, q_ckI, envN, argE, List.flatMap_cons, List.flatMap_nil, Value.category, junk, oadd, osub, omul, oand, oor, oxor, odiv, orem, oshl, oshr, oushr, omax, omin]
            simp (disch := first | omega | simp) [rk_i, rk_b, rk_o, st1, kill, Value.category, rcv, nog, inI_b, nI_clamp, nI_ltI, nI_leI, nI_eq, nI_9, nI_6, nI_22, nI_12, nI_180, nI_add, nI_1, hn, ly0, ly3, p2, p1, p3, p4, ht, fq_of (e_x_isLand _ _), fq_of (i_x_isThing q _), fq_of eu, b2_0, hc, zne, zeq, k8, hU8]
          have p8 : h.2.2 0 8 = some 147 := q.1.2.1.at 8 rfl
          have h12 : h.2.1 0 12 = W_no w := by rw [q.2.1.1, hno]
          have eo := x_open hn (nI (W_f w)) (28 + 22 * t) (W_no w)
          (refine w_fz fun B hB C hC => ?_); (simp only [f_mkF, w_sI, w_sR, w_sL, w_sC, w_sk, w_sbr, w_sco, w_rV, w_rI, w_rR, w_rL, w_dI, w_sO, w_sq, w_si, w_pI, w_pZ, w_pR, w_pU, w_qI, w_qB, w_qZ, w_qU, w_qR, w_kV, q_icst, q_lcst, q_xR, q_ldI, q_ldR, q_ldL, q_bn, q_un, q_dv, q_fI, q_fR, q_aI, q_aR, q_aN, q_tn, q_cmp, q_cmz, q_cnt, q_ctt, q_cand, q_cor, q_vn, q_vI, q_vR, q_vL, q_kI, q_kR, q_kL, q_ckI, envN, argE, List.flatMap_cons, List.flatMap_nil, Value.category, junk, oadd, osub, omul, oand, oor, oxor, odiv, orem, oshl, oshr, oushr, omax, omin]); (simp (disch := first | omega | simp) [rk_i, rk_b, rk_o, st1, kill, Value.category, rcv, nog, inI_b, nI_clamp, nI_ltI, nI_leI, nI_eq, nI_9, nI_6, nI_22, nI_12, nI_180, nI_add, nI_1, hn, ly0, ly3, ly147, p8, p2, p1, ht, h12, fq_of eo]); (subst hB hC)
          have cx := cx_open y
          obtain ⟨ic1, tc1⟩ := ic_open (by omega) (inv_ic q) (nI (W_f w)) (28 + 22 * t) (W_no w)
          have fj1 := opn_fj h (nI (W_f w)) (28 + 22 * t) (W_no w)
          obtain ⟨-, -, -, -, o5, -⟩ := opn_at h (nI (W_f w)) (28 + 22 * t) (W_no w)
          generalize opn h (nI (W_f w)) (28 + 22 * t) (W_no w) = h1 at *
          have hn1 := cx.1.1
          have p9 : h1.2.2 0 9 = some 157 := cx.1.2.1.at 9 rfl
          rw [w_rI]
          refine q_kIe [.ref 157] (by simp only [f_mkF, w_sI, w_sR, w_sL, w_sC, w_sk, w_sbr, w_sco, w_rV, w_rI, w_rR, w_rL, w_dI, w_sO, w_sq, w_si, w_pI, w_pZ, w_pR, w_pU, w_qI, w_qB, w_qZ, w_qU, w_qR, w_kV, q_icst, q_lcst, q_xR, q_ldI, q_ldR, q_ldL, q_bn, q_un, q_dv, q_fI, q_fR, q_aI, q_aR, q_aN, q_tn, q_cmp, q_cmz, q_cnt, q_ctt, q_cand, q_cor, q_vn, q_vI, q_vR, q_vL, q_kI, q_kR, q_kL, q_ckI, envN, argE, List.flatMap_cons, List.flatMap_nil, Value.category, junk, oadd, osub, omul, oand, oor, oxor, odiv, orem, oshl, oshr, oushr, omax, omin]; simp [rk_i, rk_b, rk_o, st1, kill, Value.category, rcv, nog, hn1, ly0, p9]) (by simp [rcv, hn1, ly157]) ?_
          refine fq_mono (x_poss cx (tc1 w) o5) ?_
          rintro r h2 ⟨⟨x, rfl, hx⟩, f2, tc2⟩
          refine ⟨x, rfl, Or.inr ⟨rfl, rfl, ⟨x, rfl, fun _ => hx, fun z => absurd hU8 z⟩, fj1.k.trans (Fk.of f2 fun a k z => by unfold SSpr SX at z; unfold SK2; omega), ?_⟩⟩
          have e10 : h2.2.1 147 10 = h1.2.1 147 10 := f2.2.2 147 10 (by unfold SSpr SX; omega)
          exact ⟨by rw [e10]; exact ic1.1, tc2.1⟩
        · refine w_sq.mpr ((w_siT ?_).mpr ?_)
          · simp only [f_mkF, w_sI, w_sR, w_sL, w_sC, w_sk, w_sbr, w_sco, w_rV, w_rI, w_rR, w_rL, w_dI, w_sO, w_sq, w_si, w_pI, w_pZ, w_pR, w_pU, w_qI, w_qB, w_qZ, w_qU, w_qR, w_kV, q_icst, q_lcst, q_xR, q_ldI, q_ldR, q_ldL, q_bn, q_un, q_dv, q_fI, q_fR, q_aI, q_aR, q_aN, q_tn, q_cmp, q_cmz, q_cnt, q_ctt, q_cand, q_cor, q_vn, q_vI, q_vR, q_vL, q_kI, q_kR, q_kL, q_ckI, envN, argE, List.flatMap_cons, List.flatMap_nil, Value.category, junk, oadd, osub, omul, oand, oor, oxor, odiv, orem, oshl, oshr, oushr, omax, omin]
            simp (disch := first | omega | simp) [rk_i, rk_b, rk_o, st1, kill, Value.category, rcv, nog, inI_b, nI_clamp, nI_ltI, nI_leI, nI_eq, nI_9, nI_6, nI_22, nI_12, nI_180, nI_add, nI_1, hn, ly0, ly3, p2, p1, p3, p4, ht, fq_of (e_x_isLand _ _), fq_of (i_x_isThing q _), fq_of eu, b2_0, hc, zne, zeq, k8]
            try omega
          · rw [w_rI, q_icst]
            exact ⟨(fun z => by cases z), fun _ => Or.inr ⟨rfl, rfl, ⟨-1, rfl, fun z => absurd z hU8, fun _ => rfl⟩, (Fj.refl h).k, (inv_ic q).le (by omega)⟩⟩
      obtain ⟨r, h1, e1, ⟨x, rfl, hx1, hx2⟩, fk, ic⟩ := X
      have m1 := m.fk fk
      have hn1 := m1.1.1
      have e72' : h1.2.1 172 t = nI (W_n w) := (fk.2.2 172 t (by unfold SK2; omega)).trans e72
      have e2' : h1.2.1 166 2 = h.2.1 166 2 := fk.2.2 166 2 (by unfold SK2; omega)
      have hcan : b2 ((0 ≤ nI (W_f w) ∧ nI (W_f w) ≤ 5) ∧ (0 ≤ nI t ∧ nI t < h1.2.1 166 2)) = 1 := b2_t (by rw [e2']; exact hc)
      have Y : fq F_X11_may [.ref 166, .int (nI (W_f w)), .int (nI t)] h1 fun r h' => r = some (.int x) ∧ Fr STr h1 h' := by
        unfold F_X11_may
        refine f_mkE [.ref 166, .int (nI (W_f w)), .int (nI t), junk, junk] rfl (by simp [argE, Value.category]) ?_
        rw [w_sq, w_si, q_cor]
        refine ev_F ?_ ⟨(fun z => by cases z), fun _ => ?_⟩
        · simp only [f_mkF, w_sI, w_sR, w_sL, w_sC, w_sk, w_sbr, w_sco, w_rV, w_rI, w_rR, w_rL, w_dI, w_sO, w_sq, w_si, w_pI, w_pZ, w_pR, w_pU, w_qI, w_qB, w_qZ, w_qU, w_qR, w_kV, q_icst, q_lcst, q_xR, q_ldI, q_ldR, q_ldL, q_bn, q_un, q_dv, q_fI, q_fR, q_aI, q_aR, q_aN, q_tn, q_cmp, q_cmz, q_cnt, q_ctt, q_cand, q_cor, q_vn, q_vI, q_vR, q_vL, q_kI, q_kR, q_kL, q_ckI, envN, argE, List.flatMap_cons, List.flatMap_nil, Value.category, junk, oadd, osub, omul, oand, oor, oxor, odiv, orem, oshl, oshr, oushr, omax, omin]
          simp [rk_i, rk_b, rk_o, st1, kill, Value.category, rcv, nog, hn1, ly166, fq_of (m_can hn1 _ _), hcan]
        rw [q_cnt, q_cmz]
        refine q_kIe [.ref 166, .int (nI (W_f w)), .int (nI t)] (by simp only [f_mkF, w_sI, w_sR, w_sL, w_sC, w_sk, w_sbr, w_sco, w_rV, w_rI, w_rR, w_rL, w_dI, w_sO, w_sq, w_si, w_pI, w_pZ, w_pR, w_pU, w_qI, w_qB, w_qZ, w_qU, w_qR, w_kV, q_icst, q_lcst, q_xR, q_ldI, q_ldR, q_ldL, q_bn, q_un, q_dv, q_fI, q_fR, q_aI, q_aR, q_aN, q_tn, q_cmp, q_cmz, q_cnt, q_ctt, q_cand, q_cor, q_vn, q_vI, q_vR, q_vL, q_kI, q_kR, q_kL, q_ckI, envN, argE, List.flatMap_cons, List.flatMap_nil, Value.category, junk, oadd, osub, omul, oand, oor, oxor, odiv, orem, oshl, oshr, oushr, omax, omin]; simp) (by simp [rcv, hn1, ly166]) ?_
        refine fq_mono (m_tries m1 e72') ?_
        rintro r h2 ⟨rfl, f2, ty⟩
        refine ⟨_, rfl, ?_⟩
        by_cases hU8 : uns (W_R w) (W_n w) ≤ 8
        · rw [b2_t hU8]
          refine ⟨(fun z => by simp at z), fun _ => w_sk2.mpr ?_⟩
          refine wp_mono (m_mayL (m1.ftr f2) hU8 (ty hU8)) ?_
          rintro o v E1 h3 ⟨rfl, rfl, x', rfl, hx'⟩
          exact Or.inr ⟨rfl, rfl, by rw [MAY_eq hx' (hx1 hU8)], f2⟩
        · rw [b2_f hU8]
          refine ⟨fun _ => ?_, (fun z => by simp at z)⟩
          rw [w_rI, q_icst]
          exact ⟨(fun z => by cases z), fun _ => Or.inr ⟨rfl, rfl, by rw [hx2 hU8], f2⟩⟩
      obtain ⟨r, h2, e2, rfl, f2⟩ := Y
      exact ⟨x, h1, h2, e1, hn1, e2, inv_k q fk f2 STr_ok (by omega) ic⟩
    · refine ⟨-1, h, h, ?_, hn, ?_, INV_up q⟩
      · rw [← fq_eq]
        unfold F_X10_may
        refine f_mkE _ rfl (by simp [argE, Value.category]) ?_
        rw [w_sq, w_si, q_cor]
        refine ev_T ?_ ⟨fun _ => ⟨fun _ => ?_, fun z => by cases z⟩, (fun z => by cases z)⟩
        · simp only [f_mkF, w_sI, w_sR, w_sL, w_sC, w_sk, w_sbr, w_sco, w_rV, w_rI, w_rR, w_rL, w_dI, w_sO, w_sq, w_si, w_pI, w_pZ, w_pR, w_pU, w_qI, w_qB, w_qZ, w_qU, w_qR, w_kV, q_icst, q_lcst, q_xR, q_ldI, q_ldR, q_ldL, q_bn, q_un, q_dv, q_fI, q_fR, q_aI, q_aR, q_aN, q_tn, q_cmp, q_cmz, q_cnt, q_ctt, q_cand, q_cor, q_vn, q_vI, q_vR, q_vL, q_kI, q_kR, q_kL, q_ckI, envN, argE, List.flatMap_cons, List.flatMap_nil, Value.category, junk, oadd, osub, omul, oand, oor, oxor, odiv, orem, oshl, oshr, oushr, omax, omin]
          simp [rk_i, rk_b, rk_o, st1, kill, Value.category, rcv, nog, fq_of (e_x_isLand _ _), fq_of (i_x_isThing q _), b2_0, hn, ly0, zne, zeq]
          grind
        · simp only [f_mkF, w_sI, w_sR, w_sL, w_sC, w_sk, w_sbr, w_sco, w_rV, w_rI, w_rR, w_rL, w_dI, w_sO, w_sq, w_si, w_pI, w_pZ, w_pR, w_pU, w_qI, w_qB, w_qZ, w_qU, w_qR, w_kV, q_icst, q_lcst, q_xR, q_ldI, q_ldR, q_ldL, q_bn, q_un, q_dv, q_fI, q_fR, q_aI, q_aR, q_aN, q_tn, q_cmp, q_cmz, q_cnt, q_ctt, q_cand, q_cor, q_vn, q_vI, q_vR, q_vL, q_kI, q_kR, q_kL, q_ckI, envN, argE, List.flatMap_cons, List.flatMap_nil, Value.category, junk, oadd, osub, omul, oand, oor, oxor, odiv, orem, oshl, oshr, oushr, omax, omin]; simp [rk_i, rk_b, rk_o, st1, kill, Value.category, rcv, nog]
      · rw [← fq_eq]
        unfold F_X11_may
        refine f_mkE _ rfl (by simp [argE, Value.category]) ?_
        rw [w_sq, w_si, q_cor]
        refine ev_T ?_ ⟨fun _ => ⟨fun _ => ?_, fun z => by cases z⟩, (fun z => by cases z)⟩
        · simp only [f_mkF, w_sI, w_sR, w_sL, w_sC, w_sk, w_sbr, w_sco, w_rV, w_rI, w_rR, w_rL, w_dI, w_sO, w_sq, w_si, w_pI, w_pZ, w_pR, w_pU, w_qI, w_qB, w_qZ, w_qU, w_qR, w_kV, q_icst, q_lcst, q_xR, q_ldI, q_ldR, q_ldL, q_bn, q_un, q_dv, q_fI, q_fR, q_aI, q_aR, q_aN, q_tn, q_cmp, q_cmz, q_cnt, q_ctt, q_cand, q_cor, q_vn, q_vI, q_vR, q_vL, q_kI, q_kR, q_kL, q_ckI, envN, argE, List.flatMap_cons, List.flatMap_nil, Value.category, junk, oadd, osub, omul, oand, oor, oxor, odiv, orem, oshl, oshr, oushr, omax, omin]
          simp [rk_i, rk_b, rk_o, st1, kill, Value.category, rcv, nog, fq_of (m_can hn _ _), hn, ly166, b2_f hc]
        · simp only [f_mkF, w_sI, w_sR, w_sL, w_sC, w_sk, w_sbr, w_sco, w_rV, w_rI, w_rR, w_rL, w_dI, w_sO, w_sq, w_si, w_pI, w_pZ, w_pR, w_pU, w_qI, w_qB, w_qZ, w_qU, w_qR, w_kV, q_icst, q_lcst, q_xR, q_ldI, q_ldR, q_ldL, q_bn, q_un, q_dv, q_fI, q_fR, q_aI, q_aR, q_aN, q_tn, q_cmp, q_cmz, q_cnt, q_ctt, q_cand, q_cor, q_vn, q_vI, q_vR, q_vL, q_kI, q_kR, q_kL, q_ckI, envN, argE, List.flatMap_cons, List.flatMap_nil, Value.category, junk, oadd, osub, omul, oand, oor, oxor, odiv, orem, oshl, oshr, oushr, omax, omin]; simp [rk_i, rk_b, rk_o, st1, kill, Value.category, rcv, nog]
