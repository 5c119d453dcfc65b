theorem HG_unq {w : Wd} (hw : WV w) {i : Nat} (hi : i < W_n w) (h : HG w i) : unq w i = true := ((HG_c hw hi).mp h).1
theorem x_decisive {w : Wd} {T : Nat} {ra : Nat → Nat} {A B : Nat} {h : Hp} (q : DX w T ra A B h) {i : Nat} (hi : i < W_n w) : fq F_X2_isDecisive [.ref 157, .int (nI i)] h fun r h' => (∃ x, r = some (.int x) ∧ ((x = 1 ∧ HG w i) ∨ (x = 0 ∧ ¬ HG w i))) ∧ Fp h h' ∧ ∃ A' B', DX w T ra A' B' h' := by
  have k21 : (21 : Int32) = nI 21 := rfl
  have hn := q.1.1.1
  obtain ⟨hn1, a1, a2, a3, a4, a5, a6, a7⟩ := q.1.hd
  obtain ⟨i20, b1, b2', b3, b4⟩ := q.1.row hi
  obtain ⟨lo, hh, e1, e2, e3, e4, e5⟩ := q.1.wv.mi hi
  have p0 : h.2.2 157 0 = some 147 := q.1.1.2.1.at 75 rfl
  have pA := q.2.2.1
  have pAB := q.2.2.2.2
  have hA : A = 160 ∨ A = 161 := by omega
  have hA2 : A < 212 := by omega
  have hLA : LY A = (13, 21) := by rcases hA with rfl | rfl <;> rfl
  have i21 : i < 21 := by omega
  have w20 := q.1.wv.1
  unfold F_X2_isDecisive
  refine f_mkE [.ref 157, .int (nI i), junk, junk, junk, junk] rfl (by simp [argE, Value.category]) ?_
  refine w_sqR (E' := [.ref 157, .int (nI i), .ref (ra i), junk, junk, junk]) (ra i) ?_ (by simp [st1, kill, Value.category]) ?_
  · simp only [f_mkF, w_sI, w_sR, w_sL, w_sC, w_sk, w_sbr, w_sco, w_rV, w_rI, w_rR, w_rL, w_dI, w_sO, w_sq, w_si, w_pI, w_pZ, w_pR, w_pU, w_qI, w_qB, w_qZ, w_qU, w_qR, w_kV, q_icst, q_lcst, q_xR, q_ldI, q_ldR, q_ldL, q_bn, q_un, q_dv, q_fI, q_fR, q_aI, q_aR, q_aN, q_tn, q_cmp, q_cmz, q_cnt, q_ctt, q_cand, q_cor, q_vn, q_vI, q_vR, q_vL, q_kI, q_kR, q_kL, q_ckI, envN, argE, List.flatMap_cons, List.flatMap_nil, Value.category, junk, oadd, osub, omul, oand, oor, oxor, odiv, orem, oshl, oshr, oushr, omax, omin]
    simp (disch := first | omega | simp) [rk_i, rk_b, rk_o, st1, kill, Value.category, rcv, nog, inI_b, nI_clamp, nI_ltI, nI_leI, nI_eq, nI_9, nI_6, nI_22, nI_12, nI_180, nI_add, nI_1, hn1, ly157, ly147, p0, a1, a2, a3, a4, a5, a6, b1, i20]
  have r6 := b4 6 (by omega)
  have r7 := b4 7 (by omega)
  rw [e1] at r6
  rw [e2] at r7
  by_cases hlh : lo = hh
  · refine w_sq.mpr ((w_siT ?_).mpr ?_)
    · simp only [f_mkF, w_sI, w_sR, w_sL, w_sC, w_sk, w_sbr, w_sco, w_rV, w_rI, w_rR, w_rL, w_dI, w_sO, w_sq, w_si, w_pI, w_pZ, w_pR, w_pU, w_qI, w_qB, w_qZ, w_qU, w_qR, w_kV, q_icst, q_lcst, q_xR, q_ldI, q_ldR, q_ldL, q_bn, q_un, q_dv, q_fI, q_fR, q_aI, q_aR, q_aN, q_tn, q_cmp, q_cmz, q_cnt, q_ctt, q_cand, q_cor, q_vn, q_vI, q_vR, q_vL, q_kI, q_kR, q_kL, q_ckI, envN, argE, List.flatMap_cons, List.flatMap_nil, Value.category, junk, oadd, osub, omul, oand, oor, oxor, odiv, orem, oshl, oshr, oushr, omax, omin]
      simp (disch := first | omega | simp) [rk_i, rk_b, rk_o, st1, kill, Value.category, rcv, nog, inI_b, nI_clamp, nI_ltI, nI_leI, nI_eq, nI_9, nI_6, nI_22, nI_12, nI_180, nI_add, nI_1, hn1, b2', b3, r6, r7, hlh]
    · rw [w_rI, q_icst]
      refine ⟨(fun z => by omega), fun _ => Or.inr ⟨rfl, rfl, ⟨0, rfl, Or.inr ⟨rfl, fun z => ?_⟩⟩, Fp.of (Fr.refl h), A, B, q⟩⟩
      have := e5.mp (HG_unq q.1.wv hi z)
      omega
  refine w_sq.mpr ((w_siF ?_).mpr (w_sk2.mpr ?_))
  · simp only [f_mkF, w_sI, w_sR, w_sL, w_sC, w_sk, w_sbr, w_sco, w_rV, w_rI, w_rR, w_rL, w_dI, w_sO, w_sq, w_si, w_pI, w_pZ, w_pR, w_pU, w_qI, w_qB, w_qZ, w_qU, w_qR, w_kV, q_icst, q_lcst, q_xR, q_ldI, q_ldR, q_ldL, q_bn, q_un, q_dv, q_fI, q_fR, q_aI, q_aR, q_aN, q_tn, q_cmp, q_cmz, q_cnt, q_ctt, q_cand, q_cor, q_vn, q_vI, q_vR, q_vL, q_kI, q_kR, q_kL, q_ckI, envN, argE, List.flatMap_cons, List.flatMap_nil, Value.category, junk, oadd, osub, omul, oand, oor, oxor, odiv, orem, oshl, oshr, oushr, omax, omin]
    simp (disch := first | omega | simp) [rk_i, rk_b, rk_o, st1, kill, Value.category, rcv, nog, inI_b, nI_clamp, nI_ltI, nI_leI, nI_eq, nI_9, nI_6, nI_22, nI_12, nI_180, nI_add, nI_1, hn1, b2', b3, r6, r7, hlh]
  refine w_sqS (fun E1 h1 => E1 = [.ref 157, .int (nI i), .ref (ra i), junk, junk, junk] ∧ Fr (fun x _ => x = A) h h1 ∧ ∀ j, j < 21 → h1.2.1 A j = 0) (w_kVe [.ref A, .int 0] (by simp only [f_mkF, w_sI, w_sR, w_sL, w_sC, w_sk, w_sbr, w_sco, w_rV, w_rI, w_rR, w_rL, w_dI, w_sO, w_sq, w_si, w_pI, w_pZ, w_pR, w_pU, w_qI, w_qB, w_qZ, w_qU, w_qR, w_kV, q_icst, q_lcst, q_xR, q_ldI, q_ldR, q_ldL, q_bn, q_un, q_dv, q_fI, q_fR, q_aI, q_aR, q_aN, q_tn, q_cmp, q_cmz, q_cnt, q_ctt, q_cand, q_cor, q_vn, q_vI, q_vR, q_vL, q_kI, q_kR, q_kL, q_ckI, envN, argE, List.flatMap_cons, List.flatMap_nil, Value.category, junk, oadd, osub, omul, oand, oor, oxor, odiv, orem, oshl, oshr, oushr, omax, omin]; simp [hn, ly157, pA]) (by simp [nog]) (fq_mono (x_fill hn hA2 hLA (by omega) 0) ?_)) ?_
  · rintro r h1 ⟨rfl, f1, z1⟩
    exact ⟨rfl, rfl, rfl, f1, z1⟩
  rintro E1 h1 ⟨rfl, f1, z1⟩
  have pr1 : PR A h1 (DV w i lo hh fun s _ _ => s < 0) := by
    intro a b ha hb
    rw [z1 a ha, bI_0]
    constructor
    · intro z; cases z
    · rintro ⟨-, ⟨x, y, m, z, -⟩ | ⟨x, y, m, z, -⟩⟩ <;> omega
  clear z1
  refine w_sqS (fun E1 h2 => (∃ v3 v4 v5, E1 = [.ref 157, .int (nI i), .ref (ra i), v3, v4, v5] ∧ v3.category = 1 ∧ v4.category = 1 ∧ v5.category = 1) ∧ Fr (fun x _ => x = A) h h2 ∧ PR A h2 (DV w i lo hh fun _ _ _ => True)) ?_ ?_
  · refine w_sqI (E' := [.ref 157, .int (nI i), .ref (ra i), .int (nI 0), junk, junk]) (nI 0) (by simp only [f_mkF, w_sI, w_sR, w_sL, w_sC, w_sk, w_sbr, w_sco, w_rV, w_rI, w_rR, w_rL, w_dI, w_sO, w_sq, w_si, w_pI, w_pZ, w_pR, w_pU, w_qI, w_qB, w_qZ, w_qU, w_qR, w_kV, q_icst, q_lcst, q_xR, q_ldI, q_ldR, q_ldL, q_bn, q_un, q_dv, q_fI, q_fR, q_aI, q_aR, q_aN, q_tn, q_cmp, q_cmz, q_cnt, q_ctt, q_cand, q_cor, q_vn, q_vI, q_vR, q_vL, q_kI, q_kR, q_kL, q_ckI, envN, argE, List.flatMap_cons, List.flatMap_nil, Value.category, junk, oadd, osub, omul, oand, oor, oxor, odiv, orem, oshl, oshr, oushr, omax, omin]; simp [nI_0]) (by simp [st1, kill, Value.category]) ?_
    refine w_for (lo := 0) (hi := 21) (fun s E h' => ∃ v4 v5, E = [.ref 157, .int (nI i), .ref (ra i), .int (nI s), v4, v5] ∧ (v4.category = 1 ∧ v5.category = 1) ∧ Fr (fun x _ => x = A) h h' ∧ PR A h' (DV w i lo hh fun x _ _ => x < s)) (fun s E h' => ∃ v4 v5, E = [.ref 157, .int (nI i), .ref (ra i), .int (nI s), v4, v5] ∧ (v4.category = 1 ∧ v5.category = 1) ∧ Fr (fun x _ => x = A) h h' ∧ PR A h' (DV w i lo hh fun x _ _ => x < s + 1)) (by omega) ⟨junk, junk, rfl, ⟨rfl, rfl⟩, f1, pr1⟩ ?_ ?_
    · rintro s E h2 - hs ⟨v4, v5, rfl, ⟨c4, c5⟩, f2, pr2⟩
      by_cases hs21 : s < 21
      · refine ev_T ?_ ⟨rfl, fun _ => ⟨hs21, ?_⟩, fun z => by cases z⟩
        · simp only [f_mkF, w_sI, w_sR, w_sL, w_sC, w_sk, w_sbr, w_sco, w_rV, w_rI, w_rR, w_rL, w_dI, w_sO, w_sq, w_si, w_pI, w_pZ, w_pR, w_pU, w_qI, w_qB, w_qZ, w_qU, w_qR, w_kV, q_icst, q_lcst, q_xR, q_ldI, q_ldR, q_ldL, q_bn, q_un, q_dv, q_fI, q_fR, q_aI, q_aR, q_aN, q_tn, q_cmp, q_cmz, q_cnt, q_ctt, q_cand, q_cor, q_vn, q_vI, q_vR, q_vL, q_kI, q_kR, q_kL, q_ckI, envN, argE, List.flatMap_cons, List.flatMap_nil, Value.category, junk, oadd, osub, omul, oand, oor, oxor, odiv, orem, oshl, oshr, oushr, omax, omin]
          simp (disch := first | omega | simp) [rk_i, rk_b, rk_o, st1, kill, Value.category, rcv, nog, inI_b, nI_clamp, nI_ltI, nI_leI, nI_eq, nI_9, nI_6, nI_22, nI_12, nI_180, nI_add, nI_1, k21, hs21]
        have q2 : DX w T ra A B h2 := q.fr (f2.sub fun a k z => by unfold S61; omega)
        have hn2 := q2.1.1.1
        obtain ⟨-, -, r1, r2, r4⟩ := q2.1.row hi
        have r46 := r4 6 (by omega)
        rw [e1] at r46
        refine w_sqI (E' := [.ref 157, .int (nI i), .ref (ra i), .int (nI s), .int (nI lo), v5]) (nI lo) (by simp only [f_mkF, w_sI, w_sR, w_sL, w_sC, w_sk, w_sbr, w_sco, w_rV, w_rI, w_rR, w_rL, w_dI, w_sO, w_sq, w_si, w_pI, w_pZ, w_pR, w_pU, w_qI, w_qB, w_qZ, w_qU, w_qR, w_kV, q_icst, q_lcst, q_xR, q_ldI, q_ldR, q_ldL, q_bn, q_un, q_dv, q_fI, q_fR, q_aI, q_aR, q_aN, q_tn, q_cmp, q_cmz, q_cnt, q_ctt, q_cand, q_cor, q_vn, q_vI, q_vR, q_vL, q_kI, q_kR, q_kL, q_ckI, envN, argE, List.flatMap_cons, List.flatMap_nil, Value.category, junk, oadd, osub, omul, oand, oor, oxor, odiv, orem, oshl, oshr, oushr, omax, omin]; simp [rk_i, rk_b, rk_o, st1, kill, Value.category, rcv, nog, hn2, r1, r2, r46]) (by simp [st1, kill, Value.category]) ?_
        refine w_for (lo := lo) (hi := hh) (fun m E h' => ∃ v5, E = [.ref 157, .int (nI i), .ref (ra i), .int (nI s), .int (nI m), v5] ∧ v5.category = 1 ∧ Fr (fun x _ => x = A) h h' ∧ PR A h' (DV w i lo hh fun x y _ => x < s ∨ (x = s ∧ y < m))) (fun m E h' => ∃ v5, E = [.ref 157, .int (nI i), .ref (ra i), .int (nI s), .int (nI m), v5] ∧ v5.category = 1 ∧ Fr (fun x _ => x = A) h h' ∧ PR A h' (DV w i lo hh fun x y _ => x < s ∨ (x = s ∧ y < m + 1))) e3 ⟨v5, rfl, c5, f2, PR_DV pr2 fun x y m x1 x2 x3 x4 x5 => by omega⟩ ?_ ?_
        · rintro m E h3 hm1 hm2 ⟨v5, rfl, c5, f3, pr3⟩
          have q3 : DX w T ra A B h3 := q.fr (f3.sub fun a k z => by unfold S61; omega)
          have hn3 := q3.1.1.1
          have p13 : h3.2.2 157 1 = some 158 := q3.1.1.2.1.at 76 rfl
          obtain ⟨-, -, r1, r2, r4⟩ := q3.1.row hi
          have r47 := r4 7 (by omega)
          rw [e2] at r47
          have hbit : ev (cnt (cmz zeq (bn oand (bn oushr (aI 13 (fR 2 1 (ldR 0)) (ldI 1)) (ldI 3)) (icst 1)))) [.ref 157, .int (nI i), .ref (ra i), .int (nI s), .int (nI m), v5] h3 fun t h5 => t = bI (h3.2.1 158 i) s ∧ h5 = h3 := ev_bit _ s (by omega) (by simp only [f_mkF, w_sI, w_sR, w_sL, w_sC, w_sk, w_sbr, w_sco, w_rV, w_rI, w_rR, w_rL, w_dI, w_sO, w_sq, w_si, w_pI, w_pZ, w_pR, w_pU, w_qI, w_qB, w_qZ, w_qU, w_qR, w_kV, q_icst, q_lcst, q_xR, q_ldI, q_ldR, q_ldL, q_bn, q_un, q_dv, q_fI, q_fR, q_aI, q_aR, q_aN, q_tn, q_cmp, q_cmz, q_cnt, q_ctt, q_cand, q_cor, q_vn, q_vI, q_vR, q_vL, q_kI, q_kR, q_kL, q_ckI, envN, argE, List.flatMap_cons, List.flatMap_nil, Value.category, junk, oadd, osub, omul, oand, oor, oxor, odiv, orem, oshl, oshr, oushr, omax, omin]; simp (disch := first | omega | simp) [rk_i, rk_b, rk_o, st1, kill, Value.category, rcv, nog, inI_b, nI_clamp, nI_ltI, nI_leI, nI_eq, nI_9, nI_6, nI_22, nI_12, nI_180, nI_add, nI_1, hn3, ly157, ly158, p13, i21]) (by simp only [f_mkF, w_sI, w_sR, w_sL, w_sC, w_sk, w_sbr, w_sco, w_rV, w_rI, w_rR, w_rL, w_dI, w_sO, w_sq, w_si, w_pI, w_pZ, w_pR, w_pU, w_qI, w_qB, w_qZ, w_qU, w_qR, w_kV, q_icst, q_lcst, q_xR, q_ldI, q_ldR, q_ldL, q_bn, q_un, q_dv, q_fI, q_fR, q_aI, q_aR, q_aN, q_tn, q_cmp, q_cmz, q_cnt, q_ctt, q_cand, q_cor, q_vn, q_vI, q_vR, q_vL, q_kI, q_kR, q_kL, q_ckI, envN, argE, List.flatMap_cons, List.flatMap_nil, Value.category, junk, oadd, osub, omul, oand, oor, oxor, odiv, orem, oshl, oshr, oushr, omax, omin]; simp)
          have hRs := q3.2.1.1 i (by omega) s (by omega)
          rw [q_cand]
          refine ev_mono hbit ?_
          rintro t h5 ⟨rfl, rfl⟩
          refine ⟨fun c1 => ?_, fun c1 => ?_⟩
          · have rs := hRs.mp c1
            by_cases hmh : m < hh
            · refine ev_T ?_ ⟨rfl, fun _ => ⟨hmh, ?_⟩, fun z => by cases z⟩
              · simp only [f_mkF, w_sI, w_sR, w_sL, w_sC, w_sk, w_sbr, w_sco, w_rV, w_rI, w_rR, w_rL, w_dI, w_sO, w_sq, w_si, w_pI, w_pZ, w_pR, w_pU, w_qI, w_qB, w_qZ, w_qU, w_qR, w_kV, q_icst, q_lcst, q_xR, q_ldI, q_ldR, q_ldL, q_bn, q_un, q_dv, q_fI, q_fR, q_aI, q_aR, q_aN, q_tn, q_cmp, q_cmz, q_cnt, q_ctt, q_cand, q_cor, q_vn, q_vI, q_vR, q_vL, q_kI, q_kR, q_kL, q_ckI, envN, argE, List.flatMap_cons, List.flatMap_nil, Value.category, junk, oadd, osub, omul, oand, oor, oxor, odiv, orem, oshl, oshr, oushr, omax, omin]
                simp (disch := first | omega | simp) [rk_i, rk_b, rk_o, st1, kill, Value.category, rcv, nog, inI_b, nI_clamp, nI_ltI, nI_leI, nI_eq, nI_9, nI_6, nI_22, nI_12, nI_180, nI_add, nI_1, hn3, r1, r2, r47, hmh]
              refine w_sqI (E' := [.ref 157, .int (nI i), .ref (ra i), .int (nI s), .int (nI m), .int (nI (m + 1))]) (nI (m + 1)) (by simp only [f_mkF, w_sI, w_sR, w_sL, w_sC, w_sk, w_sbr, w_sco, w_rV, w_rI, w_rR, w_rL, w_dI, w_sO, w_sq, w_si, w_pI, w_pZ, w_pR, w_pU, w_qI, w_qB, w_qZ, w_qU, w_qR, w_kV, q_icst, q_lcst, q_xR, q_ldI, q_ldR, q_ldL, q_bn, q_un, q_dv, q_fI, q_fR, q_aI, q_aR, q_aN, q_tn, q_cmp, q_cmz, q_cnt, q_ctt, q_cand, q_cor, q_vn, q_vI, q_vR, q_vL, q_kI, q_kR, q_kL, q_ckI, envN, argE, List.flatMap_cons, List.flatMap_nil, Value.category, junk, oadd, osub, omul, oand, oor, oxor, odiv, orem, oshl, oshr, oushr, omax, omin]; simp [nI_1]) (by simp [st1, kill, Value.category]) ?_
              refine w_for (lo := m + 1) (hi := hh + 1) (fun y E h' => E = [.ref 157, .int (nI i), .ref (ra i), .int (nI s), .int (nI m), .int (nI y)] ∧ Fr (fun x _ => x = A) h h' ∧ PR A h' (DV w i lo hh fun x0 x1 x2 => x0 < s ∨ (x0 = s ∧ (x1 < m ∨ (x1 = m ∧ x2 < y))))) (fun y E h' => E = [.ref 157, .int (nI i), .ref (ra i), .int (nI s), .int (nI m), .int (nI y)] ∧ Fr (fun x _ => x = A) h h' ∧ PR A h' (DV w i lo hh fun x0 x1 x2 => x0 < s ∨ (x0 = s ∧ (x1 < m ∨ (x1 = m ∧ x2 < y + 1))))) (by omega) ⟨rfl, f3, PR_DV pr3 fun x y m x1 x2 x3 x4 x5 => by omega⟩ ?_ ?_
              · rintro y E h4 hy1 hy2 ⟨rfl, f4, pr4⟩
                have q4 : DX w T ra A B h4 := q.fr (f4.sub fun a k z => by unfold S61; omega)
                have hn4 := q4.1.1.1
                have pA4 := q4.2.2.1
                obtain ⟨-, -, r1, r2, r4⟩ := q4.1.row hi
                have r47 := r4 7 (by omega)
                rw [e2] at r47
                by_cases hyh : y ≤ hh
                · refine ev_T ?_ ⟨rfl, fun _ => ⟨by omega, ?_⟩, fun z => by cases z⟩
                  · simp only [f_mkF, w_sI, w_sR, w_sL, w_sC, w_sk, w_sbr, w_sco, w_rV, w_rI, w_rR, w_rL, w_dI, w_sO, w_sq, w_si, w_pI, w_pZ, w_pR, w_pU, w_qI, w_qB, w_qZ, w_qU, w_qR, w_kV, q_icst, q_lcst, q_xR, q_ldI, q_ldR, q_ldL, q_bn, q_un, q_dv, q_fI, q_fR, q_aI, q_aR, q_aN, q_tn, q_cmp, q_cmz, q_cnt, q_ctt, q_cand, q_cor, q_vn, q_vI, q_vR, q_vL, q_kI, q_kR, q_kL, q_ckI, envN, argE, List.flatMap_cons, List.flatMap_nil, Value.category, junk, oadd, osub, omul, oand, oor, oxor, odiv, orem, oshl, oshr, oushr, omax, omin]
                    simp (disch := first | omega | simp) [rk_i, rk_b, rk_o, st1, kill, Value.category, rcv, nog, inI_b, nI_clamp, nI_ltI, nI_leI, nI_eq, nI_9, nI_6, nI_22, nI_12, nI_180, nI_add, nI_1, hn4, r1, r2, r47, hyh]
                  have l : ∀ x : Nat, lo ≤ x → x ≤ hh → (W_R w i 6).toInt ≤ (x : Int) ∧ (x : Int) ≤ (W_R w i 7).toInt := fun x z1 z2 => by
                    rw [e1, e2, nI_toInt (by omega), nI_toInt (by omega)]
                    omega
                  have na := x_next q4 hi rs (l m hm1 (by omega)).1 (l m hm1 (by omega)).2
                  have nb := x_next q4 hi rs (l y (by omega) hyh).1 (l y (by omega) hyh).2
                  have bb : ∀ m, nxt w 0 i s m < 21 := by
                    intro m
                    obtain ⟨md, -, e⟩ := rs
                    have := ((stt_nb w 0 md i).n 0 m).1
                    rw [e] at this
                    omega
                  refine w_kVe [.ref A, .int (nI (nxt w 0 i s (nI m))), .int (nI (nxt w 0 i s (nI y)))] ?_ (by simp [nog]) (fq_mono (x_pair hn4 hA (bb _) (bb _) pr4) ?_)
                  · simp only [f_mkF, w_sI, w_sR, w_sL, w_sC, w_sk, w_sbr, w_sco, w_rV, w_rI, w_rR, w_rL, w_dI, w_sO, w_sq, w_si, w_pI, w_pZ, w_pR, w_pU, w_qI, w_qB, w_qZ, w_qU, w_qR, w_kV, q_icst, q_lcst, q_xR, q_ldI, q_ldR, q_ldL, q_bn, q_un, q_dv, q_fI, q_fR, q_aI, q_aR, q_aN, q_tn, q_cmp, q_cmz, q_cnt, q_ctt, q_cand, q_cor, q_vn, q_vI, q_vR, q_vL, q_kI, q_kR, q_kL, q_ckI, envN, argE, List.flatMap_cons, List.flatMap_nil, Value.category, junk, oadd, osub, omul, oand, oor, oxor, odiv, orem, oshl, oshr, oushr, omax, omin]
                    simp (disch := first | omega | simp) [rk_i, rk_b, rk_o, st1, kill, Value.category, rcv, nog, hn4, ly157, pA4, fq_of na, fq_of nb]
                  · rintro r h6 ⟨rfl, f6, pr6⟩
                    refine ⟨rfl, rfl, rfl, f4.trans f6, pr6.c fun x y' _ => ?_⟩
                    have key : ∀ x z, (DV w i lo hh (fun x0 x1 x2 => x0 < s ∨ (x0 = s ∧ (x1 < m ∨ (x1 = m ∧ x2 < y)))) x z ∨ (x = nxt w 0 i s (nI m) ∧ z = nxt w 0 i s (nI y))) ↔ DV w i lo hh (fun x0 x1 x2 => x0 < s ∨ (x0 = s ∧ (x1 < m ∨ (x1 = m ∧ x2 < y + 1)))) x z := by
                      intro x z
                      constructor
                      · rintro (⟨x0, y0, m0, z1, z2⟩ | ⟨rfl, rfl⟩)
                        · exact ⟨x0, y0, m0, by omega, z2⟩
                        · exact ⟨s, m, y, by omega, ⟨hs21, rs, hm1, by omega, hyh⟩, rfl, rfl⟩
                      · rintro ⟨x0, y0, m0, z1, z2, z3, z4⟩
                        by_cases e : x0 = s ∧ y0 = m ∧ m0 = y
                        · obtain ⟨rfl, rfl, rfl⟩ := e
                          exact Or.inr ⟨z3.symm, z4.symm⟩
                        · exact Or.inl ⟨x0, y0, m0, by omega, z2, z3, z4⟩
                    rw [key, key]
                · refine ev_F ?_ ⟨rfl, (fun z => by cases z), fun _ => ⟨rfl, _, rfl, rfl, f4, PR_DV pr4 fun x y z x1 x2 x3 x4 x5 => by omega⟩⟩
                  simp only [f_mkF, w_sI, w_sR, w_sL, w_sC, w_sk, w_sbr, w_sco, w_rV, w_rI, w_rR, w_rL, w_dI, w_sO, w_sq, w_si, w_pI, w_pZ, w_pR, w_pU, w_qI, w_qB, w_qZ, w_qU, w_qR, w_kV, q_icst, q_lcst, q_xR, q_ldI, q_ldR, q_ldL, q_bn, q_un, q_dv, q_fI, q_fR, q_aI, q_aR, q_aN, q_tn, q_cmp, q_cmz, q_cnt, q_ctt, q_cand, q_cor, q_vn, q_vI, q_vR, q_vL, q_kI, q_kR, q_kL, q_ckI, envN, argE, List.flatMap_cons, List.flatMap_nil, Value.category, junk, oadd, osub, omul, oand, oor, oxor, odiv, orem, oshl, oshr, oushr, omax, omin]
                  simp (disch := first | omega | simp) [rk_i, rk_b, rk_o, st1, kill, Value.category, rcv, nog, inI_b, nI_clamp, nI_ltI, nI_leI, nI_eq, nI_9, nI_6, nI_22, nI_12, nI_180, nI_add, nI_1, hn4, r1, r2, r47]
                  try omega
              · rintro y E h4 - - ⟨rfl, f4, pr4⟩
                exact ⟨rfl, by simp [st1, kill, Value.category], f4, pr4⟩
            · refine ev_F ?_ ⟨rfl, (fun z => by cases z), fun _ => ⟨rfl, _, _, rfl, ⟨rfl, c5⟩, f3, PR_DV pr3 fun x y z x1 x2 x3 x4 x5 => by omega⟩⟩
              simp only [f_mkF, w_sI, w_sR, w_sL, w_sC, w_sk, w_sbr, w_sco, w_rV, w_rI, w_rR, w_rL, w_dI, w_sO, w_sq, w_si, w_pI, w_pZ, w_pR, w_pU, w_qI, w_qB, w_qZ, w_qU, w_qR, w_kV, q_icst, q_lcst, q_xR, q_ldI, q_ldR, q_ldL, q_bn, q_un, q_dv, q_fI, q_fR, q_aI, q_aR, q_aN, q_tn, q_cmp, q_cmz, q_cnt, q_ctt, q_cand, q_cor, q_vn, q_vI, q_vR, q_vL, q_kI, q_kR, q_kL, q_ckI, envN, argE, List.flatMap_cons, List.flatMap_nil, Value.category, junk, oadd, osub, omul, oand, oor, oxor, odiv, orem, oshl, oshr, oushr, omax, omin]
              simp (disch := first | omega | simp) [rk_i, rk_b, rk_o, st1, kill, Value.category, rcv, nog, inI_b, nI_clamp, nI_ltI, nI_leI, nI_eq, nI_9, nI_6, nI_22, nI_12, nI_180, nI_add, nI_1, hn3, r1, r2, r47]
              try omega
          · refine ⟨rfl, (fun z => by cases z), fun _ => ⟨rfl, _, _, rfl, ⟨rfl, c5⟩, f3, PR_DV pr3 fun x y z x1 x2 x3 x4 x5 => ?_⟩⟩
            have : x ≠ s := fun e => by rw [e] at x2; rw [hRs.mpr x2] at c1; cases c1
            omega
        · rintro m E h3 - - ⟨v5, rfl, c5, f3, pr3⟩
          exact ⟨rfl, v5, by simp [st1, kill, Value.category], c5, f3, pr3⟩
      · refine ev_F ?_ ⟨rfl, (fun z => by cases z), fun _ => ⟨rfl, ⟨_, _, _, rfl, rfl, c4, c5⟩, f2, PR_DV pr2 fun x y m x1 x2 x3 x4 x5 => ?_⟩⟩
        · simp only [f_mkF, w_sI, w_sR, w_sL, w_sC, w_sk, w_sbr, w_sco, w_rV, w_rI, w_rR, w_rL, w_dI, w_sO, w_sq, w_si, w_pI, w_pZ, w_pR, w_pU, w_qI, w_qB, w_qZ, w_qU, w_qR, w_kV, q_icst, q_lcst, q_xR, q_ldI, q_ldR, q_ldL, q_bn, q_un, q_dv, q_fI, q_fR, q_aI, q_aR, q_aN, q_tn, q_cmp, q_cmz, q_cnt, q_ctt, q_cand, q_cor, q_vn, q_vI, q_vR, q_vL, q_kI, q_kR, q_kL, q_ckI, envN, argE, List.flatMap_cons, List.flatMap_nil, Value.category, junk, oadd, osub, omul, oand, oor, oxor, odiv, orem, oshl, oshr, oushr, omax, omin]
          simp (disch := first | omega | simp) [rk_i, rk_b, rk_o, st1, kill, Value.category, rcv, nog, inI_b, nI_clamp, nI_ltI, nI_leI, nI_eq, nI_9, nI_6, nI_22, nI_12, nI_180, nI_add, nI_1, k21]
          try omega
        · exact iff_of_true (by omega) trivial
    · rintro s E h2 - - ⟨v4, v5, rfl, ⟨c4, c5⟩, f2, pr2⟩
      exact ⟨rfl, v4, v5, by simp [st1, kill, Value.category], ⟨c4, c5⟩, f2, pr2⟩
  rintro E2 h2 ⟨⟨v3, v4, v5, rfl, c3, c4, c5⟩, f2, pr2⟩
  have q2 : DX w T ra A B h2 := q.fr (f2.sub fun a k z => by unfold S61; omega)
  have fp2 : Fp h h2 := Fp.of (f2.sub fun a k z => by unfold S61; omega)
  have pq2 := DV_Pq i20 e1 e2 e3 e4 pr2
  refine w_sqS (fun E1 h3 => (∃ v3 v4 v5, E1 = [.ref 157, .int (nI i), .ref (ra i), v3, v4, v5]) ∧ Fp h h3 ∧ ∃ A B, DX w T ra A B h3 ∧ PR A h3 (Pq w i (W_n w))) ?_ ?_
  · refine w_sqI (E' := [.ref 157, .int (nI i), .ref (ra i), .int (nI (i + 1)), v4, v5]) (nI (i + 1)) (by simp only [f_mkF, w_sI, w_sR, w_sL, w_sC, w_sk, w_sbr, w_sco, w_rV, w_rI, w_rR, w_rL, w_dI, w_sO, w_sq, w_si, w_pI, w_pZ, w_pR, w_pU, w_qI, w_qB, w_qZ, w_qU, w_qR, w_kV, q_icst, q_lcst, q_xR, q_ldI, q_ldR, q_ldL, q_bn, q_un, q_dv, q_fI, q_fR, q_aI, q_aR, q_aN, q_tn, q_cmp, q_cmz, q_cnt, q_ctt, q_cand, q_cor, q_vn, q_vI, q_vR, q_vL, q_kI, q_kR, q_kL, q_ckI, envN, argE, List.flatMap_cons, List.flatMap_nil, Value.category, junk, oadd, osub, omul, oand, oor, oxor, odiv, orem, oshl, oshr, oushr, omax, omin]; simp [nI_1]) (by simp [st1, kill, Value.category, c3]) ?_
    refine w_for (lo := i + 1) (hi := W_n w) (fun j E h' => E = [.ref 157, .int (nI i), .ref (ra i), .int (nI j), v4, v5] ∧ Fp h h' ∧ ∃ A B, DX w T ra A B h' ∧ PR A h' (Pq w i j)) (fun j E h' => E = [.ref 157, .int (nI i), .ref (ra i), .int (nI j), v4, v5] ∧ Fp h h' ∧ ∃ A B, DX w T ra A B h' ∧ PR A h' (Pq w i (j + 1))) (by omega) ⟨rfl, fp2, A, B, q2, pq2⟩ ?_ ?_
    · rintro j E h3 hj1 hj2 ⟨rfl, fp3, A', B', q3, pq3⟩
      obtain ⟨hn3, g1, g2, g3, g4, g5, g6, g7⟩ := q3.1.hd
      have p03 : h3.2.2 157 0 = some 147 := q3.1.1.2.1.at 75 rfl
      by_cases hj : j < W_n w
      · refine ev_T ?_ ⟨rfl, fun _ => ⟨hj, ?_⟩, fun z => by cases z⟩
        · simp only [f_mkF, w_sI, w_sR, w_sL, w_sC, w_sk, w_sbr, w_sco, w_rV, w_rI, w_rR, w_rL, w_dI, w_sO, w_sq, w_si, w_pI, w_pZ, w_pR, w_pU, w_qI, w_qB, w_qZ, w_qU, w_qR, w_kV, q_icst, q_lcst, q_xR, q_ldI, q_ldR, q_ldL, q_bn, q_un, q_dv, q_fI, q_fR, q_aI, q_aR, q_aN, q_tn, q_cmp, q_cmz, q_cnt, q_ctt, q_cand, q_cor, q_vn, q_vI, q_vR, q_vL, q_kI, q_kR, q_kL, q_ckI, envN, argE, List.flatMap_cons, List.flatMap_nil, Value.category, junk, oadd, osub, omul, oand, oor, oxor, odiv, orem, oshl, oshr, oushr, omax, omin]
          simp (disch := first | omega | simp) [rk_i, rk_b, rk_o, st1, kill, Value.category, rcv, nog, inI_b, nI_clamp, nI_ltI, nI_leI, nI_eq, nI_9, nI_6, nI_22, nI_12, nI_180, nI_add, nI_1, hn3, ly157, ly147, p03, g1, g2, g4, g7, hj]
        obtain ⟨lj, hj', y1, y2, y3, y4, -⟩ := q3.1.wv.mi hj
        refine w_kVe [.ref 157, .int (nI j)] (by simp only [f_mkF, w_sI, w_sR, w_sL, w_sC, w_sk, w_sbr, w_sco, w_rV, w_rI, w_rR, w_rL, w_dI, w_sO, w_sq, w_si, w_pI, w_pZ, w_pR, w_pU, w_qI, w_qB, w_qZ, w_qU, w_qR, w_kV, q_icst, q_lcst, q_xR, q_ldI, q_ldR, q_ldL, q_bn, q_un, q_dv, q_fI, q_fR, q_aI, q_aR, q_aN, q_tn, q_cmp, q_cmz, q_cnt, q_ctt, q_cand, q_cor, q_vn, q_vI, q_vR, q_vL, q_kI, q_kR, q_kL, q_ckI, envN, argE, List.flatMap_cons, List.flatMap_nil, Value.category, junk, oadd, osub, omul, oand, oor, oxor, odiv, orem, oshl, oshr, oushr, omax, omin]; simp) (by simp [rcv, hn3, ly157]) (fq_mono (x_move q3 hj (PR_R pq3) y1 y2 y3 y4) ?_)
        rintro r h4 ⟨rfl, f4, q4, pr4⟩
        exact ⟨rfl, rfl, rfl, fp3.trans f4, B', A', q4, MV_Pq (by omega) (by omega) y1 y2 y3 y4 pq3 pr4⟩
      · have : j = W_n w := by omega
        subst this
        refine ev_F ?_ ⟨rfl, (fun z => by cases z), fun _ => ⟨rfl, ⟨_, _, _, rfl⟩, fp3, A', B', q3, pq3⟩⟩
        simp only [f_mkF, w_sI, w_sR, w_sL, w_sC, w_sk, w_sbr, w_sco, w_rV, w_rI, w_rR, w_rL, w_dI, w_sO, w_sq, w_si, w_pI, w_pZ, w_pR, w_pU, w_qI, w_qB, w_qZ, w_qU, w_qR, w_kV, q_icst, q_lcst, q_xR, q_ldI, q_ldR, q_ldL, q_bn, q_un, q_dv, q_fI, q_fR, q_aI, q_aR, q_aN, q_tn, q_cmp, q_cmz, q_cnt, q_ctt, q_cand, q_cor, q_vn, q_vI, q_vR, q_vL, q_kI, q_kR, q_kL, q_ckI, envN, argE, List.flatMap_cons, List.flatMap_nil, Value.category, junk, oadd, osub, omul, oand, oor, oxor, odiv, orem, oshl, oshr, oushr, omax, omin]
        simp (disch := first | omega | simp) [rk_i, rk_b, rk_o, st1, kill, Value.category, rcv, nog, inI_b, nI_clamp, nI_ltI, nI_leI, nI_eq, nI_9, nI_6, nI_22, nI_12, nI_180, nI_add, nI_1, hn3, ly157, ly147, p03, g1, g2, g4, g7]
    · rintro j E h3 - - ⟨rfl, fp3, z⟩
      exact ⟨rfl, by simp [st1, kill, Value.category, c4], fp3, z⟩
  rintro E3 h3 ⟨⟨v3, v4, v5, rfl⟩, fp3, A', B', q3, pq3⟩
  have hn3 := q3.1.1.1
  rw [w_rI]
  refine q_kIe [.ref 157] (by simp only [f_mkF, w_sI, w_sR, w_sL, w_sC, w_sk, w_sbr, w_sco, w_rV, w_rI, w_rR, w_rL, w_dI, w_sO, w_sq, w_si, w_pI, w_pZ, w_pR, w_pU, w_qI, w_qB, w_qZ, w_qU, w_qR, w_kV, q_icst, q_lcst, q_xR, q_ldI, q_ldR, q_ldL, q_bn, q_un, q_dv, q_fI, q_fR, q_aI, q_aR, q_aN, q_tn, q_cmp, q_cmz, q_cnt, q_ctt, q_cand, q_cor, q_vn, q_vI, q_vR, q_vL, q_kI, q_kR, q_kL, q_ckI, envN, argE, List.flatMap_cons, List.flatMap_nil, Value.category, junk, oadd, osub, omul, oand, oor, oxor, odiv, orem, oshl, oshr, oushr, omax, omin]; simp) (by simp [rcv, hn3, ly157]) ?_
  refine fq_mono (x_onep q3 pq3 fun a b z => by have := Pq_le z; omega) ?_
  rintro r h4 ⟨rfl, x, rfl, hx⟩
  exact ⟨x, rfl, Or.inr ⟨rfl, by rcases hx with ⟨rfl, -⟩ | ⟨rfl, -⟩ <;> rfl, ⟨x, rfl, hx⟩, fp3, A', B', q3⟩⟩
