/-! count, the class's -/
theorem w_siT {c : DC} {a b : Sm} {E : En} {h : Hp} {Q : Nat → Value → En → Hp → Prop} (hc : ev c E h fun t h1 => t = true ∧ h1 = h) : wp (si c a b) E h Q ↔ wp a E h Q := by
  obtain ⟨t, h1, e, rfl, rfl⟩ := hc
  rw [w_si]
  constructor
  · rintro ⟨t, h2, e2, h3, -⟩
    rw [e] at e2
    cases e2
    exact h3 rfl
  · intro z
    exact ⟨_, _, e, fun _ => z, fun z2 => by cases z2⟩
theorem w_siF {c : DC} {a b : Sm} {E : En} {h : Hp} {Q : Nat → Value → En → Hp → Prop} (hc : ev c E h fun t h1 => t = false ∧ h1 = h) : wp (si c a b) E h Q ↔ wp b E h Q := by
  obtain ⟨t, h1, e, rfl, rfl⟩ := hc
  rw [w_si]
  constructor
  · rintro ⟨t, h2, e2, -, h3⟩
    rw [e] at e2
    cases e2
    exact h3 rfl
  · intro z
    refine ⟨_, _, e, ?_⟩
    exact ⟨fun z2 => (by cases z2), fun _ => z⟩
theorem w_sk2 {b : Sm} {E : En} {h : Hp} {Q : Nat → Value → En → Hp → Prop} : wp sk E h (fun o v E1 h1 => (o = 0 → wp b E1 h1 Q) ∧ (o ≠ 0 → Q o v E1 h1)) ↔ wp b E h Q := by
  rw [w_sk]
  simp
theorem c_within {w lo hi : Int32} {E : En} {h : Hp} (hE : E[1]? = some (.int w)) : ev (cnt (cmz zeq (kI nog F_X10_isWithin (vI (vI (vI vn (ldI 1)) (icst lo)) (icst hi))))) E h fun t h1 => t = decide (lo ≤ w ∧ w ≤ hi) ∧ h1 = h := by
  simp only [f_mkF, w_sI, w_sR, w_sL, w_sC, w_sk, w_sbr, w_sco, w_rV, w_rI, w_rR, w_rL, w_dI, w_sO, w_sq, w_si, w_pI, w_pZ, w_pR, w_pU, w_qI, w_qB, w_qZ, w_qU, w_qR, w_kV, q_icst, q_lcst, q_xR, q_ldI, q_ldR, q_ldL, q_bn, q_un, q_dv, q_fI, q_fR, q_aI, q_aR, q_aN, q_tn, q_cmp, q_cmz, q_cnt, q_ctt, q_cand, q_cor, q_vn, q_vI, q_vR, q_vL, q_kI, q_kR, q_kL, q_ckI, envN, argE, List.flatMap_cons, List.flatMap_nil, Value.category, junk, oadd, osub, omul, oand, oor, oxor, odiv, orem, oshl, oshr, oushr, omax, omin, hE]
  simp [fq_of (e_x_isWithin _ _ _ _), nog, zeq, b2, oeq]
  grind
theorem c_withT {w lo hi : Int32} {E : En} {h : Hp} (hE : E[1]? = some (.int w)) (hw : lo ≤ w ∧ w ≤ hi) : ev (cnt (cmz zeq (kI nog F_X10_isWithin (vI (vI (vI vn (ldI 1)) (icst lo)) (icst hi))))) E h fun t h1 => t = true ∧ h1 = h := ev_mono (c_within hE) fun t h' z => ⟨by rw [z.1]; simp [hw], z.2⟩
theorem c_withF {w lo hi : Int32} {E : En} {h : Hp} (hE : E[1]? = some (.int w)) (hw : ¬ (lo ≤ w ∧ w ≤ hi)) : ev (cnt (cmz zeq (kI nog F_X10_isWithin (vI (vI (vI vn (ldI 1)) (icst lo)) (icst hi))))) E h fun t h1 => t = false ∧ h1 = h := ev_mono (c_within hE) fun t h' z => ⟨by rw [z.1]; simp [hw], z.2⟩
theorem i_x_count {LW : Hp → Prop} {n : Nat} {h : Hp} (q : INV LW n h) (w : Int32) : F_X10_count [.ref 0, .int w] h = some (some (.int (cntS h w)), h) := by
  have q' := q
  have q0 := q.1
  have hn := q0.1
  have hm := q0.2.1
  obtain ⟨-, ⟨k1, -⟩, ⟨p1, p2, -, p4, -⟩, -, -, ⟨a1, -⟩, ⟨t1, t2, t3⟩, -, ⟨-, b1, -⟩, -⟩ := q
  have v1 : h.2.2 0 1 = some 2 := hm.at 1 rfl
  have v2 : h.2.2 0 2 = some 3 := hm.at 2 rfl
  have v3 : h.2.2 0 3 = some 4 := hm.at 3 rfl
  have v5 : h.2.2 0 5 = some 12 := hm.at 5 rfl
  have hN := nI_toI t2.1
  have hN2 := clampI t2.1
  have hP := nI_toI p2.1
  have hP2 := clampI p2.1
  rw [← fq_eq]
  unfold F_X10_count
  generalize (h.2.1 166 2).toNatClampNeg = N at *
  generalize (h.2.1 166 1).toNatClampNeg = P at *
  have hN3 : N ≤ 4 := by omega
  have hP3 : P ≤ 12 := by omega
  have hE : (envN 2 [Value.ref 0, Value.int w]) = [Value.ref 0, Value.int w] := rfl
  rw [f_mkF, hE]
  refine ⟨by simp [argE, Value.category], ?_⟩
  have hE1 : [Value.ref 0, Value.int w][1]? = some (Value.int w) := rfl
  rcases i43 w with ⟨k, hk, rfl⟩ | hw2
  · have cs : 4 ≤ k → cntS h (nI k) = if 10 ≤ k ∧ k < 10 + N then h.2.1 172 (k - 10) else if 20 ≤ k ∧ k < 26 then h.2.1 190 (k - 20) else if 30 ≤ k ∧ k < 30 + P then h.2.1 168 (k - 30) else -1 := by
      intro k4
      have hw : (nI k).toInt < 0 ∨ 4 ≤ (nI k).toInt := by rw [nI_toInt (by omega)]; omega
      obtain ⟨w0, w1, w2, w3⟩ := ni4 hw
      unfold cntS
      rw [if_neg w0, if_neg w1, if_neg w2, if_neg w3, nI_toInt (by omega), hN, hP, nI_toInt (by omega), nI_toInt (by omega), show ((k : Int) - 10).toNat = k - 10 by omega, show ((k : Int) - 20).toNat = k - 20 by omega, show ((k : Int) - 30).toNat = k - 30 by omega]
      grind
    have e2 : ∀ A B : Nat, A < 43 → B < 43 → ((nI A ≤ nI k ∧ nI k ≤ nI B) ↔ (A ≤ k ∧ k ≤ B)) := by
      intro A B h1 h2
      rw [nI_leI (by omega) (by omega), nI_leI (by omega) (by omega)]
    have f1 := e2 10 19 (by omega) (by omega)
    have f2 := e2 20 29 (by omega) (by omega)
    have f3 := e2 30 42 (by omega) (by omega)
    by_cases c1 : k < 10
    · rw [w_sq, w_siF (c_withF hE1 (by rw [k_10, k_19, f1]; omega)), w_sk2, w_sq, w_siF (c_withF hE1 (by rw [k_20, k_29, f2]; omega)), w_sk2, w_sq, w_siF (c_withF hE1 (by rw [k_30, k_42, f3]; omega)), w_sk2, w_sw]
      simp only [f_mkF, w_sI, w_sR, w_sL, w_sC, w_sk, w_sbr, w_sco, w_rV, w_rI, w_rR, w_rL, w_dI, w_sO, w_sq, w_si, w_pI, w_pZ, w_pR, w_pU, w_qI, w_qB, w_qZ, w_qU, w_qR, w_kV, q_icst, q_lcst, q_xR, q_ldI, q_ldR, q_ldL, q_bn, q_un, q_dv, q_fI, q_fR, q_aI, q_aR, q_aN, q_tn, q_cmp, q_cmz, q_cnt, q_ctt, q_cand, q_cor, q_vn, q_vI, q_vR, q_vL, q_kI, q_kR, q_kL, q_ckI, envN, argE, List.flatMap_cons, List.flatMap_nil, Value.category, junk, oadd, osub, omul, oand, oor, oxor, odiv, orem, oshl, oshr, oushr, omax, omin]
      refine ⟨nI k, rfl, ?_⟩
      rw [if_neg (by rw [nI_toInt (by omega)]; omega), nI_toInt (by omega)]
      have n0 : nI 0 = 0 := rfl
      have n1 : nI 1 = 1 := rfl
      have n2 : nI 2 = 2 := rfl
      have n3 : nI 3 = 3 := rfl
      match k, cs with
      | 0, _ => simp; simp only [f_mkF, w_sI, w_sR, w_sL, w_sC, w_sk, w_sbr, w_sco, w_rV, w_rI, w_rR, w_rL, w_dI, w_sO, w_sq, w_si, w_pI, w_pZ, w_pR, w_pU, w_qI, w_qB, w_qZ, w_qU, w_qR, w_kV, q_icst, q_lcst, q_xR, q_ldI, q_ldR, q_ldL, q_bn, q_un, q_dv, q_fI, q_fR, q_aI, q_aR, q_aN, q_tn, q_cmp, q_cmz, q_cnt, q_ctt, q_cand, q_cor, q_vn, q_vI, q_vR, q_vL, q_kI, q_kR, q_kL, q_ckI, envN, argE, List.flatMap_cons, List.flatMap_nil, Value.category, junk, oadd, osub, omul, oand, oor, oxor, odiv, orem, oshl, oshr, oushr, omax, omin]; simp [rk_i, rk_b, rk_o, st1, kill, Value.category, rcv, nog, hn, ly0, cntS, n0, k1]
      | 1, _ => simp; simp only [f_mkF, w_sI, w_sR, w_sL, w_sC, w_sk, w_sbr, w_sco, w_rV, w_rI, w_rR, w_rL, w_dI, w_sO, w_sq, w_si, w_pI, w_pZ, w_pR, w_pU, w_qI, w_qB, w_qZ, w_qU, w_qR, w_kV, q_icst, q_lcst, q_xR, q_ldI, q_ldR, q_ldL, q_bn, q_un, q_dv, q_fI, q_fR, q_aI, q_aR, q_aN, q_tn, q_cmp, q_cmz, q_cnt, q_ctt, q_cand, q_cor, q_vn, q_vI, q_vR, q_vL, q_kI, q_kR, q_kL, q_ckI, envN, argE, List.flatMap_cons, List.flatMap_nil, Value.category, junk, oadd, osub, omul, oand, oor, oxor, odiv, orem, oshl, oshr, oushr, omax, omin]; simp [rk_i, rk_b, rk_o, st1, kill, Value.category, rcv, nog, hn, ly0, cntS, n1, p1]
      | 2, _ => simp; simp only [f_mkF, w_sI, w_sR, w_sL, w_sC, w_sk, w_sbr, w_sco, w_rV, w_rI, w_rR, w_rL, w_dI, w_sO, w_sq, w_si, w_pI, w_pZ, w_pR, w_pU, w_qI, w_qB, w_qZ, w_qU, w_qR, w_kV, q_icst, q_lcst, q_xR, q_ldI, q_ldR, q_ldL, q_bn, q_un, q_dv, q_fI, q_fR, q_aI, q_aR, q_aN, q_tn, q_cmp, q_cmz, q_cnt, q_ctt, q_cand, q_cor, q_vn, q_vI, q_vR, q_vL, q_kI, q_kR, q_kL, q_ckI, envN, argE, List.flatMap_cons, List.flatMap_nil, Value.category, junk, oadd, osub, omul, oand, oor, oxor, odiv, orem, oshl, oshr, oushr, omax, omin]; simp [rk_i, rk_b, rk_o, st1, kill, Value.category, rcv, nog, hn, ly0, cntS, n2, t1]
      | 3, _ => simp; simp only [f_mkF, w_sI, w_sR, w_sL, w_sC, w_sk, w_sbr, w_sco, w_rV, w_rI, w_rR, w_rL, w_dI, w_sO, w_sq, w_si, w_pI, w_pZ, w_pR, w_pU, w_qI, w_qB, w_qZ, w_qU, w_qR, w_kV, q_icst, q_lcst, q_xR, q_ldI, q_ldR, q_ldL, q_bn, q_un, q_dv, q_fI, q_fR, q_aI, q_aR, q_aN, q_tn, q_cmp, q_cmz, q_cnt, q_ctt, q_cand, q_cor, q_vn, q_vI, q_vR, q_vL, q_kI, q_kR, q_kL, q_ckI, envN, argE, List.flatMap_cons, List.flatMap_nil, Value.category, junk, oadd, osub, omul, oand, oor, oxor, odiv, orem, oshl, oshr, oushr, omax, omin]; simp [rk_i, rk_b, rk_o, st1, kill, Value.category, rcv, nog, hn, ly0, cntS, n3, a1, v5, ly12]
      | k + 4, cs =>
        rw [cs (by omega), if_neg (by omega), if_neg (by omega), if_neg (by omega), List.getElem?_eq_none (by simp; omega)]
        simp only [Option.getD_none, f_mkF, w_sI, w_sR, w_sL, w_sC, w_sk, w_sbr, w_sco, w_rV, w_rI, w_rR, w_rL, w_dI, w_sO, w_sq, w_si, w_pI, w_pZ, w_pR, w_pU, w_qI, w_qB, w_qZ, w_qU, w_qR, w_kV, q_icst, q_lcst, q_xR, q_ldI, q_ldR, q_ldL, q_bn, q_un, q_dv, q_fI, q_fR, q_aI, q_aR, q_aN, q_tn, q_cmp, q_cmz, q_cnt, q_ctt, q_cand, q_cor, q_vn, q_vI, q_vR, q_vL, q_kI, q_kR, q_kL, q_ckI, envN, argE, List.flatMap_cons, List.flatMap_nil, Value.category, junk, oadd, osub, omul, oand, oor, oxor, odiv, orem, oshl, oshr, oushr, omax, omin]
        simp [rk_i, rk_b, rk_o, st1, kill, Value.category, rcv, nog]
    · rw [cs (by omega)]
      by_cases c2 : k < 20
      · rw [w_sq, w_siT (c_withT hE1 (by rw [k_10, k_19, f1]; omega))]
        simp only [f_mkF, w_sI, w_sR, w_sL, w_sC, w_sk, w_sbr, w_sco, w_rV, w_rI, w_rR, w_rL, w_dI, w_sO, w_sq, w_si, w_pI, w_pZ, w_pR, w_pU, w_qI, w_qB, w_qZ, w_qU, w_qR, w_kV, q_icst, q_lcst, q_xR, q_ldI, q_ldR, q_ldL, q_bn, q_un, q_dv, q_fI, q_fR, q_aI, q_aR, q_aN, q_tn, q_cmp, q_cmz, q_cnt, q_ctt, q_cand, q_cor, q_vn, q_vI, q_vR, q_vL, q_kI, q_kR, q_kL, q_ckI, envN, argE, List.flatMap_cons, List.flatMap_nil, Value.category, junk, oadd, osub, omul, oand, oor, oxor, odiv, orem, oshl, oshr, oushr, omax, omin]
        obtain ⟨j, rfl⟩ : ∃ j, k = 10 + j := ⟨k - 10, by omega⟩
        clear cs f1 f2 f3 e2 b1 p4
        have z20 : ¬ 20 ≤ 10 + j := by omega
        have z30 : ¬ 30 ≤ 10 + j := by omega
        simp only [Nat.add_sub_cancel_left, z20, z30, false_and, if_false]
        have z0 := nI_sub 10 j
        rw [← k_10] at z0
        generalize nI (10 + j) = w at *
        by_cases c4 : j < N
        · obtain ⟨z1, z2, z3, z4⟩ := ptT q0 (t := j) (by omega)
          have z5 : 28 + 22 * j < 212 := by omega
          have z7 : j < 4 := by omega
          have z10 := (t3 _ z7).1.1
          have z11 : nI j < nI N := (nI_ltI (by omega) (by omega)).mpr c4
          have z12 : 0 ≤ nI j := nI_pos' (by omega)
          have z13 : inI (nI j) 4 = true := by rw [inI_b (by omega)]; simp [z7]
          have z14 : (nI j).toNatClampNeg = j := nI_clamp (by omega)
          clear t3
          simp [rk_i, rk_b, rk_o, st1, kill, Value.category, rcv, nog, hn, ly0, ly3, fq_of (i_x_isThing q' _), b2_0, v2, hN, z0, z1, z2, z5, z10, z11, z12, z13, z14, c4]
        · have z11 : ¬ nI j < nI N := fun z => c4 ((nI_ltI (by omega) (by omega)).mp z)
          simp [rk_i, rk_b, rk_o, st1, kill, Value.category, rcv, nog, hn, ly0, ly3, fq_of (i_x_isThing q' _), b2_0, hN, z0, z11, c4]
      · by_cases c3 : k < 30
        · rw [w_sq, w_siF (c_withF hE1 (by rw [k_10, k_19, f1]; omega)), w_sk2, w_sq, w_siT (c_withT hE1 (by rw [k_20, k_29, f2]; omega))]
          simp only [f_mkF, w_sI, w_sR, w_sL, w_sC, w_sk, w_sbr, w_sco, w_rV, w_rI, w_rR, w_rL, w_dI, w_sO, w_sq, w_si, w_pI, w_pZ, w_pR, w_pU, w_qI, w_qB, w_qZ, w_qU, w_qR, w_kV, q_icst, q_lcst, q_xR, q_ldI, q_ldR, q_ldL, q_bn, q_un, q_dv, q_fI, q_fR, q_aI, q_aR, q_aN, q_tn, q_cmp, q_cmz, q_cnt, q_ctt, q_cand, q_cor, q_vn, q_vI, q_vR, q_vL, q_kI, q_kR, q_kL, q_ckI, envN, argE, List.flatMap_cons, List.flatMap_nil, Value.category, junk, oadd, osub, omul, oand, oor, oxor, odiv, orem, oshl, oshr, oushr, omax, omin]
          have g5 : ¬ k < 10 + N := by omega
          have g3 : 20 ≤ k := by omega
          have g6 : ¬ 30 ≤ k := by omega
          simp (disch := first | omega | simp) [rk_i, rk_b, rk_o, st1, kill, Value.category, rcv, nog, hn, ly0, ly4, fq_of (e_x_isLand _ _), b2_0, k_20, k_5, inI_b, nI_clamp, nI_ltI, nI_leI, nI_eq, nI_9, nI_6, nI_22, nI_12, nI_180, nI_add, nI_1, nI_subc, v3, nI_pos', g3, g5, g6]
          by_cases c4 : k < 26
          · obtain ⟨la, z1, z2, z3, z4⟩ := b1 (k - 20) (by omega)
            obtain ⟨z5, z6⟩ := lyLaw z2
            have z7 : k - 20 < 6 := by omega
            have z8 : ¬ 5 < k - 20 := by omega
            simp [z1, z3, z5, z6, z7, z8, c4]
            try omega
          · have z8 : 5 < k - 20 := by omega
            simp [z8, c4]
            try omega
        · rw [w_sq, w_siF (c_withF hE1 (by rw [k_10, k_19, f1]; omega)), w_sk2, w_sq, w_siF (c_withF hE1 (by rw [k_20, k_29, f2]; omega)), w_sk2, w_sq, w_siT (c_withT hE1 (by rw [k_30, k_42, f3]; omega))]
          simp only [f_mkF, w_sI, w_sR, w_sL, w_sC, w_sk, w_sbr, w_sco, w_rV, w_rI, w_rR, w_rL, w_dI, w_sO, w_sq, w_si, w_pI, w_pZ, w_pR, w_pU, w_qI, w_qB, w_qZ, w_qU, w_qR, w_kV, q_icst, q_lcst, q_xR, q_ldI, q_ldR, q_ldL, q_bn, q_un, q_dv, q_fI, q_fR, q_aI, q_aR, q_aN, q_tn, q_cmp, q_cmz, q_cnt, q_ctt, q_cand, q_cor, q_vn, q_vI, q_vR, q_vL, q_kI, q_kR, q_kL, q_ckI, envN, argE, List.flatMap_cons, List.flatMap_nil, Value.category, junk, oadd, osub, omul, oand, oor, oxor, odiv, orem, oshl, oshr, oushr, omax, omin]
          have g5 : ¬ k < 10 + N := by omega
          have g3 : 30 ≤ k := by omega
          have g8 : ¬ k < 26 := by omega
          simp (disch := first | omega | simp) [rk_i, rk_b, rk_o, st1, kill, Value.category, rcv, nog, hn, ly0, ly2, fq_of (i_x_isPerson q' _), b2_0, k_30, inI_b, nI_clamp, nI_ltI, nI_leI, nI_eq, nI_9, nI_6, nI_22, nI_12, nI_180, nI_add, nI_1, nI_subc, g3, g5, g8, v1, nI_pos', hP, p4]
          by_cases c4 : k < 30 + P
          · have z7 : k - 30 < P := by omega
            have z8 : ¬ P ≤ k - 30 := by omega
            simp [z7, z8, c4]
            try omega
          · have z7 : ¬ k - 30 < P := by omega
            have z8 : P ≤ k - 30 := by omega
            simp [z7, z8, c4]
  · have hw : w.toInt < 0 ∨ 4 ≤ w.toInt := by omega
    obtain ⟨w0, w1, w2, w3⟩ := ni4 hw
    have cs : cntS h w = -1 := by
      unfold cntS
      rw [if_neg w0, if_neg w1, if_neg w2, if_neg w3, if_neg (by omega), if_neg (by omega), if_neg (by omega)]
    rw [cs]
    have e2 : ∀ A B : Nat, A < 43 → B < 43 → ¬ (nI A ≤ w ∧ w ≤ nI B) := by
      rintro A B h1 h2 ⟨h3, h4⟩
      rw [Int32.le_iff_toInt_le, nI_toInt (by omega)] at h3
      rw [Int32.le_iff_toInt_le, nI_toInt (by omega)] at h4
      omega
    have f1 := e2 10 19 (by omega) (by omega)
    have f2 := e2 20 29 (by omega) (by omega)
    have f3 := e2 30 42 (by omega) (by omega)
    rw [w_sq, w_siF (c_withF hE1 (by rw [k_10, k_19]; exact f1)), w_sk2, w_sq, w_siF (c_withF hE1 (by rw [k_20, k_29]; exact f2)), w_sk2, w_sq, w_siF (c_withF hE1 (by rw [k_30, k_42]; exact f3)), w_sk2, w_sw]
    simp only [f_mkF, w_sI, w_sR, w_sL, w_sC, w_sk, w_sbr, w_sco, w_rV, w_rI, w_rR, w_rL, w_dI, w_sO, w_sq, w_si, w_pI, w_pZ, w_pR, w_pU, w_qI, w_qB, w_qZ, w_qU, w_qR, w_kV, q_icst, q_lcst, q_xR, q_ldI, q_ldR, q_ldL, q_bn, q_un, q_dv, q_fI, q_fR, q_aI, q_aR, q_aN, q_tn, q_cmp, q_cmz, q_cnt, q_ctt, q_cand, q_cor, q_vn, q_vI, q_vR, q_vL, q_kI, q_kR, q_kL, q_ckI, envN, argE, List.flatMap_cons, List.flatMap_nil, Value.category, junk, oadd, osub, omul, oand, oor, oxor, odiv, orem, oshl, oshr, oushr, omax, omin]
    refine ⟨w, rfl, ?_⟩
    rw [sw_out (by simp; omega)]
    simp only [f_mkF, w_sI, w_sR, w_sL, w_sC, w_sk, w_sbr, w_sco, w_rV, w_rI, w_rR, w_rL, w_dI, w_sO, w_sq, w_si, w_pI, w_pZ, w_pR, w_pU, w_qI, w_qB, w_qZ, w_qU, w_qR, w_kV, q_icst, q_lcst, q_xR, q_ldI, q_ldR, q_ldL, q_bn, q_un, q_dv, q_fI, q_fR, q_aI, q_aR, q_aN, q_tn, q_cmp, q_cmz, q_cnt, q_ctt, q_cand, q_cor, q_vn, q_vI, q_vR, q_vL, q_kI, q_kR, q_kL, q_ckI, envN, argE, List.flatMap_cons, List.flatMap_nil, Value.category, junk, oadd, osub, omul, oand, oor, oxor, odiv, orem, oshl, oshr, oushr, omax, omin]
    simp [rk_i, rk_b, rk_o, st1, kill, Value.category, rcv, nog]
theorem g_count {LW : Hp → Prop} : AG (INV LW) F_X10_count F_X11_count 1 := by
  intro n h vs hl hn q
  match vs, hl with
  | [a], _ => exact ⟨cntS h a, h, h, i_x_count q a, q.1.1, i_m_count q a, INV_up q⟩
