/-! the constructors: the small ones -/
theorem n_roads {L : List (Nat × Nat × Nat)} {h : Hp} (q : HS 15 L h) : fq F_X7_init [.ref 14] h fun r h' => r = none ∧ HS 23 ((14, 1, 22) :: (14, 0, 15) :: rowM 15 6 L) h' ∧ (∀ a b, a < 6 → b < 6 → h'.2.1 (16 + a) b = -1) ∧ ∀ x k, x < 16 ∨ 21 < x → h'.2.1 x k = h.2.1 x k := by
  have k6 : (6 : Int32) = nI 6 := rfl
  unfold F_X7_init
  refine f_mkE [.ref 14, junk] rfl (by simp [argE, Value.category]) ?_
  refine w_s0 (a := 14) rfl ?_
  rw [w_sq, w_pR, q_ldR]
  refine ⟨14, rfl, q_nwM q (by omega) rfl rfl (by omega) (by omega) ly15 (by decide) fun h1 q1 e1 => ⟨⟨by have := q1.1; omega, rfl⟩, fun _ => ?_, fun z => absurd rfl z⟩⟩
  have q1' := q1.w (a := 14) (k := 0) (v := 15) (by omega)
  have e1' : (wR h1 14 0 (some 15)).2.1 = h.2.1 := e1
  generalize wR h1 14 0 (some 15) = h2 at *
  refine w_pA (a := 14) q1' rfl (by omega) rfl (by omega) ly22 rfl fun h3 q3 e3 => ?_
  have g0 : ∀ h', HS 23 ((14, 1, 22) :: (14, 0, 15) :: rowM 15 6 L) h' → h'.1 = 23 ∧ h'.2.2 14 0 = some 15 ∧ ∀ i, i < 6 → h'.2.2 15 i = some (16 + i) := by
    intro h' q'
    refine ⟨q'.1, by rw [q'.2.1]; rfl, fun i hi => ?_⟩
    rw [q'.2.1, RTb, if_neg (by simp), RTb, if_neg (by simp), rowM_at, if_pos ⟨rfl, hi⟩]
  refine w_sqS (fun E1 h4 => HS 23 ((14, 1, 22) :: (14, 0, 15) :: rowM 15 6 L) h4 ∧ (∀ a b, a < 6 → b < 6 → h4.2.1 (16 + a) b = -1) ∧ ∀ x k, x < 16 ∨ 21 < x → h4.2.1 x k = h.2.1 x k) ?_ ?_
  · refine w_sqI (E' := [.ref 14, .int (nI 0)]) (nI 0) (by simp only [f_mkF, w_sI, w_sR, w_sL, w_sC, w_sk, w_sbr, w_sco, w_rV, w_rI, w_rR, w_rL, w_dI, w_sO, w_sq, w_si, w_pI, w_pZ, w_pR, w_pU, w_qI, w_qB, w_qZ, w_qU, w_qR, w_kV, q_icst, q_lcst, q_xR, q_ldI, q_ldR, q_ldL, q_bn, q_un, q_dv, q_fI, q_fR, q_aI, q_aR, q_aN, q_tn, q_cmp, q_cmz, q_cnt, q_ctt, q_cand, q_cor, q_vn, q_vI, q_vR, q_vL, q_kI, q_kR, q_kL, q_ckI, envN, argE, List.flatMap_cons, List.flatMap_nil, Value.category, junk, oadd, osub, omul, oand, oor, oxor, odiv, orem, oshl, oshr, oushr, omax, omin]; simp [nI_0]) rfl ?_
    refine w_for (lo := 0) (hi := 6) (fun j E h' => E = [.ref 14, .int (nI j)] ∧ HS 23 ((14, 1, 22) :: (14, 0, 15) :: rowM 15 6 L) h' ∧ (∀ a b, a < j → b < 6 → h'.2.1 (16 + a) b = -1) ∧ ∀ x k, x < 16 ∨ 21 < x → h'.2.1 x k = h.2.1 x k) (fun j E h' => E = [.ref 14, .int (nI j)] ∧ HS 23 ((14, 1, 22) :: (14, 0, 15) :: rowM 15 6 L) h' ∧ (∀ a b, a < j + 1 → b < 6 → h'.2.1 (16 + a) b = -1) ∧ ∀ x k, x < 16 ∨ 21 < x → h'.2.1 x k = h.2.1 x k) (by omega) ⟨rfl, q3, fun a b z => by omega, fun x k _ => by rw [e3, e1']⟩ ?_ ?_
    · rintro j E h4 - hj ⟨rfl, q4, z4, y4⟩
      by_cases hj6 : j < 6
      · refine ev_T ?_ ⟨rfl, fun _ => ⟨hj6, ?_⟩, fun z => by cases z⟩
        · simp only [f_mkF, w_sI, w_sR, w_sL, w_sC, w_sk, w_sbr, w_sco, w_rV, w_rI, w_rR, w_rL, w_dI, w_sO, w_sq, w_si, w_pI, w_pZ, w_pR, w_pU, w_qI, w_qB, w_qZ, w_qU, w_qR, w_kV, q_icst, q_lcst, q_xR, q_ldI, q_ldR, q_ldL, q_bn, q_un, q_dv, q_fI, q_fR, q_aI, q_aR, q_aN, q_tn, q_cmp, q_cmz, q_cnt, q_ctt, q_cand, q_cor, q_vn, q_vI, q_vR, q_vL, q_kI, q_kR, q_kL, q_ckI, envN, argE, List.flatMap_cons, List.flatMap_nil, Value.category, junk, oadd, osub, omul, oand, oor, oxor, odiv, orem, oshl, oshr, oushr, omax, omin]
          simp (disch := first | omega | simp) [rk_i, rk_b, rk_o, st1, kill, Value.category, rcv, nog, inI_b, nI_clamp, nI_ltI, nI_leI, nI_eq, nI_9, nI_6, nI_22, nI_12, nI_180, nI_add, nI_1, k6, hj6]
        obtain ⟨g1, g2, g3⟩ := g0 h4 q4
        have l16 : ∀ j, j < 6 → LY (16 + j) = (13, 6) := by decide
        refine w_kVe [.ref (16 + j), .int (-1)] ?_ (by simp [nog]) (fq_mono (n_fill q4 (by omega) (l16 j hj6) (by omega) (-1)) ?_)
        · simp only [f_mkF, w_sI, w_sR, w_sL, w_sC, w_sk, w_sbr, w_sco, w_rV, w_rI, w_rR, w_rL, w_dI, w_sO, w_sq, w_si, w_pI, w_pZ, w_pR, w_pU, w_qI, w_qB, w_qZ, w_qU, w_qR, w_kV, q_icst, q_lcst, q_xR, q_ldI, q_ldR, q_ldL, q_bn, q_un, q_dv, q_fI, q_fR, q_aI, q_aR, q_aN, q_tn, q_cmp, q_cmz, q_cnt, q_ctt, q_cand, q_cor, q_vn, q_vI, q_vR, q_vL, q_kI, q_kR, q_kL, q_ckI, envN, argE, List.flatMap_cons, List.flatMap_nil, Value.category, junk, oadd, osub, omul, oand, oor, oxor, odiv, orem, oshl, oshr, oushr, omax, omin]
          simp (disch := first | omega | simp) [rk_i, rk_b, rk_o, st1, kill, Value.category, rcv, nog, inI_b, nI_clamp, nI_ltI, nI_leI, nI_eq, nI_9, nI_6, nI_22, nI_12, nI_180, nI_add, nI_1, g1, g2, g3 j hj6, ly14, ly15, hj6]
        · rintro r h5 ⟨rfl, q5, z5, y5⟩
          refine ⟨rfl, rfl, rfl, q5, fun a b ha hb => ?_, fun x k hx => by rw [y5 x k (by omega)]; exact y4 x k hx⟩
          by_cases e : a = j
          · rw [e]; exact z5 b hb
          · rw [y5 _ _ (by omega)]; exact z4 a b (by omega) hb
      · have : j = 6 := by omega
        subst this
        refine ev_F ?_ ⟨rfl, (fun z => by cases z), fun _ => ⟨rfl, q4, z4, y4⟩⟩
        simp only [f_mkF, w_sI, w_sR, w_sL, w_sC, w_sk, w_sbr, w_sco, w_rV, w_rI, w_rR, w_rL, w_dI, w_sO, w_sq, w_si, w_pI, w_pZ, w_pR, w_pU, w_qI, w_qB, w_qZ, w_qU, w_qR, w_kV, q_icst, q_lcst, q_xR, q_ldI, q_ldR, q_ldL, q_bn, q_un, q_dv, q_fI, q_fR, q_aI, q_aR, q_aN, q_tn, q_cmp, q_cmz, q_cnt, q_ctt, q_cand, q_cor, q_vn, q_vI, q_vR, q_vL, q_kI, q_kR, q_kL, q_ckI, envN, argE, List.flatMap_cons, List.flatMap_nil, Value.category, junk, oadd, osub, omul, oand, oor, oxor, odiv, orem, oshl, oshr, oushr, omax, omin]
        simp (disch := first | omega | simp) [rk_i, rk_b, rk_o, st1, kill, Value.category, rcv, nog, inI_b, nI_clamp, nI_ltI, nI_leI, nI_eq, nI_9, nI_6, nI_22, nI_12, nI_180, nI_add, nI_1, k6]
    · rintro j E h4 - - ⟨rfl, q4, z4⟩
      exact ⟨rfl, by simp [st1, kill, Value.category], q4, z4⟩
  rintro E4 h4 ⟨q4, z4⟩
  rw [w_rV]
  exact Or.inl ⟨rfl, rfl, rfl, q4, z4⟩
theorem n_read {L : List (Nat × Nat × Nat)} {h : Hp} (q : HS 147 L h) (b c : Nat) : fq F_X4_init [.ref 146, .ref b, .ref c] h fun r h' => r = none ∧ HS 147 ((146, 4, c) :: (146, 0, b) :: L) h' ∧ h'.2.1 = h.2.1 := by
  unfold F_X4_init
  refine f_mkE [.ref 146, .ref b, .ref c] rfl (by simp [argE, Value.category]) ?_
  refine w_s0 (a := 146) rfl ?_
  refine w_pP (a := 146) q rfl rfl (by omega) rfl fun h1 q1 e1 => ?_
  refine w_pP (a := 146) q1 rfl rfl (by omega) rfl fun h2 q2 e2 => ?_
  rw [w_rV]
  exact Or.inl ⟨rfl, rfl, rfl, q2, by rw [e2, e1]⟩
theorem n_court {L : List (Nat × Nat × Nat)} {h : Hp} (q : HS 148 L h) (b c d e : Nat) : fq F_X1_init [.ref 147, .ref b, .ref c, .ref d, .ref e] h fun r h' => r = none ∧ HS 157 ((147, 12, e) :: (147, 2, d) :: (147, 1, c) :: (147, 0, b) :: (147, 9, 156) :: (147, 8, 155) :: (147, 7, 154) :: (147, 6, 153) :: (147, 5, 152) :: (147, 4, 151) :: (147, 3, 148) :: (148, 1, 150) :: (148, 0, 149) :: L) h' ∧ h'.2.1 = h.2.1 := by
  unfold F_X1_init
  refine f_mkE [.ref 147, .ref b, .ref c, .ref d, .ref e] rfl (by simp [argE, Value.category]) ?_
  refine w_s0 (a := 147) rfl ?_
  refine w_pO (a := 147) (vs := []) (n2 := 151) (L2 := (148, 1, 150) :: (148, 0, 149) :: L) (fun N => N = h.2.1) q rfl (by omega) rfl (by omega) rfl (fun h1 _ => by simp only [f_mkF, w_sI, w_sR, w_sL, w_sC, w_sk, w_sbr, w_sco, w_rV, w_rI, w_rR, w_rL, w_dI, w_sO, w_sq, w_si, w_pI, w_pZ, w_pR, w_pU, w_qI, w_qB, w_qZ, w_qU, w_qR, w_kV, q_icst, q_lcst, q_xR, q_ldI, q_ldR, q_ldL, q_bn, q_un, q_dv, q_fI, q_fR, q_aI, q_aR, q_aN, q_tn, q_cmp, q_cmz, q_cnt, q_ctt, q_cand, q_cor, q_vn, q_vI, q_vR, q_vL, q_kI, q_kR, q_kL, q_ckI, envN, argE, List.flatMap_cons, List.flatMap_nil, Value.category, junk, oadd, osub, omul, oand, oor, oxor, odiv, orem, oshl, oshr, oushr, omax, omin]; simp) (fun h1 q1 e1 => fq_mono (n_reck q1) fun r h2 z => ⟨z.1, z.2.1, z.2.2.trans e1⟩) fun h1 q1 e1 => ?_
  refine w_pA (a := 147) q1 rfl (by omega) rfl (by omega) ly151 rfl fun h2 q2 e2 => ?_
  refine w_pA (a := 147) q2 rfl (by omega) rfl (by omega) ly152 rfl fun h3 q3 e3 => ?_
  refine w_pA (a := 147) q3 rfl (by omega) rfl (by omega) ly153 rfl fun h4 q4 e4 => ?_
  refine w_pA (a := 147) q4 rfl (by omega) rfl (by omega) ly154 rfl fun h5 q5 e5 => ?_
  refine w_pA (a := 147) q5 rfl (by omega) rfl (by omega) ly155 rfl fun h6 q6 e6 => ?_
  refine w_pA (a := 147) q6 rfl (by omega) rfl (by omega) ly156 rfl fun h7 q7 e7 => ?_
  refine w_pP (a := 147) q7 rfl rfl (by omega) rfl fun h8 q8 e8 => ?_
  refine w_pP (a := 147) q8 rfl rfl (by omega) rfl fun h9 q9 e9 => ?_
  refine w_pP (a := 147) q9 rfl rfl (by omega) rfl fun h10 q10 e10 => ?_
  refine w_pP (a := 147) q10 rfl rfl (by omega) rfl fun h11 q11 e11 => ?_
  rw [w_rV]
  exact Or.inl ⟨rfl, rfl, rfl, q11, by rw [e11, e10, e9, e8, e7, e6, e5, e4, e3, e2, e1]⟩
theorem n_doubts {L : List (Nat × Nat × Nat)} {h : Hp} (q : HS 158 L h) (b : Nat) : fq F_X2_init [.ref 157, .ref b] h fun r h' => r = none ∧ HS 162 ((157, 0, b) :: (157, 4, 161) :: (157, 3, 160) :: (157, 2, 159) :: (157, 1, 158) :: L) h' ∧ h'.2.1 = h.2.1 := by
  unfold F_X2_init
  refine f_mkE [.ref 157, .ref b] rfl (by simp [argE, Value.category]) ?_
  refine w_s0 (a := 157) rfl ?_
  refine w_pA (a := 157) q rfl (by omega) rfl (by omega) ly158 rfl fun h2 q2 e2 => ?_
  refine w_pA (a := 157) q2 rfl (by omega) rfl (by omega) ly159 rfl fun h3 q3 e3 => ?_
  refine w_pA (a := 157) q3 rfl (by omega) rfl (by omega) ly160 rfl fun h4 q4 e4 => ?_
  refine w_pA (a := 157) q4 rfl (by omega) rfl (by omega) ly161 rfl fun h5 q5 e5 => ?_
  refine w_pP (a := 157) q5 rfl rfl (by omega) rfl fun h6 q6 e6 => ?_
  rw [w_rV]
  exact Or.inl ⟨rfl, rfl, rfl, q6, by rw [e6, e5, e4, e3, e2]⟩
theorem n_claims {L : List (Nat × Nat × Nat)} {h : Hp} (q : HS 163 L h) (b : Nat) : fq F_X0_init [.ref 162, .ref b] h fun r h' => r = none ∧ HS 166 ((162, 0, b) :: (162, 3, 165) :: (162, 2, 164) :: (162, 1, 163) :: L) h' ∧ h'.2.1 = h.2.1 := by
  unfold F_X0_init
  refine f_mkE [.ref 162, .ref b] rfl (by simp [argE, Value.category]) ?_
  refine w_s0 (a := 162) rfl ?_
  refine w_pA (a := 162) q rfl (by omega) rfl (by omega) ly163 rfl fun h2 q2 e2 => ?_
  refine w_pA (a := 162) q2 rfl (by omega) rfl (by omega) ly164 rfl fun h3 q3 e3 => ?_
  refine w_pA (a := 162) q3 rfl (by omega) rfl (by omega) ly165 rfl fun h4 q4 e4 => ?_
  refine w_pP (a := 162) q4 rfl rfl (by omega) rfl fun h6 q6 e6 => ?_
  rw [w_rV]
  exact Or.inl ⟨rfl, rfl, rfl, q6, by rw [e6, e4, e3, e2]⟩
