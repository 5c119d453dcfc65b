/-! the constructors: the class -/
def thL : Nat → List (Nat × Nat × Nat) → List (Nat × Nat × Nat)
  | 0, L => L
  | t + 1, L => (3, t, 28 + 22 * t) :: rowsL (28 + 22 * t) 20 ((28 + 22 * t, 0, 28 + 22 * t + 1) :: thL t L)
def lwL : Nat → List (Nat × Nat × Nat) → List (Nat × Nat × Nat)
  | 0, L => L
  | l + 1, L => (4, l, 116 + 5 * l) :: lawL (116 + 5 * l) (lwL l L)
theorem rowsL_n {T k j x : Nat} {L : List (Nat × Nat × Nat)} (h : x ≠ T + 1) : RTb (rowsL T j L) x k = RTb L x k := by
  induction j with
  | zero => rfl
  | succ j ih =>
    rw [rowsL, RTb, if_neg (fun z => h z.1), ih]
theorem thL_n {t k x : Nat} {L : List (Nat × Nat × Nat)} (h : x < 3 ∨ (3 < x ∧ x < 28)) : RTb (thL t L) x k = RTb L x k := by
  induction t with
  | zero => rfl
  | succ t ih =>
    rw [thL, RTb, if_neg (fun z => by have := z.1; simp at this; omega), rowsL_n (by omega), RTb, if_neg (fun z => by have := z.1; simp at this; omega), ih]
theorem lwL_n {l k x : Nat} {L : List (Nat × Nat × Nat)} (h : x < 4 ∨ (4 < x ∧ x < 116)) : RTb (lwL l L) x k = RTb L x k := by
  induction l with
  | zero => rfl
  | succ l ih =>
    rw [lwL, RTb, if_neg (fun z => by have := z.1; simp at this; omega), lawL]
    simp only [RTb]
    rw [if_neg (by omega), if_neg (by omega), if_neg (by omega), if_neg (by omega), ih]
def LA : List (Nat × Nat × Nat) := (0, 11, 23) :: lawL 23 ((0, 7, 14) :: (14, 1, 22) :: (14, 0, 15) :: rowM 15 6 ((0, 5, 12) :: (12, 0, 13) :: (0, 4, 5) :: rowM 5 6 [(0, 3, 4), (0, 2, 3), (0, 1, 2), (0, 0, 1)]))
def LB : List (Nat × Nat × Nat) := lwL 6 (thL 4 LA)
def LC : List (Nat × Nat × Nat) := (0, 6, 146) :: (146, 4, 23) :: (146, 0, 13) :: LB
def LD : List (Nat × Nat × Nat) := (0, 8, 147) :: (147, 12, 28) :: (147, 2, 5) :: (147, 1, 4) :: (147, 0, 1) :: (147, 9, 156) :: (147, 8, 155) :: (147, 7, 154) :: (147, 6, 153) :: (147, 5, 152) :: (147, 4, 151) :: (147, 3, 148) :: (148, 1, 150) :: (148, 0, 149) :: LC
def LE : List (Nat × Nat × Nat) := (0, 9, 157) :: (157, 0, 147) :: (157, 4, 161) :: (157, 3, 160) :: (157, 2, 159) :: (157, 1, 158) :: LD
def LF : List (Nat × Nat × Nat) := (0, 10, 162) :: (162, 0, 147) :: (162, 3, 165) :: (162, 2, 164) :: (162, 1, 163) :: LE
/-- numbers: roads, the first l lands' sendings, and 0 -/
def NR (l : Nat) (N : Nat → Nat → Int32) : Prop := (∀ a b, a < 6 → b < 6 → N (16 + a) b = -1) ∧ (∀ a b, a < l → b < 9 → N (6 + a) b = 1) ∧ ∀ x k, x < 6 ∨ (6 + l ≤ x ∧ x < 16) ∨ 21 < x → N x k = 0
theorem n_class {h : Hp} (q : HS 1 [] h) (hz : ∀ x k, h.2.1 x k = 0) : fq F_X10_init [.ref 0] h fun r h' => r = none ∧ HS 166 LF h' ∧ NR 6 h'.2.1 := by
  have k4 : (4 : Int32) = nI 4 := rfl
  have k6 : (6 : Int32) = nI 6 := rfl
  unfold F_X10_init
  refine f_mkE [.ref 0, junk] rfl (by simp [argE, Value.category]) ?_
  refine w_s0 (a := 0) rfl ?_
  refine w_pA (a := 0) q rfl (by omega) rfl (by omega) ly1 rfl fun h1 q1 e1 => ?_
  refine w_pA (a := 0) q1 rfl (by omega) rfl (by omega) ly2 rfl fun h2 q2 e2 => ?_
  refine w_pA (a := 0) q2 rfl (by omega) rfl (by omega) ly3 rfl fun h3 q3 e3 => ?_
  refine w_pA (a := 0) q3 rfl (by omega) rfl (by omega) ly4 rfl fun h4 q4 e4 => ?_
  rw [w_sq, w_pR, q_ldR]
  refine ⟨0, rfl, q_nwM q4 (by omega) rfl rfl (by omega) (by omega) ly5 (by decide) fun h5 q5 e5 => ⟨⟨by have := q5.1; omega, rfl⟩, fun _ => ?_, fun z => absurd rfl z⟩⟩
  have q5' := q5.w (a := 0) (k := 4) (v := 5) (by omega)
  have e5' : (wR h5 0 4 (some 5)).2.1 = h.2.1 := by show h5.2.1 = _; rw [e5, e4, e3, e2, e1]
  generalize wR h5 0 4 (some 5) = h6 at *
  clear q5 e5 h5 q4 q3 q2 q1 e1 e2 e3 e4
  refine w_pO (a := 0) (vs := []) (n2 := 14) (fun N => N = h.2.1) q5' rfl (by omega) rfl (by omega) rfl (fun h1 _ => by simp only [f_mkF, w_sI, w_sR, w_sL, w_sC, w_sk, w_sbr, w_sco, w_rV, w_rI, w_rR, w_rL, w_dI, w_sO, w_sq, w_si, w_pI, w_pZ, w_pR, w_pU, w_qI, w_qB, w_qZ, w_qU, w_qR, w_kV, q_icst, q_lcst, q_xR, q_ldI, q_ldR, q_ldL, q_bn, q_un, q_dv, q_fI, q_fR, q_aI, q_aR, q_aN, q_tn, q_cmp, q_cmz, q_cnt, q_ctt, q_cand, q_cor, q_vn, q_vI, q_vR, q_vL, q_kI, q_kR, q_kL, q_ckI, envN, argE, List.flatMap_cons, List.flatMap_nil, Value.category, junk, oadd, osub, omul, oand, oor, oxor, odiv, orem, oshl, oshr, oushr, omax, omin]; simp) (fun h1 q1 e1 => fq_mono (n_tape q1) fun r h2 z => ⟨z.1, z.2.1, z.2.2.trans (e1.trans e5')⟩) fun h7 q7 e7 => ?_
  refine w_pO (a := 0) (vs := []) (n2 := 23) (NR 0) q7 rfl (by omega) rfl (by omega) rfl (fun h1 _ => by simp only [f_mkF, w_sI, w_sR, w_sL, w_sC, w_sk, w_sbr, w_sco, w_rV, w_rI, w_rR, w_rL, w_dI, w_sO, w_sq, w_si, w_pI, w_pZ, w_pR, w_pU, w_qI, w_qB, w_qZ, w_qU, w_qR, w_kV, q_icst, q_lcst, q_xR, q_ldI, q_ldR, q_ldL, q_bn, q_un, q_dv, q_fI, q_fR, q_aI, q_aR, q_aN, q_tn, q_cmp, q_cmz, q_cnt, q_ctt, q_cand, q_cor, q_vn, q_vI, q_vR, q_vL, q_kI, q_kR, q_kL, q_ckI, envN, argE, List.flatMap_cons, List.flatMap_nil, Value.category, junk, oadd, osub, omul, oand, oor, oxor, odiv, orem, oshl, oshr, oushr, omax, omin]; simp) (fun h1 q1 e1 => fq_mono (n_roads q1) fun r h2 z => ⟨z.1, z.2.1, z.2.2.1, fun a b y => by omega, fun x k y => by rw [z.2.2.2 x k (by omega), e1, e7, hz]⟩) fun h8 q8 e8 => ?_
  refine w_pO (a := 0) (vs := []) (n2 := 28) (NR 0) q8 rfl (by omega) rfl (by omega) rfl (fun h1 _ => by simp only [f_mkF, w_sI, w_sR, w_sL, w_sC, w_sk, w_sbr, w_sco, w_rV, w_rI, w_rR, w_rL, w_dI, w_sO, w_sq, w_si, w_pI, w_pZ, w_pR, w_pU, w_qI, w_qB, w_qZ, w_qU, w_qR, w_kV, q_icst, q_lcst, q_xR, q_ldI, q_ldR, q_ldL, q_bn, q_un, q_dv, q_fI, q_fR, q_aI, q_aR, q_aN, q_tn, q_cmp, q_cmz, q_cnt, q_ctt, q_cand, q_cor, q_vn, q_vI, q_vR, q_vL, q_kI, q_kR, q_kL, q_ckI, envN, argE, List.flatMap_cons, List.flatMap_nil, Value.category, junk, oadd, osub, omul, oand, oor, oxor, odiv, orem, oshl, oshr, oushr, omax, omin]; simp) (fun h1 q1 e1 => fq_mono (n_law q1 (by omega) rfl rfl rfl rfl rfl) fun r h2 z => ⟨z.1, z.2.1, by rw [z.2.2, e1]; exact e8⟩) fun h9 q9 e9 => ?_
  have q9' : HS 28 LA h9 := q9
  clear q9 q8 e8 q7 e7 h8 h7 q5' e5' h6
  refine w_sqS (fun E1 h2 => (∃ v, E1 = [.ref 0, v] ∧ v.category = 1) ∧ HS 116 (thL 4 LA) h2 ∧ NR 0 h2.2.1) ?_ ?_
  · refine w_sqI (E' := [.ref 0, .int (nI 0)]) (nI 0) (by simp only [f_mkF, w_sI, w_sR, w_sL, w_sC, w_sk, w_sbr, w_sco, w_rV, w_rI, w_rR, w_rL, w_dI, w_sO, w_sq, w_si, w_pI, w_pZ, w_pR, w_pU, w_qI, w_qB, w_qZ, w_qU, w_qR, w_kV, q_icst, q_lcst, q_xR, q_ldI, q_ldR, q_ldL, q_bn, q_un, q_dv, q_fI, q_fR, q_aI, q_aR, q_aN, q_tn, q_cmp, q_cmz, q_cnt, q_ctt, q_cand, q_cor, q_vn, q_vI, q_vR, q_vL, q_kI, q_kR, q_kL, q_ckI, envN, argE, List.flatMap_cons, List.flatMap_nil, Value.category, junk, oadd, osub, omul, oand, oor, oxor, odiv, orem, oshl, oshr, oushr, omax, omin]; simp [nI_0]) rfl ?_
    refine w_for (lo := 0) (hi := 4) (fun j E h' => E = [.ref 0, .int (nI j)] ∧ HS (28 + 22 * j) (thL j LA) h' ∧ NR 0 h'.2.1) (fun j E h' => E = [.ref 0, .int (nI j)] ∧ HS (28 + 22 * (j + 1)) (thL (j + 1) LA) h' ∧ NR 0 h'.2.1) (by omega) ⟨rfl, q9', e9⟩ ?_ ?_
    · rintro j E h2 - hj ⟨rfl, q2, e2⟩
      by_cases hj4 : j < 4
      · refine ev_T ?_ ⟨rfl, fun _ => ⟨hj4, ?_⟩, fun z => by cases z⟩
        · simp only [f_mkF, w_sI, w_sR, w_sL, w_sC, w_sk, w_sbr, w_sco, w_rV, w_rI, w_rR, w_rL, w_dI, w_sO, w_sq, w_si, w_pI, w_pZ, w_pR, w_pU, w_qI, w_qB, w_qZ, w_qU, w_qR, w_kV, q_icst, q_lcst, q_xR, q_ldI, q_ldR, q_ldL, q_bn, q_un, q_dv, q_fI, q_fR, q_aI, q_aR, q_aN, q_tn, q_cmp, q_cmz, q_cnt, q_ctt, q_cand, q_cor, q_vn, q_vI, q_vR, q_vL, q_kI, q_kR, q_kL, q_ckI, envN, argE, List.flatMap_cons, List.flatMap_nil, Value.category, junk, oadd, osub, omul, oand, oor, oxor, odiv, orem, oshl, oshr, oushr, omax, omin]
          simp (disch := first | omega | simp) [rk_i, rk_b, rk_o, st1, kill, Value.category, rcv, nog, inI_b, nI_clamp, nI_ltI, nI_leI, nI_eq, nI_9, nI_6, nI_22, nI_12, nI_180, nI_add, nI_1, k4, hj4]
        have e0 : h2.2.2 0 2 = some 3 := by
          rw [q2.2.1, thL_n (by omega)]
          decide +kernel
        have hn2 := q2.1
        have t1 : 0 < h2.1 := by omega
        have l9 : ∀ j, j < 4 → (LY (28 + 22 * j)).1 = 9 ∧ LY (28 + 22 * j + 1) = (16, 20) ∧ ∀ i, i < 20 → LY (28 + 22 * j + 2 + i) = (5, 8) := by decide +kernel
        obtain ⟨l0, l1, l2⟩ := l9 j hj4
        rw [w_qR]
        refine ev_mono (P := fun x h3 => x = 3 ∧ h3 = h2) (by simp only [f_mkF, w_sI, w_sR, w_sL, w_sC, w_sk, w_sbr, w_sco, w_rV, w_rI, w_rR, w_rL, w_dI, w_sO, w_sq, w_si, w_pI, w_pZ, w_pR, w_pU, w_qI, w_qB, w_qZ, w_qU, w_qR, w_kV, q_icst, q_lcst, q_xR, q_ldI, q_ldR, q_ldL, q_bn, q_un, q_dv, q_fI, q_fR, q_aI, q_aR, q_aN, q_tn, q_cmp, q_cmz, q_cnt, q_ctt, q_cand, q_cor, q_vn, q_vI, q_vR, q_vL, q_kI, q_kR, q_kL, q_ckI, envN, argE, List.flatMap_cons, List.flatMap_nil, Value.category, junk, oadd, osub, omul, oand, oor, oxor, odiv, orem, oshl, oshr, oushr, omax, omin]; simp [ly0, e0, t1]) ?_
        rintro x h3 ⟨rfl, rfl⟩
        rw [q_ldI]
        refine ⟨nI j, rfl, ?_⟩
        refine q_nwO (vs := []) q2 (by omega) l0 (fun h4 _ => by simp only [f_mkF, w_sI, w_sR, w_sL, w_sC, w_sk, w_sbr, w_sco, w_rV, w_rI, w_rR, w_rL, w_dI, w_sO, w_sq, w_si, w_pI, w_pZ, w_pR, w_pU, w_qI, w_qB, w_qZ, w_qU, w_qR, w_kV, q_icst, q_lcst, q_xR, q_ldI, q_ldR, q_ldL, q_bn, q_un, q_dv, q_fI, q_fR, q_aI, q_aR, q_aN, q_tn, q_cmp, q_cmz, q_cnt, q_ctt, q_cand, q_cor, q_vn, q_vI, q_vR, q_vL, q_kI, q_kR, q_kL, q_ckI, envN, argE, List.flatMap_cons, List.flatMap_nil, Value.category, junk, oadd, osub, omul, oand, oor, oxor, odiv, orem, oshl, oshr, oushr, omax, omin]; simp) fun h4 q4 e4 => ?_
        refine fq_mono (n_thing q4 (by omega) l0 l1 l2) ?_
        rintro r h5 ⟨rfl, q5, e5⟩
        have hn5 := q5.1
        refine ⟨rfl, ⟨by omega, rfl, ?_, by omega, l0⟩, rfl, rfl, ?_, ?_⟩
        · rw [ly3, inI_b (by omega)]; exact decide_eq_true hj4
        · rw [nI_clamp (by omega)]
          exact q5.w (by omega)
        · show NR 0 h5.2.1
          rw [e5, e4]
          exact e2
      · have : j = 4 := by omega
        subst this
        refine ev_F ?_ ⟨rfl, (fun z => by cases z), fun _ => ⟨rfl, ⟨_, rfl, rfl⟩, q2, e2⟩⟩
        simp only [f_mkF, w_sI, w_sR, w_sL, w_sC, w_sk, w_sbr, w_sco, w_rV, w_rI, w_rR, w_rL, w_dI, w_sO, w_sq, w_si, w_pI, w_pZ, w_pR, w_pU, w_qI, w_qB, w_qZ, w_qU, w_qR, w_kV, q_icst, q_lcst, q_xR, q_ldI, q_ldR, q_ldL, q_bn, q_un, q_dv, q_fI, q_fR, q_aI, q_aR, q_aN, q_tn, q_cmp, q_cmz, q_cnt, q_ctt, q_cand, q_cor, q_vn, q_vI, q_vR, q_vL, q_kI, q_kR, q_kL, q_ckI, envN, argE, List.flatMap_cons, List.flatMap_nil, Value.category, junk, oadd, osub, omul, oand, oor, oxor, odiv, orem, oshl, oshr, oushr, omax, omin]
        simp (disch := first | omega | simp) [rk_i, rk_b, rk_o, st1, kill, Value.category, rcv, nog, inI_b, nI_clamp, nI_ltI, nI_leI, nI_eq, nI_9, nI_6, nI_22, nI_12, nI_180, nI_add, nI_1, k4]
    · rintro j E h2 - - ⟨rfl, q2, e2⟩
      exact ⟨rfl, by simp [st1, kill, Value.category], q2, e2⟩
  rintro E1 h2 ⟨⟨v, rfl, cv⟩, q2, e2⟩
  refine w_sqS (fun E1 h2 => (∃ v, E1 = [.ref 0, v] ∧ v.category = 1) ∧ HS 146 LB h2 ∧ NR 6 h2.2.1) ?_ ?_
  · refine w_sqI (E' := [.ref 0, .int (nI 0)]) (nI 0) (by simp only [f_mkF, w_sI, w_sR, w_sL, w_sC, w_sk, w_sbr, w_sco, w_rV, w_rI, w_rR, w_rL, w_dI, w_sO, w_sq, w_si, w_pI, w_pZ, w_pR, w_pU, w_qI, w_qB, w_qZ, w_qU, w_qR, w_kV, q_icst, q_lcst, q_xR, q_ldI, q_ldR, q_ldL, q_bn, q_un, q_dv, q_fI, q_fR, q_aI, q_aR, q_aN, q_tn, q_cmp, q_cmz, q_cnt, q_ctt, q_cand, q_cor, q_vn, q_vI, q_vR, q_vL, q_kI, q_kR, q_kL, q_ckI, envN, argE, List.flatMap_cons, List.flatMap_nil, Value.category, junk, oadd, osub, omul, oand, oor, oxor, odiv, orem, oshl, oshr, oushr, omax, omin]; simp [nI_0]) (by simp [st1, kill, Value.category]) ?_
    refine w_for (lo := 0) (hi := 6) (fun j E h' => E = [.ref 0, .int (nI j)] ∧ HS (116 + 5 * j) (lwL j (thL 4 LA)) h' ∧ NR j h'.2.1) (fun j E h' => E = [.ref 0, .int (nI j)] ∧ HS (116 + 5 * (j + 1)) (lwL (j + 1) (thL 4 LA)) h' ∧ NR (j + 1) h'.2.1) (by omega) ⟨rfl, q2, e2⟩ ?_ ?_
    · rintro j E h3 - hj ⟨rfl, q3, e3⟩
      by_cases hj6 : j < 6
      · refine ev_T ?_ ⟨rfl, fun _ => ⟨hj6, ?_⟩, fun z => by cases z⟩
        · simp only [f_mkF, w_sI, w_sR, w_sL, w_sC, w_sk, w_sbr, w_sco, w_rV, w_rI, w_rR, w_rL, w_dI, w_sO, w_sq, w_si, w_pI, w_pZ, w_pR, w_pU, w_qI, w_qB, w_qZ, w_qU, w_qR, w_kV, q_icst, q_lcst, q_xR, q_ldI, q_ldR, q_ldL, q_bn, q_un, q_dv, q_fI, q_fR, q_aI, q_aR, q_aN, q_tn, q_cmp, q_cmz, q_cnt, q_ctt, q_cand, q_cor, q_vn, q_vI, q_vR, q_vL, q_kI, q_kR, q_kL, q_ckI, envN, argE, List.flatMap_cons, List.flatMap_nil, Value.category, junk, oadd, osub, omul, oand, oor, oxor, odiv, orem, oshl, oshr, oushr, omax, omin]
          simp (disch := first | omega | simp) [rk_i, rk_b, rk_o, st1, kill, Value.category, rcv, nog, inI_b, nI_clamp, nI_ltI, nI_leI, nI_eq, nI_9, nI_6, nI_22, nI_12, nI_180, nI_add, nI_1, k6, hj6]
        have e0 : h3.2.2 0 3 = some 4 := by
          rw [q3.2.1, lwL_n (by omega), thL_n (by omega)]
          decide +kernel
        have hn3 := q3.1
        have t1 : 0 < h3.1 := by omega
        have l9 : ∀ j, j < 6 → (LY (116 + 5 * j)).1 = 3 ∧ LY (116 + 5 * j + 1) = (13, 160) ∧ LY (116 + 5 * j + 2) = (13, 160) ∧ LY (116 + 5 * j + 3) = (13, 12) ∧ LY (116 + 5 * j + 4) = (13, 12) := by decide +kernel
        obtain ⟨l0, l1, l2, l3, l4⟩ := l9 j hj6
        refine w_sqS (fun E1 h4 => E1 = [.ref 0, .int (nI j)] ∧ HS (116 + 5 * (j + 1)) (lwL (j + 1) (thL 4 LA)) h4 ∧ NR j h4.2.1) ?_ ?_
        · rw [w_qR]
          refine ev_mono (P := fun x h4 => x = 4 ∧ h4 = h3) (by simp only [f_mkF, w_sI, w_sR, w_sL, w_sC, w_sk, w_sbr, w_sco, w_rV, w_rI, w_rR, w_rL, w_dI, w_sO, w_sq, w_si, w_pI, w_pZ, w_pR, w_pU, w_qI, w_qB, w_qZ, w_qU, w_qR, w_kV, q_icst, q_lcst, q_xR, q_ldI, q_ldR, q_ldL, q_bn, q_un, q_dv, q_fI, q_fR, q_aI, q_aR, q_aN, q_tn, q_cmp, q_cmz, q_cnt, q_ctt, q_cand, q_cor, q_vn, q_vI, q_vR, q_vL, q_kI, q_kR, q_kL, q_ckI, envN, argE, List.flatMap_cons, List.flatMap_nil, Value.category, junk, oadd, osub, omul, oand, oor, oxor, odiv, orem, oshl, oshr, oushr, omax, omin]; simp [ly0, e0, t1]) ?_
          rintro x h4 ⟨rfl, rfl⟩
          rw [q_ldI]
          refine ⟨nI j, rfl, ?_⟩
          refine q_nwO (vs := []) q3 (by omega) l0 (fun h4 _ => by simp only [f_mkF, w_sI, w_sR, w_sL, w_sC, w_sk, w_sbr, w_sco, w_rV, w_rI, w_rR, w_rL, w_dI, w_sO, w_sq, w_si, w_pI, w_pZ, w_pR, w_pU, w_qI, w_qB, w_qZ, w_qU, w_qR, w_kV, q_icst, q_lcst, q_xR, q_ldI, q_ldR, q_ldL, q_bn, q_un, q_dv, q_fI, q_fR, q_aI, q_aR, q_aN, q_tn, q_cmp, q_cmz, q_cnt, q_ctt, q_cand, q_cor, q_vn, q_vI, q_vR, q_vL, q_kI, q_kR, q_kL, q_ckI, envN, argE, List.flatMap_cons, List.flatMap_nil, Value.category, junk, oadd, osub, omul, oand, oor, oxor, odiv, orem, oshl, oshr, oushr, omax, omin]; simp) fun h5 q5 e5 => ?_
          refine fq_mono (n_law q5 (by omega) l0 l1 l2 l3 l4) ?_
          rintro r h6 ⟨rfl, q6, e6⟩
          have hn6 := q6.1
          refine ⟨rfl, ⟨by omega, rfl, ?_, by omega, l0⟩, rfl, rfl, ?_, ?_⟩
          · rw [ly4, inI_b (by omega)]; exact decide_eq_true hj6
          · rw [nI_clamp (by omega)]
            exact q6.w (by omega)
          · show NR j h6.2.1
            rw [e6, e5]
            exact e3
        rintro E4 h4 ⟨rfl, q4, e4⟩
        have hn4 := q4.1
        have f0 : h4.2.2 0 4 = some 5 := by
          rw [q4.2.1, lwL_n (by omega), thL_n (by omega)]
          decide +kernel
        have f5 : h4.2.2 5 j = some (6 + j) := by
          rw [q4.2.1, lwL_n (by omega), thL_n (by omega)]
          have : ∀ j, j < 6 → RTb LA 5 j = some (6 + j) := by decide +kernel
          exact this j hj6
        have t0 : 0 < h4.1 := by omega
        have t5 : 5 < h4.1 := by omega
        have l6 : ∀ j, j < 6 → LY (6 + j) = (13, 9) := by decide +kernel
        refine w_kVe [.ref (6 + j), .int 1] ?_ (by simp [nog]) (fq_mono (n_fill q4 (by omega) (l6 j hj6) (by omega) 1) ?_)
        · simp only [f_mkF, w_sI, w_sR, w_sL, w_sC, w_sk, w_sbr, w_sco, w_rV, w_rI, w_rR, w_rL, w_dI, w_sO, w_sq, w_si, w_pI, w_pZ, w_pR, w_pU, w_qI, w_qB, w_qZ, w_qU, w_qR, w_kV, q_icst, q_lcst, q_xR, q_ldI, q_ldR, q_ldL, q_bn, q_un, q_dv, q_fI, q_fR, q_aI, q_aR, q_aN, q_tn, q_cmp, q_cmz, q_cnt, q_ctt, q_cand, q_cor, q_vn, q_vI, q_vR, q_vL, q_kI, q_kR, q_kL, q_ckI, envN, argE, List.flatMap_cons, List.flatMap_nil, Value.category, junk, oadd, osub, omul, oand, oor, oxor, odiv, orem, oshl, oshr, oushr, omax, omin]
          simp (disch := first | omega | simp) [rk_i, rk_b, rk_o, st1, kill, Value.category, rcv, nog, inI_b, nI_clamp, nI_ltI, nI_leI, nI_eq, nI_9, nI_6, nI_22, nI_12, nI_180, nI_add, nI_1, f0, f5, t0, t5, ly0, ly5, hj6]
        · rintro r h5 ⟨rfl, q5, z5, y5⟩
          obtain ⟨n1, n2, n3⟩ := e4
          refine ⟨rfl, rfl, rfl, q5, fun a b ha hb => by rw [y5 _ _ (by omega)]; exact n1 a b ha hb, fun a b ha hb => ?_, fun x k hx => by rw [y5 x k (by omega)]; exact n3 x k (by omega)⟩
          by_cases e : a = j
          · rw [e]; exact z5 b hb
          · rw [y5 _ _ (by omega)]; exact n2 a b (by omega) hb
      · have : j = 6 := by omega
        subst this
        refine ev_F ?_ ⟨rfl, (fun z => by cases z), fun _ => ⟨rfl, ⟨_, rfl, rfl⟩, q3, e3⟩⟩
        simp only [f_mkF, w_sI, w_sR, w_sL, w_sC, w_sk, w_sbr, w_sco, w_rV, w_rI, w_rR, w_rL, w_dI, w_sO, w_sq, w_si, w_pI, w_pZ, w_pR, w_pU, w_qI, w_qB, w_qZ, w_qU, w_qR, w_kV, q_icst, q_lcst, q_xR, q_ldI, q_ldR, q_ldL, q_bn, q_un, q_dv, q_fI, q_fR, q_aI, q_aR, q_aN, q_tn, q_cmp, q_cmz, q_cnt, q_ctt, q_cand, q_cor, q_vn, q_vI, q_vR, q_vL, q_kI, q_kR, q_kL, q_ckI, envN, argE, List.flatMap_cons, List.flatMap_nil, Value.category, junk, oadd, osub, omul, oand, oor, oxor, odiv, orem, oshl, oshr, oushr, omax, omin]
        simp (disch := first | omega | simp) [rk_i, rk_b, rk_o, st1, kill, Value.category, rcv, nog, inI_b, nI_clamp, nI_ltI, nI_leI, nI_eq, nI_9, nI_6, nI_22, nI_12, nI_180, nI_add, nI_1, k6]
    · rintro j E h2 - - ⟨rfl, q2, e2⟩
      exact ⟨rfl, by simp [st1, kill, Value.category], q2, e2⟩
  rintro E1 h3 ⟨⟨v3, rfl, cv3⟩, q3, e3⟩
  refine w_pO (a := 0) (vs := [.ref 13, .ref 23]) (n2 := 147) (NR 6) q3 rfl (by omega) rfl (by omega) rfl (fun h1 q1 => ?_) (fun h1 q1 e1 => fq_mono (n_read q1 13 23) fun r h2 z => ⟨z.1, z.2.1, by rw [z.2.2, e1]; exact e3⟩) fun h4 q4 e4 => ?_
  · have hn := q1.1
    have a1 : h1.2.2 0 5 = some 12 := by rw [q1.2.1]; decide +kernel
    have a2 : h1.2.2 12 0 = some 13 := by rw [q1.2.1]; decide +kernel
    have a3 : h1.2.2 0 11 = some 23 := by rw [q1.2.1]; decide +kernel
    simp only [f_mkF, w_sI, w_sR, w_sL, w_sC, w_sk, w_sbr, w_sco, w_rV, w_rI, w_rR, w_rL, w_dI, w_sO, w_sq, w_si, w_pI, w_pZ, w_pR, w_pU, w_qI, w_qB, w_qZ, w_qU, w_qR, w_kV, q_icst, q_lcst, q_xR, q_ldI, q_ldR, q_ldL, q_bn, q_un, q_dv, q_fI, q_fR, q_aI, q_aR, q_aN, q_tn, q_cmp, q_cmz, q_cnt, q_ctt, q_cand, q_cor, q_vn, q_vI, q_vR, q_vL, q_kI, q_kR, q_kL, q_ckI, envN, argE, List.flatMap_cons, List.flatMap_nil, Value.category, junk, oadd, osub, omul, oand, oor, oxor, odiv, orem, oshl, oshr, oushr, omax, omin]
    simp [hn, a1, a2, a3, ly0, ly12]
  refine w_pO (a := 0) (vs := [.ref 1, .ref 4, .ref 5, .ref 28]) (n2 := 157) (NR 6) q4 rfl (by omega) rfl (by omega) rfl (fun h1 q1 => ?_) (fun h1 q1 e1 => fq_mono (n_court q1 1 4 5 28) fun r h2 z => ⟨z.1, z.2.1, by rw [z.2.2, e1]; exact e4⟩) fun h5 q5 e5 => ?_
  · have hn := q1.1
    have a1 : h1.2.2 0 0 = some 1 := by rw [q1.2.1]; decide +kernel
    have a2 : h1.2.2 0 3 = some 4 := by rw [q1.2.1]; decide +kernel
    have a3 : h1.2.2 0 4 = some 5 := by rw [q1.2.1]; decide +kernel
    have a4 : h1.2.2 0 2 = some 3 := by rw [q1.2.1]; decide +kernel
    have a5 : h1.2.2 3 0 = some 28 := by rw [q1.2.1]; decide +kernel
    have i0 : inI 0 4 = true := by decide
    have c0 : (0 : Int32).toNatClampNeg = 0 := rfl
    simp only [f_mkF, w_sI, w_sR, w_sL, w_sC, w_sk, w_sbr, w_sco, w_rV, w_rI, w_rR, w_rL, w_dI, w_sO, w_sq, w_si, w_pI, w_pZ, w_pR, w_pU, w_qI, w_qB, w_qZ, w_qU, w_qR, w_kV, q_icst, q_lcst, q_xR, q_ldI, q_ldR, q_ldL, q_bn, q_un, q_dv, q_fI, q_fR, q_aI, q_aR, q_aN, q_tn, q_cmp, q_cmz, q_cnt, q_ctt, q_cand, q_cor, q_vn, q_vI, q_vR, q_vL, q_kI, q_kR, q_kL, q_ckI, envN, argE, List.flatMap_cons, List.flatMap_nil, Value.category, junk, oadd, osub, omul, oand, oor, oxor, odiv, orem, oshl, oshr, oushr, omax, omin]
    simp [hn, a1, a2, a3, a4, a5, ly0, ly3, i0, c0]
  refine w_pO (a := 0) (vs := [.ref 147]) (n2 := 162) (NR 6) q5 rfl (by omega) rfl (by omega) rfl (fun h1 q1 => ?_) (fun h1 q1 e1 => fq_mono (n_doubts q1 147) fun r h2 z => ⟨z.1, z.2.1, by rw [z.2.2, e1]; exact e5⟩) fun h6 q6 e6 => ?_
  · have hn := q1.1
    have a1 : h1.2.2 0 8 = some 147 := by rw [q1.2.1]; decide +kernel
    simp only [f_mkF, w_sI, w_sR, w_sL, w_sC, w_sk, w_sbr, w_sco, w_rV, w_rI, w_rR, w_rL, w_dI, w_sO, w_sq, w_si, w_pI, w_pZ, w_pR, w_pU, w_qI, w_qB, w_qZ, w_qU, w_qR, w_kV, q_icst, q_lcst, q_xR, q_ldI, q_ldR, q_ldL, q_bn, q_un, q_dv, q_fI, q_fR, q_aI, q_aR, q_aN, q_tn, q_cmp, q_cmz, q_cnt, q_ctt, q_cand, q_cor, q_vn, q_vI, q_vR, q_vL, q_kI, q_kR, q_kL, q_ckI, envN, argE, List.flatMap_cons, List.flatMap_nil, Value.category, junk, oadd, osub, omul, oand, oor, oxor, odiv, orem, oshl, oshr, oushr, omax, omin]
    simp [hn, a1, ly0]
  refine w_pO (a := 0) (vs := [.ref 147]) (n2 := 166) (NR 6) q6 rfl (by omega) rfl (by omega) rfl (fun h1 q1 => ?_) (fun h1 q1 e1 => fq_mono (n_claims q1 147) fun r h2 z => ⟨z.1, z.2.1, by rw [z.2.2, e1]; exact e6⟩) fun h7 q7 e7 => ?_
  · have hn := q1.1
    have a1 : h1.2.2 0 8 = some 147 := by rw [q1.2.1]; decide +kernel
    simp only [f_mkF, w_sI, w_sR, w_sL, w_sC, w_sk, w_sbr, w_sco, w_rV, w_rI, w_rR, w_rL, w_dI, w_sO, w_sq, w_si, w_pI, w_pZ, w_pR, w_pU, w_qI, w_qB, w_qZ, w_qU, w_qR, w_kV, q_icst, q_lcst, q_xR, q_ldI, q_ldR, q_ldL, q_bn, q_un, q_dv, q_fI, q_fR, q_aI, q_aR, q_aN, q_tn, q_cmp, q_cmz, q_cnt, q_ctt, q_cand, q_cor, q_vn, q_vI, q_vR, q_vL, q_kI, q_kR, q_kL, q_ckI, envN, argE, List.flatMap_cons, List.flatMap_nil, Value.category, junk, oadd, osub, omul, oand, oor, oxor, odiv, orem, oshl, oshr, oushr, omax, omin]
    simp [hn, a1, ly0]
  rw [w_rV]
  exact Or.inl ⟨rfl, rfl, rfl, q7, e7⟩
