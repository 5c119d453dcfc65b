/-! the constructors: things, roads, court -/
def rowsL (T : Nat) : Nat → List (Nat × Nat × Nat) → List (Nat × Nat × Nat)
  | 0, L => L
  | j + 1, L => (T + 1, j, T + 2 + j) :: rowsL T j L
theorem rowsL_T (T k j : Nat) (L : List (Nat × Nat × Nat)) : RTb (rowsL T j L) T k = RTb L T k := by
  induction j with
  | zero => rfl
  | succ j ih =>
    rw [rowsL, RTb, if_neg (by simp), ih]
theorem n_thing {T : Nat} {L : List (Nat × Nat × Nat)} {h : Hp} (q : HS (T + 1) L h) (ha : T < 900) (l0 : (LY T).1 = 9) (l1 : LY (T + 1) = (16, 20)) (l2 : ∀ j, j < 20 → LY (T + 2 + j) = (5, 8)) : fq F_X9_init [.ref T] h fun r h' => r = none ∧ HS (T + 22) (rowsL T 20 ((T, 0, T + 1) :: L)) h' ∧ h'.2.1 = h.2.1 := by
  have k20 : (20 : Int32) = nI 20 := rfl
  unfold F_X9_init
  refine f_mkE [.ref T, junk] rfl (by simp [argE, Value.category]) ?_
  refine w_s0 (a := T) rfl ?_
  refine w_pA (a := T) q rfl (by omega) l0 (by omega) l1 rfl fun h1 q1 e1 => ?_
  refine w_sqS (fun E1 h2 => HS (T + 22) (rowsL T 20 ((T, 0, T + 1) :: L)) h2 ∧ h2.2.1 = h.2.1) ?_ ?_
  · refine w_sqI (E' := [.ref T, .int (nI 0)]) (nI 0) (by simp only [f_mkF, w_sI, w_sR, w_sL, w_sC, w_sk, w_sbr, w_sco, w_rV, w_rI, w_rR, w_rL, w_dI, w_sO, w_sq, w_si, w_pI, w_pZ, w_pR, w_pU, w_qI, w_qB, w_qZ, w_qU, w_qR, w_kV, q_icst, q_lcst, q_xR, q_ldI, q_ldR, q_ldL, q_bn, q_un, q_dv, q_fI, q_fR, q_aI, q_aR, q_aN, q_tn, q_cmp, q_cmz, q_cnt, q_ctt, q_cand, q_cor, q_vn, q_vI, q_vR, q_vL, q_kI, q_kR, q_kL, q_ckI, envN, argE, List.flatMap_cons, List.flatMap_nil, Value.category, junk, oadd, osub, omul, oand, oor, oxor, odiv, orem, oshl, oshr, oushr, omax, omin]; simp [nI_0]) rfl ?_
    refine w_for (lo := 0) (hi := 20) (fun j E h' => E = [.ref T, .int (nI j)] ∧ HS (T + 2 + j) (rowsL T j ((T, 0, T + 1) :: L)) h' ∧ h'.2.1 = h.2.1) (fun j E h' => E = [.ref T, .int (nI j)] ∧ HS (T + 2 + (j + 1)) (rowsL T (j + 1) ((T, 0, T + 1) :: L)) h' ∧ h'.2.1 = h.2.1) (by omega) ⟨rfl, q1, e1⟩ ?_ ?_
    · rintro j E h2 - hj ⟨rfl, q2, e2⟩
      by_cases hj20 : j < 20
      · refine ev_T ?_ ⟨rfl, fun _ => ⟨hj20, ?_⟩, fun z => by cases z⟩
        · simp only [f_mkF, w_sI, w_sR, w_sL, w_sC, w_sk, w_sbr, w_sco, w_rV, w_rI, w_rR, w_rL, w_dI, w_sO, w_sq, w_si, w_pI, w_pZ, w_pR, w_pU, w_qI, w_qB, w_qZ, w_qU, w_qR, w_kV, q_icst, q_lcst, q_xR, q_ldI, q_ldR, q_ldL, q_bn, q_un, q_dv, q_fI, q_fR, q_aI, q_aR, q_aN, q_tn, q_cmp, q_cmz, q_cnt, q_ctt, q_cand, q_cor, q_vn, q_vI, q_vR, q_vL, q_kI, q_kR, q_kL, q_ckI, envN, argE, List.flatMap_cons, List.flatMap_nil, Value.category, junk, oadd, osub, omul, oand, oor, oxor, odiv, orem, oshl, oshr, oushr, omax, omin]
          simp (disch := first | omega | simp) [rk_i, rk_b, rk_o, st1, kill, Value.category, rcv, nog, inI_b, nI_clamp, nI_ltI, nI_leI, nI_eq, nI_9, nI_6, nI_22, nI_12, nI_180, nI_add, nI_1, k20, hj20]
        have e0 : h2.2.2 T 0 = some (T + 1) := by
          rw [q2.2.1, rowsL_T]
          simp [RTb]
        have hn2 := q2.1
        have t1 : T < h2.1 := by omega
        rw [w_qR]
        refine ev_mono (P := fun x h3 => x = T + 1 ∧ h3 = h2) (by simp only [f_mkF, w_sI, w_sR, w_sL, w_sC, w_sk, w_sbr, w_sco, w_rV, w_rI, w_rR, w_rL, w_dI, w_sO, w_sq, w_si, w_pI, w_pZ, w_pR, w_pU, w_qI, w_qB, w_qZ, w_qU, w_qR, w_kV, q_icst, q_lcst, q_xR, q_ldI, q_ldR, q_ldL, q_bn, q_un, q_dv, q_fI, q_fR, q_aI, q_aR, q_aN, q_tn, q_cmp, q_cmz, q_cnt, q_ctt, q_cand, q_cor, q_vn, q_vI, q_vR, q_vL, q_kI, q_kR, q_kL, q_ckI, envN, argE, List.flatMap_cons, List.flatMap_nil, Value.category, junk, oadd, osub, omul, oand, oor, oxor, odiv, orem, oshl, oshr, oushr, omax, omin]; simp [l0, e0, t1]) ?_
        rintro x h3 ⟨rfl, rfl⟩
        rw [q_ldI]
        refine ⟨nI j, rfl, ?_⟩
        refine q_nwO (vs := []) q2 (by omega) (by rw [l2 j hj20]) (fun h4 _ => by simp only [f_mkF, w_sI, w_sR, w_sL, w_sC, w_sk, w_sbr, w_sco, w_rV, w_rI, w_rR, w_rL, w_dI, w_sO, w_sq, w_si, w_pI, w_pZ, w_pR, w_pU, w_qI, w_qB, w_qZ, w_qU, w_qR, w_kV, q_icst, q_lcst, q_xR, q_ldI, q_ldR, q_ldL, q_bn, q_un, q_dv, q_fI, q_fR, q_aI, q_aR, q_aN, q_tn, q_cmp, q_cmz, q_cnt, q_ctt, q_cand, q_cor, q_vn, q_vI, q_vR, q_vL, q_kI, q_kR, q_kL, q_ckI, envN, argE, List.flatMap_cons, List.flatMap_nil, Value.category, junk, oadd, osub, omul, oand, oor, oxor, odiv, orem, oshl, oshr, oushr, omax, omin]; simp) fun h4 q4 e4 => ?_
        refine fq_mono (n_row q4) ?_
        rintro r h5 ⟨rfl, q5, e5⟩
        have hn5 := q5.1
        refine ⟨rfl, ⟨by omega, by rw [l1], ?_, by omega, by rw [l2 j hj20]⟩, rfl, rfl, ?_, ?_⟩
        · rw [l1, inI_b (by omega)]; exact decide_eq_true hj20
        · rw [nI_clamp (by omega)]
          exact q5.w (by omega)
        · show h5.2.1 = _
          rw [e5, e4, e2]
      · have : j = 20 := by omega
        subst this
        refine ev_F ?_ ⟨rfl, (fun z => by cases z), fun _ => ⟨rfl, q2, e2⟩⟩
        simp only [f_mkF, w_sI, w_sR, w_sL, w_sC, w_sk, w_sbr, w_sco, w_rV, w_rI, w_rR, w_rL, w_dI, w_sO, w_sq, w_si, w_pI, w_pZ, w_pR, w_pU, w_qI, w_qB, w_qZ, w_qU, w_qR, w_kV, q_icst, q_lcst, q_xR, q_ldI, q_ldR, q_ldL, q_bn, q_un, q_dv, q_fI, q_fR, q_aI, q_aR, q_aN, q_tn, q_cmp, q_cmz, q_cnt, q_ctt, q_cand, q_cor, q_vn, q_vI, q_vR, q_vL, q_kI, q_kR, q_kL, q_ckI, envN, argE, List.flatMap_cons, List.flatMap_nil, Value.category, junk, oadd, osub, omul, oand, oor, oxor, odiv, orem, oshl, oshr, oushr, omax, omin]
        simp (disch := first | omega | simp) [rk_i, rk_b, rk_o, st1, kill, Value.category, rcv, nog, inI_b, nI_clamp, nI_ltI, nI_leI, nI_eq, nI_9, nI_6, nI_22, nI_12, nI_180, nI_add, nI_1, k20]
    · rintro j E h2 - - ⟨rfl, q2, e2⟩
      exact ⟨rfl, by simp [st1, kill, Value.category], q2, e2⟩
  rintro E2 h2 ⟨q2, e2⟩
  rw [w_rV]
  exact Or.inl ⟨rfl, rfl, rfl, q2, e2⟩
def rowM (n : Nat) : Nat → List (Nat × Nat × Nat) → List (Nat × Nat × Nat)
  | 0, L => L
  | j + 1, L => (n, j, n + 1 + j) :: rowM n j L
theorem rowM_at (n m x j : Nat) (L : List (Nat × Nat × Nat)) : RTb (rowM n m L) x j = if x = n ∧ j < m then some (n + 1 + j) else RTb L x j := by
  induction m with
  | zero => rw [rowM, if_neg (by omega)]
  | succ m ih =>
    rw [rowM, RTb, ih]
    by_cases e : x = n ∧ j = m
    · obtain ⟨rfl, rfl⟩ := e
      rw [if_pos ⟨rfl, rfl⟩, if_pos ⟨rfl, by omega⟩]
    · rw [if_neg e]
      by_cases e2 : x = n ∧ j < m
      · rw [if_pos e2, if_pos ⟨e2.1, by omega⟩]
      · rw [if_neg e2, if_neg (by omega)]
theorem rowM_m {n m : Nat} {L : List (Nat × Nat × Nat)} {e : Nat × Nat × Nat} (h : e ∈ rowM n m L) : e.1 = n ∨ e ∈ L := by
  induction m with
  | zero => exact Or.inr h
  | succ m ih =>
    rw [rowM] at h
    rcases List.mem_cons.mp h with rfl | h
    · exact Or.inl rfl
    · exact ih h
theorem q_nwM {m k n : Nat} {v u : Int32} {L : List (Nat × Nat × Nat)} {E : En} {h : Hp} {P : Nat → Hp → Prop} (q : HS n L h) (hn : n + m < 1000) (hv : v.toInt = m) (hu : u.toInt = k) (hm : m ≤ 100) (hk : k ≤ 100) (hL : LY n = (18, m)) (hR : ∀ i, i < m → LY (n + 1 + i) = (13, k)) (hP : ∀ h', HS (n + 1 + m) (rowM n m L) h' → h'.2.1 = h.2.1 → P n h') : ev (nwM m k (icst v) (icst u)) E h P := by
  obtain ⟨q1, q2, q3, q4⟩ := q
  refine ⟨n, mkm h m, ?_, hP _ ?_ ?_⟩
  · show (if h.1 + m < 1000 ∧ v.toInt = m ∧ u.toInt = k ∧ m ≤ 100 ∧ k ≤ 100 ∧ LY h.1 = (18, m) ∧ (∀ i, i < m → LY (h.1 + 1 + i) = (13, k)) then some (h.1, mkm h m) else none) = _
    rw [q1, if_pos ⟨hn, hv, hu, hm, hk, hL, hR⟩]
  · have e : (mkm h m).2.1 = h.2.1 := by
      funext x j
      show (if h.1 ≤ x then 0 else h.2.1 x j) = _
      by_cases z : h.1 ≤ x
      · rw [if_pos z, q4 x j (by omega)]
      · rw [if_neg z]
    refine ⟨by show h.1 + 1 + m = _; omega, ?_, fun e he => ?_, fun x j hx => by rw [e]; exact q4 x j (by omega)⟩
    · funext x j
      show (if x = h.1 then (if j < m then some (h.1 + 1 + j) else none) else if h.1 ≤ x then none else h.2.2 x j) = _
      rw [rowM_at, q1]
      by_cases z : x = n
      · rw [if_pos z]
        by_cases y : j < m
        · rw [if_pos y, if_pos ⟨z, y⟩]
        · rw [if_neg y, if_neg (by omega), RTb_n fun e he y => by have := q3 e he; omega]
      · rw [if_neg z, if_neg (c := x = n ∧ j < m) (fun y => z y.1)]
        by_cases y : n ≤ x
        · rw [if_pos y, RTb_n fun e he y => by have := q3 e he; omega]
        · rw [if_neg y, q2]
    · rcases rowM_m he with z | z
      · omega
      · have := q3 e z; omega
  · funext x j
    show (if h.1 ≤ x then 0 else h.2.1 x j) = _
    by_cases z : h.1 ≤ x
    · rw [if_pos z, q4 x j (by omega)]
    · rw [if_neg z]
theorem n_fill {n : Nat} {L : List (Nat × Nat × Nat)} {h : Hp} (q : HS n L h) {A m : Nat} (hA : A < n) (hL : LY A = (13, m)) (hm : m < 10000) (v : Int32) : fq F_J7_fill_53178 [.ref A, .int v] h fun r h' => r = none ∧ HS n L h' ∧ (∀ k, k < m → h'.2.1 A k = v) ∧ ∀ x k, x ≠ A → h'.2.1 x k = h.2.1 x k := by
  have hL1 : (LY A).1 = 13 := by rw [hL]
  have hL2 : (LY A).2 = m := by rw [hL]
  have hn := q.1
  have hA2 : A < h.1 := by omega
  unfold F_J7_fill_53178
  refine f_mkE [.ref A, .int v, junk, junk] rfl (by simp [argE, Value.category]) ?_
  refine w_sq.mpr ?_
  refine w_sq.mpr ?_
  refine w_sqI (E' := [.ref A, .int v, .int (nI 0), junk]) (nI 0) (by simp only [f_mkF, w_sI, w_sR, w_sL, w_sC, w_sk, w_sbr, w_sco, w_rV, w_rI, w_rR, w_rL, w_dI, w_sO, w_sq, w_si, w_pI, w_pZ, w_pR, w_pU, w_qI, w_qB, w_qZ, w_qU, w_qR, w_kV, q_icst, q_lcst, q_xR, q_ldI, q_ldR, q_ldL, q_bn, q_un, q_dv, q_fI, q_fR, q_aI, q_aR, q_aN, q_tn, q_cmp, q_cmz, q_cnt, q_ctt, q_cand, q_cor, q_vn, q_vI, q_vR, q_vL, q_kI, q_kR, q_kL, q_ckI, envN, argE, List.flatMap_cons, List.flatMap_nil, Value.category, junk, oadd, osub, omul, oand, oor, oxor, odiv, orem, oshl, oshr, oushr, omax, omin]; simp [nI_0]) rfl ?_
  refine w_sIe (E' := [.ref A, .int v, .int (nI 0), .int (nI m)]) (nI m) (by simp only [f_mkF, w_sI, w_sR, w_sL, w_sC, w_sk, w_sbr, w_sco, w_rV, w_rI, w_rR, w_rL, w_dI, w_sO, w_sq, w_si, w_pI, w_pZ, w_pR, w_pU, w_qI, w_qB, w_qZ, w_qU, w_qR, w_kV, q_icst, q_lcst, q_xR, q_ldI, q_ldR, q_ldL, q_bn, q_un, q_dv, q_fI, q_fR, q_aI, q_aR, q_aN, q_tn, q_cmp, q_cmz, q_cnt, q_ctt, q_cand, q_cor, q_vn, q_vI, q_vR, q_vL, q_kI, q_kR, q_kL, q_ckI, envN, argE, List.flatMap_cons, List.flatMap_nil, Value.category, junk, oadd, osub, omul, oand, oor, oxor, odiv, orem, oshl, oshr, oushr, omax, omin]; simp [hA2, hL1, hL2]; rfl) rfl ⟨fun _ => ?_, fun z => absurd rfl z⟩
  refine w_for (lo := 0) (hi := m) (fun j E h' => E = [.ref A, .int v, .int (nI j), .int (nI m)] ∧ Fr (fun a _ => a = A) h h' ∧ ∀ k, k < j → h'.2.1 A k = v) (fun j E h' => E = [.ref A, .int v, .int (nI j), .int (nI m)] ∧ Fr (fun a _ => a = A) h h' ∧ ∀ k, k < j + 1 → h'.2.1 A k = v) (by omega) ⟨rfl, Fr.refl h, fun k z => by omega⟩ ?_ ?_
  · rintro j E h1 - hj ⟨rfl, f1, z1⟩
    by_cases hjm : j < m
    · refine ev_T ?_ ⟨rfl, fun _ => ⟨hjm, ?_⟩, fun z => by cases z⟩
      · simp only [f_mkF, w_sI, w_sR, w_sL, w_sC, w_sk, w_sbr, w_sco, w_rV, w_rI, w_rR, w_rL, w_dI, w_sO, w_sq, w_si, w_pI, w_pZ, w_pR, w_pU, w_qI, w_qB, w_qZ, w_qU, w_qR, w_kV, q_icst, q_lcst, q_xR, q_ldI, q_ldR, q_ldL, q_bn, q_un, q_dv, q_fI, q_fR, q_aI, q_aR, q_aN, q_tn, q_cmp, q_cmz, q_cnt, q_ctt, q_cand, q_cor, q_vn, q_vI, q_vR, q_vL, q_kI, q_kR, q_kL, q_ckI, envN, argE, List.flatMap_cons, List.flatMap_nil, Value.category, junk, oadd, osub, omul, oand, oor, oxor, odiv, orem, oshl, oshr, oushr, omax, omin]
        simp (disch := first | omega | simp) [rk_i, rk_b, rk_o, st1, kill, Value.category, rcv, nog, inI_b, nI_clamp, nI_ltI, nI_leI, nI_eq, nI_9, nI_6, nI_22, nI_12, nI_180, nI_add, nI_1, hjm]
      refine w_qIe A j v (by simp only [f_mkF, w_sI, w_sR, w_sL, w_sC, w_sk, w_sbr, w_sco, w_rV, w_rI, w_rR, w_rL, w_dI, w_sO, w_sq, w_si, w_pI, w_pZ, w_pR, w_pU, w_qI, w_qB, w_qZ, w_qU, w_qR, w_kV, q_icst, q_lcst, q_xR, q_ldI, q_ldR, q_ldL, q_bn, q_un, q_dv, q_fI, q_fR, q_aI, q_aR, q_aN, q_tn, q_cmp, q_cmz, q_cnt, q_ctt, q_cand, q_cor, q_vn, q_vI, q_vR, q_vL, q_kI, q_kR, q_kL, q_ckI, envN, argE, List.flatMap_cons, List.flatMap_nil, Value.category, junk, oadd, osub, omul, oand, oor, oxor, odiv, orem, oshl, oshr, oushr, omax, omin]; simp) (by simp only [f_mkF, w_sI, w_sR, w_sL, w_sC, w_sk, w_sbr, w_sco, w_rV, w_rI, w_rR, w_rL, w_dI, w_sO, w_sq, w_si, w_pI, w_pZ, w_pR, w_pU, w_qI, w_qB, w_qZ, w_qU, w_qR, w_kV, q_icst, q_lcst, q_xR, q_ldI, q_ldR, q_ldL, q_bn, q_un, q_dv, q_fI, q_fR, q_aI, q_aR, q_aN, q_tn, q_cmp, q_cmz, q_cnt, q_ctt, q_cand, q_cor, q_vn, q_vI, q_vR, q_vL, q_kI, q_kR, q_kL, q_ckI, envN, argE, List.flatMap_cons, List.flatMap_nil, Value.category, junk, oadd, osub, omul, oand, oor, oxor, odiv, orem, oshl, oshr, oushr, omax, omin]; simp) (by simp only [f_mkF, w_sI, w_sR, w_sL, w_sC, w_sk, w_sbr, w_sco, w_rV, w_rI, w_rR, w_rL, w_dI, w_sO, w_sq, w_si, w_pI, w_pZ, w_pR, w_pU, w_qI, w_qB, w_qZ, w_qU, w_qR, w_kV, q_icst, q_lcst, q_xR, q_ldI, q_ldR, q_ldL, q_bn, q_un, q_dv, q_fI, q_fR, q_aI, q_aR, q_aN, q_tn, q_cmp, q_cmz, q_cnt, q_ctt, q_cand, q_cor, q_vn, q_vI, q_vR, q_vL, q_kI, q_kR, q_kL, q_ckI, envN, argE, List.flatMap_cons, List.flatMap_nil, Value.category, junk, oadd, osub, omul, oand, oor, oxor, odiv, orem, oshl, oshr, oushr, omax, omin]; simp) (by have := f1.1; omega) hL hjm hm ⟨rfl, rfl, f1.w rfl, fun k hk => ?_⟩
      rw [wI_i]
      by_cases hkj : k = j
      · rw [if_pos ⟨rfl, hkj⟩]
      · rw [if_neg (by omega)]; exact z1 k (by omega)
    · have : j = m := by omega
      subst this
      refine ev_F ?_ ⟨rfl, (fun z => by cases z), fun _ => ⟨fun _ => ?_, fun z => absurd rfl z⟩⟩
      · simp only [f_mkF, w_sI, w_sR, w_sL, w_sC, w_sk, w_sbr, w_sco, w_rV, w_rI, w_rR, w_rL, w_dI, w_sO, w_sq, w_si, w_pI, w_pZ, w_pR, w_pU, w_qI, w_qB, w_qZ, w_qU, w_qR, w_kV, q_icst, q_lcst, q_xR, q_ldI, q_ldR, q_ldL, q_bn, q_un, q_dv, q_fI, q_fR, q_aI, q_aR, q_aN, q_tn, q_cmp, q_cmz, q_cnt, q_ctt, q_cand, q_cor, q_vn, q_vI, q_vR, q_vL, q_kI, q_kR, q_kL, q_ckI, envN, argE, List.flatMap_cons, List.flatMap_nil, Value.category, junk, oadd, osub, omul, oand, oor, oxor, odiv, orem, oshl, oshr, oushr, omax, omin]
        simp (disch := first | omega | simp) [rk_i, rk_b, rk_o, st1, kill, Value.category, rcv, nog, inI_b, nI_clamp, nI_ltI, nI_leI, nI_eq, nI_9, nI_6, nI_22, nI_12, nI_180, nI_add, nI_1]
      rw [w_rV]
      exact Or.inl ⟨rfl, rfl, rfl, ⟨f1.1.trans hn, f1.2.1.trans q.2.1, q.2.2.1, fun x k hx => by rw [f1.2.2 x k (by omega)]; exact q.2.2.2 x k hx⟩, z1, fun x k z => f1.2.2 x k z⟩
  · rintro j E h1 - - ⟨rfl, f1, z1⟩
    exact ⟨rfl, by simp [st1, kill, Value.category], f1, z1⟩
