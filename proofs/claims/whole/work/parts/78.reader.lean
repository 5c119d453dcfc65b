/-! the class's reader: numbers, factors, chains -/
theorem x_isD {c : Nat} (hc : c < 256) (h : Hp) : F_X4_isDigit [.int (nI c)] h = some (some (.int (b2 (isD c = true))), h) := by
  have e1 : nI c < 48 ↔ c < 48 := nI_ltI (a := c) (b := 48) (by omega) (by omega)
  have e2 : (57 : Int32) < nI c ↔ 57 < c := nI_ltI (a := 57) (b := c) (by omega) (by omega)
  have e3 : isD c = true ↔ 48 ≤ c ∧ c ≤ 57 := by simp [isD]
  have e5 : (48 : Int32) ≤ nI c ↔ 48 ≤ c := nI_leI (a := 48) (b := c) (by omega) (by omega)
  have e6 : nI c ≤ 57 ↔ c ≤ 57 := nI_leI (a := c) (b := 57) (by omega) (by omega)
  rw [← fq_eq]
  unfold F_X4_isDigit
  refine f_mkE [.int (nI c)] rfl (by simp [argE, Value.category]) ?_
  by_cases c1 : c < 48
  · have : ¬ isD c = true := fun z => by have := e3.mp z; omega
    simp only [f_mkF, w_sI, w_sR, w_sL, w_sC, w_sk, w_sbr, w_sco, w_rV, w_rI, w_rR, w_rL, w_dI, w_sO, w_sq, w_si, w_pI, w_pZ, w_pR, w_pU, w_qI, w_qB, w_qZ, w_qU, w_qR, w_kV, q_icst, q_lcst, q_xR, q_ldI, q_ldR, q_ldL, q_bn, q_un, q_dv, q_fI, q_fR, q_aI, q_aR, q_aN, q_tn, q_cmp, q_cmz, q_cnt, q_ctt, q_cand, q_cor, q_vn, q_vI, q_vR, q_vL, q_kI, q_kR, q_kL, q_ckI, envN, argE, List.flatMap_cons, List.flatMap_nil, Value.category, junk, oadd, osub, omul, oand, oor, oxor, odiv, orem, oshl, oshr, oushr, omax, omin]
    simp [rk_i, rk_b, rk_o, st1, kill, Value.category, rcv, nog, e1, e2, e5, e6, b2, this]
    omega
  · by_cases c2 : 57 < c
    · have : ¬ isD c = true := fun z => by have := e3.mp z; omega
      simp only [f_mkF, w_sI, w_sR, w_sL, w_sC, w_sk, w_sbr, w_sco, w_rV, w_rI, w_rR, w_rL, w_dI, w_sO, w_sq, w_si, w_pI, w_pZ, w_pR, w_pU, w_qI, w_qB, w_qZ, w_qU, w_qR, w_kV, q_icst, q_lcst, q_xR, q_ldI, q_ldR, q_ldL, q_bn, q_un, q_dv, q_fI, q_fR, q_aI, q_aR, q_aN, q_tn, q_cmp, q_cmz, q_cnt, q_ctt, q_cand, q_cor, q_vn, q_vI, q_vR, q_vL, q_kI, q_kR, q_kL, q_ckI, envN, argE, List.flatMap_cons, List.flatMap_nil, Value.category, junk, oadd, osub, omul, oand, oor, oxor, odiv, orem, oshl, oshr, oushr, omax, omin]
      simp [rk_i, rk_b, rk_o, st1, kill, Value.category, rcv, nog, e1, e2, e5, e6, b2, this]
      omega
    · have : isD c = true := e3.mpr (by omega)
      simp only [f_mkF, w_sI, w_sR, w_sL, w_sC, w_sk, w_sbr, w_sco, w_rV, w_rI, w_rR, w_rL, w_dI, w_sO, w_sq, w_si, w_pI, w_pZ, w_pR, w_pU, w_qI, w_qB, w_qZ, w_qU, w_qR, w_kV, q_icst, q_lcst, q_xR, q_ldI, q_ldR, q_ldL, q_bn, q_un, q_dv, q_fI, q_fR, q_aI, q_aR, q_aN, q_tn, q_cmp, q_cmz, q_cnt, q_ctt, q_cand, q_cor, q_vn, q_vI, q_vR, q_vL, q_kI, q_kR, q_kL, q_ckI, envN, argE, List.flatMap_cons, List.flatMap_nil, Value.category, junk, oadd, osub, omul, oand, oor, oxor, odiv, orem, oshl, oshr, oushr, omax, omin]
      simp [rk_i, rk_b, rk_o, st1, kill, Value.category, rcv, nog, e1, e2, e5, e6, b2, this]
      omega
theorem isM_e {c : Nat} : isMul c = true ↔ c = 42 ∨ c = 47 ∨ c = 37 := by
  unfold isMul opP
  by_cases a : c = 43
  · subst a; decide
  · by_cases b : c = 45
    · subst b; decide
    · by_cases a1 : c = 42
      · subst a1; decide
      · by_cases a2 : c = 47
        · subst a2; decide
        · by_cases a3 : c = 37
          · subst a3; decide
          · simp [a, b, a1, a2, a3]
theorem isA_e {c : Nat} : isAdd c = true ↔ c = 43 ∨ c = 45 := by
  unfold isAdd opP
  by_cases a : c = 43
  · subst a; decide
  · by_cases b : c = 45
    · subst b; decide
    · by_cases a1 : c = 42
      · subst a1; decide
      · by_cases a2 : c = 47
        · subst a2; decide
        · by_cases a3 : c = 37
          · subst a3; decide
          · simp [a, b, a1, a2, a3]
theorem x_isM {c : Nat} (hc : c < 256) (h : Hp) : F_X4_isOfProduct [.int (nI c)] h = some (some (.int (b2 (isMul c = true))), h) := by
  have e1 : nI c = 42 ↔ c = 42 := nI_eq (a := c) (b := 42) (by omega) (by omega)
  have e2 : nI c = 47 ↔ c = 47 := nI_eq (a := c) (b := 47) (by omega) (by omega)
  have e3 : nI c = 37 ↔ c = 37 := nI_eq (a := c) (b := 37) (by omega) (by omega)
  have e4 := isM_e (c := c)
  rw [← fq_eq]
  unfold F_X4_isOfProduct
  refine f_mkE [.int (nI c)] rfl (by simp [argE, Value.category]) ?_
  by_cases c1 : c = 42
  · subst c1; simp only [f_mkF, w_sI, w_sR, w_sL, w_sC, w_sk, w_sbr, w_sco, w_rV, w_rI, w_rR, w_rL, w_dI, w_sO, w_sq, w_si, w_pI, w_pZ, w_pR, w_pU, w_qI, w_qB, w_qZ, w_qU, w_qR, w_kV, q_icst, q_lcst, q_xR, q_ldI, q_ldR, q_ldL, q_bn, q_un, q_dv, q_fI, q_fR, q_aI, q_aR, q_aN, q_tn, q_cmp, q_cmz, q_cnt, q_ctt, q_cand, q_cor, q_vn, q_vI, q_vR, q_vL, q_kI, q_kR, q_kL, q_ckI, envN, argE, List.flatMap_cons, List.flatMap_nil, Value.category, junk, oadd, osub, omul, oand, oor, oxor, odiv, orem, oshl, oshr, oushr, omax, omin]; simp [rk_i, rk_b, rk_o, st1, kill, Value.category, rcv, nog, b2]; decide
  · by_cases c2 : c = 47
    · subst c2; simp only [f_mkF, w_sI, w_sR, w_sL, w_sC, w_sk, w_sbr, w_sco, w_rV, w_rI, w_rR, w_rL, w_dI, w_sO, w_sq, w_si, w_pI, w_pZ, w_pR, w_pU, w_qI, w_qB, w_qZ, w_qU, w_qR, w_kV, q_icst, q_lcst, q_xR, q_ldI, q_ldR, q_ldL, q_bn, q_un, q_dv, q_fI, q_fR, q_aI, q_aR, q_aN, q_tn, q_cmp, q_cmz, q_cnt, q_ctt, q_cand, q_cor, q_vn, q_vI, q_vR, q_vL, q_kI, q_kR, q_kL, q_ckI, envN, argE, List.flatMap_cons, List.flatMap_nil, Value.category, junk, oadd, osub, omul, oand, oor, oxor, odiv, orem, oshl, oshr, oushr, omax, omin]; simp [rk_i, rk_b, rk_o, st1, kill, Value.category, rcv, nog, b2]; decide
    · by_cases c3 : c = 37
      · subst c3; simp only [f_mkF, w_sI, w_sR, w_sL, w_sC, w_sk, w_sbr, w_sco, w_rV, w_rI, w_rR, w_rL, w_dI, w_sO, w_sq, w_si, w_pI, w_pZ, w_pR, w_pU, w_qI, w_qB, w_qZ, w_qU, w_qR, w_kV, q_icst, q_lcst, q_xR, q_ldI, q_ldR, q_ldL, q_bn, q_un, q_dv, q_fI, q_fR, q_aI, q_aR, q_aN, q_tn, q_cmp, q_cmz, q_cnt, q_ctt, q_cand, q_cor, q_vn, q_vI, q_vR, q_vL, q_kI, q_kR, q_kL, q_ckI, envN, argE, List.flatMap_cons, List.flatMap_nil, Value.category, junk, oadd, osub, omul, oand, oor, oxor, odiv, orem, oshl, oshr, oushr, omax, omin]; simp [rk_i, rk_b, rk_o, st1, kill, Value.category, rcv, nog, b2]; decide
      · simp only [f_mkF, w_sI, w_sR, w_sL, w_sC, w_sk, w_sbr, w_sco, w_rV, w_rI, w_rR, w_rL, w_dI, w_sO, w_sq, w_si, w_pI, w_pZ, w_pR, w_pU, w_qI, w_qB, w_qZ, w_qU, w_qR, w_kV, q_icst, q_lcst, q_xR, q_ldI, q_ldR, q_ldL, q_bn, q_un, q_dv, q_fI, q_fR, q_aI, q_aR, q_aN, q_tn, q_cmp, q_cmz, q_cnt, q_ctt, q_cand, q_cor, q_vn, q_vI, q_vR, q_vL, q_kI, q_kR, q_kL, q_ckI, envN, argE, List.flatMap_cons, List.flatMap_nil, Value.category, junk, oadd, osub, omul, oand, oor, oxor, odiv, orem, oshl, oshr, oushr, omax, omin]; simp [rk_i, rk_b, rk_o, st1, kill, Value.category, rcv, nog, e1, e2, e3, c1, c2, c3, b2, e4]
/-- the codes C stand as the class's steps from K on, in clause c -/
def CC (h : Hp) (la K c : Nat) (C : List Cd) : Prop := ∀ i x, C[i]? = some x → h.2.1 (la + 1) (K + i) = cop x.1 ∧ (x.1 ≤ 1 → h.2.1 (la + 2) (K + i) = nI x.2.1) ∧ (11 ≤ x.1 → h.2.1 (la + 2) (K + i) = nI (x.2.2.1 + c))
theorem CC.nil {h : Hp} {la K c : Nat} : CC h la K c [] := fun i x e => by simp at e
theorem CC.app {h : Hp} {la K c : Nat} {C D : List Cd} (a : CC h la K c C) (b : CC h la (K + C.length) c D) : CC h la K c (C ++ D) := fun i x e => by
  by_cases hi : i < C.length
  · rw [List.getElem?_append_left hi] at e
    exact a i x e
  · rw [List.getElem?_append_right (by omega)] at e
    have := b _ x e
    rw [show K + C.length + (i - C.length) = K + i from by omega] at this
    exact this
theorem CC.one {h : Hp} {la K c : Nat} {x : Cd} (h1 : h.2.1 (la + 1) K = cop x.1) (h2 : x.1 ≤ 1 → h.2.1 (la + 2) K = nI x.2.1) (h3 : 11 ≤ x.1 → h.2.1 (la + 2) K = nI (x.2.2.1 + c)) : CC h la K c [x] := fun i y e => by
  cases i with
  | zero => simp at e; subst e; exact ⟨h1, h2, h3⟩
  | succ i => simp at e
theorem CC.c {h h' : Hp} {la K K2 c : Nat} {C : List Cd} (hA : lawA la) (a : CC h la K c C) (f : Fr (SCl la K2) h h') (hk : K + C.length ≤ K2) : CC h' la K c C := fun i x e => by
  have hi : i < C.length := by
    by_cases z : i < C.length
    · exact z
    · rw [List.getElem?_eq_none (by omega)] at e; cases e
  have hy := law_y hA
  obtain ⟨z1, z2, z3⟩ := a i x e
  rw [f.2.2 (la + 1) (K + i) (by unfold SCl; omega), f.2.2 (la + 2) (K + i) (by unfold SCl; omega)]
  exact ⟨z1, z2, z3⟩
/-- how a reading ends -/
def OC (e la c : Nat) (h : Hp) (K : Nat) (R : Rd) (h' : Hp) : Prop := Fr (SCl la K) h h' ∧ match R with
  | .ok (p', C) => h'.2.1 146 2 = nI p' ∧ h'.2.1 146 3 = 0 ∧ h'.2.1 la 4 = nI (K + C.length) ∧ CC h' la K c C
  | .error f => h'.2.1 146 3 = -(nI f) ∧ h'.2.1 146 3 ≠ 0 ∧ (∃ p', p' ≤ e ∧ h'.2.1 146 2 = nI p') ∧ ∃ K', K ≤ K' ∧ K' ≤ 160 ∧ h'.2.1 la 4 = nI K'
def SPd (s : Nat → Nat) (e la c : Nat) (G : FN) (dp : Nat) (F : Nat → Nat → Rd) : Prop := ∀ h p k, RX s e la h → h.2.1 146 2 = nI p → p ≤ e → h.2.1 146 3 = 0 → h.2.1 la 4 = nI (k + c) → k + c ≤ p → fq G [.ref 146, .int (nI dp)] h fun o h' => o = none ∧ OC e la c h (k + c) (F p k) h'
theorem flt_e (w p : Nat) : -1000 * nI w - nI p = -(nI (1000 * w + p)) := by
  rw [← nI_add, ← nI_mul, show nI 1000 = (1000 : Int32) from rfl, Int32.neg_mul, Int32.neg_add, Int32.sub_eq_add_neg]
theorem flt_n {f : Nat} (h0 : 0 < f) (h1 : f < 2 ^ 31) : -(nI f) ≠ 0 := by
  intro z
  have : nI f = 0 := by
    have z2 := congrArg (fun x => -x) z
    simpa using z2
  have := (nI_eq (a := f) (b := 0) (by omega) (by omega)).mp this
  omega
theorem OC_fail {e la c : Nat} {h h1 : Hp} {K K1 : Nat} (hA : lawA la) (f : Fr (SCl la K) h h1) {p w : Nat} (hp : h1.2.1 146 2 = nI p) (hpe : p ≤ e) (he : e ≤ 160) (hw : 0 < w) (hw2 : w < 10) (hK : h1.2.1 la 4 = nI K1) (k1 : K ≤ K1) (k2 : K1 ≤ 160) : OC e la c h K (.error (1000 * w + p)) (wI h1 146 3 (-1000 * nI w - nI p)) := by
  have hy := law_y hA
  refine ⟨f.w (by unfold SCl; omega), ?_, ?_, ⟨p, hpe, ?_⟩, K1, k1, k2, ?_⟩
  · rw [wI_i, if_pos ⟨rfl, rfl⟩, flt_e]
  · rw [wI_i, if_pos ⟨rfl, rfl⟩, flt_e]; exact flt_n (by omega) (by omega)
  · rw [wI_i, if_neg (by omega)]; exact hp
  · rw [wI_i, if_neg (by omega)]; exact hK
theorem nI_dig {v c : Nat} (hc : 48 ≤ c) : 10 * nI v + nI c - 48 = nI (10 * v + (c - 48)) := by
  rw [show (10 : Int32) = nI 10 from rfl, nI_mul, nI_add, show (48 : Int32) = nI 48 from rfl, nI_subc (by omega)]
  congr 1
  omega
theorem x_number {s : Nat → Nat} {e la c : Nat} {h : Hp} (q : RX s e la h) {p K : Nat} (hp : h.2.1 146 2 = nI p) (hpe : p < e) (hf : h.2.1 146 3 = 0) (hK : h.2.1 la 4 = nI K) (hk : K ≤ p) : fq F_X4_number [.ref 146] h fun o h' => o = none ∧ OC e la c h K (if isD (s (numP s 6 p 0).1) = true then .error (2000 + (numP s 6 p 0).1) else .ok ((numP s 6 p 0).1, [(0, (numP s 6 p 0).2, 0, 0)])) h' := by
  have hA := q.2.1.2.2
  have hy := law_y hA
  have he := q.2.2.2.1.2
  have hs := q.2.2.2.2.2.1
  have hz := q.2.2.2.2.2.2
  unfold F_X4_number
  refine f_mkE [.ref 146, junk, junk] rfl (by simp [argE, Value.category]) ?_
  refine w_sqI 0 (by simp only [f_mkF, w_sI, w_sR, w_sL, w_sC, w_sk, w_sbr, w_sco, w_rV, w_rI, w_rR, w_rL, w_dI, w_sO, w_sq, w_si, w_pI, w_pZ, w_pR, w_pU, w_qI, w_qB, w_qZ, w_qU, w_qR, w_kV, q_icst, q_lcst, q_xR, q_ldI, q_ldR, q_ldL, q_bn, q_un, q_dv, q_fI, q_fR, q_aI, q_aR, q_aN, q_tn, q_cmp, q_cmz, q_cnt, q_ctt, q_cand, q_cor, q_vn, q_vI, q_vR, q_vL, q_kI, q_kR, q_kL, q_ckI, envN, argE, List.flatMap_cons, List.flatMap_nil, Value.category, junk, oadd, osub, omul, oand, oor, oxor, odiv, orem, oshl, oshr, oushr, omax, omin]; simp) rfl ?_
  refine w_sqS (fun E1 h1 => ∃ pn vn v, numP s 6 p 0 = (pn, vn) ∧ pn ≤ e ∧ Fr (fun a k => a = 146 ∧ k = 2) h h1 ∧ h1.2.1 146 2 = nI pn ∧ E1 = [.ref 146, .int (nI vn), v]) ?_ ?_
  · refine w_sqN (w_sIe 0 (by simp only [f_mkF, w_sI, w_sR, w_sL, w_sC, w_sk, w_sbr, w_sco, w_rV, w_rI, w_rR, w_rL, w_dI, w_sO, w_sq, w_si, w_pI, w_pZ, w_pR, w_pU, w_qI, w_qB, w_qZ, w_qU, w_qR, w_kV, q_icst, q_lcst, q_xR, q_ldI, q_ldR, q_ldL, q_bn, q_un, q_dv, q_fI, q_fR, q_aI, q_aR, q_aN, q_tn, q_cmp, q_cmz, q_cnt, q_ctt, q_cand, q_cor, q_vn, q_vI, q_vR, q_vL, q_kI, q_kR, q_kL, q_ckI, envN, argE, List.flatMap_cons, List.flatMap_nil, Value.category, junk, oadd, osub, omul, oand, oor, oxor, odiv, orem, oshl, oshr, oushr, omax, omin]; simp) rfl ⟨rfl, ?_⟩)
    refine w_for (lo := 0) (hi := 6) (fun n E h' => ∃ pn vn, numP s (6 - n) pn vn = numP s 6 p 0 ∧ pn ≤ e ∧ Fr (fun a k => a = 146 ∧ k = 2) h h' ∧ h'.2.1 146 2 = nI pn ∧ E = [.ref 146, .int (nI vn), .int (nI n)]) (fun n E h' => ∃ pn vn, numP s (6 - (n + 1)) pn vn = numP s 6 p 0 ∧ pn ≤ e ∧ Fr (fun a k => a = 146 ∧ k = 2) h h' ∧ h'.2.1 146 2 = nI pn ∧ E = [.ref 146, .int (nI vn), .int (nI n)]) (by omega) ⟨p, 0, rfl, by omega, Fr.refl h, hp, rfl⟩ ?_ ?_
    · rintro n E h' n1 n2 ⟨pn, vn, i1, i2, i3, i4, rfl⟩
      have q' : RX s e la h' := q.c (K := 0) (i3.sub fun a k z => by unfold SCl; omega)
      have hn := q'.1
      have e1 := x_sign q' i4 i2
      have e2 := x_isD (hs pn) h'
      by_cases c6 : n < 6
      · by_cases cd : isD (s pn) = true
        · have b1 : b2 (isD (s pn) = true) = 1 := b2_1.mpr cd
          rw [b1] at e2
          have k6 : (6 : Int32) = nI 6 := rfl
          refine ev_T (by simp only [f_mkF, w_sI, w_sR, w_sL, w_sC, w_sk, w_sbr, w_sco, w_rV, w_rI, w_rR, w_rL, w_dI, w_sO, w_sq, w_si, w_pI, w_pZ, w_pR, w_pU, w_qI, w_qB, w_qZ, w_qU, w_qR, w_kV, q_icst, q_lcst, q_xR, q_ldI, q_ldR, q_ldL, q_bn, q_un, q_dv, q_fI, q_fR, q_aI, q_aR, q_aN, q_tn, q_cmp, q_cmz, q_cnt, q_ctt, q_cand, q_cor, q_vn, q_vI, q_vR, q_vL, q_kI, q_kR, q_kL, q_ckI, envN, argE, List.flatMap_cons, List.flatMap_nil, Value.category, junk, oadd, osub, omul, oand, oor, oxor, odiv, orem, oshl, oshr, oushr, omax, omin]; simp (disch := first | omega | simp) [rk_i, rk_b, rk_o, st1, kill, Value.category, rcv, nog, inI_b, nI_clamp, nI_ltI, nI_leI, nI_eq, nI_9, nI_6, nI_22, nI_12, nI_180, nI_add, nI_1, hn, ly146, k6, c6, fq_of e1, fq_of e2]) ⟨rfl, fun _ => ⟨c6, ?_⟩, fun z => by cases z⟩
          have d48 : 48 ≤ s pn := by simp [isD] at cd; omega
          have hlt : pn < e := lt_e hz (by omega)
          refine w_sqI (nI (10 * vn + (s pn - 48))) (by simp only [f_mkF, w_sI, w_sR, w_sL, w_sC, w_sk, w_sbr, w_sco, w_rV, w_rI, w_rR, w_rL, w_dI, w_sO, w_sq, w_si, w_pI, w_pZ, w_pR, w_pU, w_qI, w_qB, w_qZ, w_qU, w_qR, w_kV, q_icst, q_lcst, q_xR, q_ldI, q_ldR, q_ldL, q_bn, q_un, q_dv, q_fI, q_fR, q_aI, q_aR, q_aN, q_tn, q_cmp, q_cmz, q_cnt, q_ctt, q_cand, q_cor, q_vn, q_vI, q_vR, q_vL, q_kI, q_kR, q_kL, q_ckI, envN, argE, List.flatMap_cons, List.flatMap_nil, Value.category, junk, oadd, osub, omul, oand, oor, oxor, odiv, orem, oshl, oshr, oushr, omax, omin]; simp (disch := first | omega | simp) [rk_i, rk_b, rk_o, st1, kill, Value.category, rcv, nog, hn, ly146, fq_of e1, nI_dig d48]) rfl ?_
          simp only [f_mkF, w_sI, w_sR, w_sL, w_sC, w_sk, w_sbr, w_sco, w_rV, w_rI, w_rR, w_rL, w_dI, w_sO, w_sq, w_si, w_pI, w_pZ, w_pR, w_pU, w_qI, w_qB, w_qZ, w_qU, w_qR, w_kV, q_icst, q_lcst, q_xR, q_ldI, q_ldR, q_ldL, q_bn, q_un, q_dv, q_fI, q_fR, q_aI, q_aR, q_aN, q_tn, q_cmp, q_cmz, q_cnt, q_ctt, q_cand, q_cor, q_vn, q_vI, q_vR, q_vL, q_kI, q_kR, q_kL, q_ckI, envN, argE, List.flatMap_cons, List.flatMap_nil, Value.category, junk, oadd, osub, omul, oand, oor, oxor, odiv, orem, oshl, oshr, oushr, omax, omin]
          simp (disch := first | omega | simp) [rk_i, rk_b, rk_o, st1, kill, Value.category, rcv, nog, hn, ly146, i4, nI_1]
          refine ⟨pn + 1, 10 * vn + (s pn - 48), ?_, by omega, i3.w ⟨rfl, rfl⟩, rfl, rfl⟩
          rw [← i1, show 6 - n = 5 - n + 1 from by omega, numP, if_pos cd]
        · have b1 : b2 (isD (s pn) = true) = 0 := b2_0.mpr cd
          rw [b1] at e2
          have k6 : (6 : Int32) = nI 6 := rfl
          refine ev_F (by simp only [f_mkF, w_sI, w_sR, w_sL, w_sC, w_sk, w_sbr, w_sco, w_rV, w_rI, w_rR, w_rL, w_dI, w_sO, w_sq, w_si, w_pI, w_pZ, w_pR, w_pU, w_qI, w_qB, w_qZ, w_qU, w_qR, w_kV, q_icst, q_lcst, q_xR, q_ldI, q_ldR, q_ldL, q_bn, q_un, q_dv, q_fI, q_fR, q_aI, q_aR, q_aN, q_tn, q_cmp, q_cmz, q_cnt, q_ctt, q_cand, q_cor, q_vn, q_vI, q_vR, q_vL, q_kI, q_kR, q_kL, q_ckI, envN, argE, List.flatMap_cons, List.flatMap_nil, Value.category, junk, oadd, osub, omul, oand, oor, oxor, odiv, orem, oshl, oshr, oushr, omax, omin]; simp (disch := first | omega | simp) [rk_i, rk_b, rk_o, st1, kill, Value.category, rcv, nog, inI_b, nI_clamp, nI_ltI, nI_leI, nI_eq, nI_9, nI_6, nI_22, nI_12, nI_180, nI_add, nI_1, hn, ly146, k6, c6, fq_of e1, fq_of e2]) ⟨rfl, (fun z => by cases z), fun _ => ⟨rfl, pn, vn, _, ?_, i2, i3, i4, rfl⟩⟩
          rw [← i1, show 6 - n = 6 - (n + 1) + 1 from by omega, numP, if_neg cd]
      · have k6 : (6 : Int32) = nI 6 := rfl
        refine ev_F (by simp only [f_mkF, w_sI, w_sR, w_sL, w_sC, w_sk, w_sbr, w_sco, w_rV, w_rI, w_rR, w_rL, w_dI, w_sO, w_sq, w_si, w_pI, w_pZ, w_pR, w_pU, w_qI, w_qB, w_qZ, w_qU, w_qR, w_kV, q_icst, q_lcst, q_xR, q_ldI, q_ldR, q_ldL, q_bn, q_un, q_dv, q_fI, q_fR, q_aI, q_aR, q_aN, q_tn, q_cmp, q_cmz, q_cnt, q_ctt, q_cand, q_cor, q_vn, q_vI, q_vR, q_vL, q_kI, q_kR, q_kL, q_ckI, envN, argE, List.flatMap_cons, List.flatMap_nil, Value.category, junk, oadd, osub, omul, oand, oor, oxor, odiv, orem, oshl, oshr, oushr, omax, omin]; simp (disch := first | omega | simp) [rk_i, rk_b, rk_o, st1, kill, Value.category, rcv, nog, inI_b, nI_clamp, nI_ltI, nI_leI, nI_eq, nI_9, nI_6, nI_22, nI_12, nI_180, nI_add, nI_1, hn, ly146, k6, c6]) ⟨rfl, (fun z => by cases z), fun _ => ⟨rfl, pn, vn, _, ?_, i2, i3, i4, rfl⟩⟩
        rw [← i1, show 6 - n = 0 from by omega, numP]
    · rintro n E h' n1 n2 ⟨pn, vn, i1, i2, i3, i4, rfl⟩
      exact ⟨rfl, pn, vn, i1, i2, i3, i4, rfl⟩
  · rintro E1 h1 ⟨pn, vn, v, i1, i2, i3, i4, rfl⟩
    have q' : RX s e la h1 := q.c (K := 0) (i3.sub fun a k z => by unfold SCl; omega)
    have hn := q'.1
    have r4 := q'.2.1.2.1
    have e1 := x_sign q' i4 i2
    have e2 := x_isD (hs pn) h1
    have f0 : h1.2.1 146 3 = 0 := (i3.2.2 146 3 (by omega)).trans hf
    have k0 : h1.2.1 la 4 = nI K := (i3.2.2 la 4 (by omega)).trans hK
    have yl := hy.1
    have yl2 : la < 212 := by omega
    rw [i1]
    by_cases cd : isD (s pn) = true
    · have b1 : b2 (isD (s pn) = true) = 1 := b2_1.mpr cd
      rw [b1] at e2
      rw [if_pos cd]
      have e3 : F_X4_fail [.ref 146, .int 2] h1 = _ := x_fail q' (w := 2) i4
      rw [if_pos f0] at e3
      refine w_sqS (fun E1 h2 => E1 = [.ref 146, .int (nI vn), v] ∧ h2 = wI h1 146 3 (-1000 * nI 2 - nI pn)) ?_ ?_
      · refine (w_siT (by simp only [f_mkF, w_sI, w_sR, w_sL, w_sC, w_sk, w_sbr, w_sco, w_rV, w_rI, w_rR, w_rL, w_dI, w_sO, w_sq, w_si, w_pI, w_pZ, w_pR, w_pU, w_qI, w_qB, w_qZ, w_qU, w_qR, w_kV, q_icst, q_lcst, q_xR, q_ldI, q_ldR, q_ldL, q_bn, q_un, q_dv, q_fI, q_fR, q_aI, q_aR, q_aN, q_tn, q_cmp, q_cmz, q_cnt, q_ctt, q_cand, q_cor, q_vn, q_vI, q_vR, q_vL, q_kI, q_kR, q_kL, q_ckI, envN, argE, List.flatMap_cons, List.flatMap_nil, Value.category, junk, oadd, osub, omul, oand, oor, oxor, odiv, orem, oshl, oshr, oushr, omax, omin]; simp (disch := first | omega | simp) [rk_i, rk_b, rk_o, st1, kill, Value.category, rcv, nog, inI_b, nI_clamp, nI_ltI, nI_leI, nI_eq, nI_9, nI_6, nI_22, nI_12, nI_180, nI_add, nI_1, hn, ly146, fq_of e1, fq_of e2])).mpr ?_
        simp only [f_mkF, w_sI, w_sR, w_sL, w_sC, w_sk, w_sbr, w_sco, w_rV, w_rI, w_rR, w_rL, w_dI, w_sO, w_sq, w_si, w_pI, w_pZ, w_pR, w_pU, w_qI, w_qB, w_qZ, w_qU, w_qR, w_kV, q_icst, q_lcst, q_xR, q_ldI, q_ldR, q_ldL, q_bn, q_un, q_dv, q_fI, q_fR, q_aI, q_aR, q_aN, q_tn, q_cmp, q_cmz, q_cnt, q_ctt, q_cand, q_cor, q_vn, q_vI, q_vR, q_vL, q_kI, q_kR, q_kL, q_ckI, envN, argE, List.flatMap_cons, List.flatMap_nil, Value.category, junk, oadd, osub, omul, oand, oor, oxor, odiv, orem, oshl, oshr, oushr, omax, omin]
        simp (disch := first | omega | simp) [rk_i, rk_b, rk_o, st1, kill, Value.category, rcv, nog, hn, ly146, fq_of e3]
      · rintro E1 h2 ⟨rfl, rfl⟩
        have o1 := OC_fail (e := e) (la := la) (c := c) (K := K) hA (i3.sub fun a k z => by unfold SCl; omega) i4 i2 he (w := 2) (by omega) (by omega) k0 (Nat.le_refl _) (by omega)
        have q2 := q.c o1.1
        have a1 := x_addF q2 (K := K) (by rw [wI_i, if_neg (by omega)]; exact k0) (by omega) 0 (nI vn)
        have r5 : (wI h1 146 3 (-1000 * nI 2 - nI pn)).2.2 146 4 = some la := r4
        refine w_sqS (fun E1 h3 => Fr (fun x k => (x = la ∧ k = 4) ∨ ((x = la + 1 ∨ x = la + 2) ∧ K ≤ k)) (wI h1 146 3 (-1000 * nI 2 - nI pn)) h3 ∧ ∃ K', K ≤ K' ∧ K' ≤ 160 ∧ h3.2.1 la 4 = nI K') ?_ ?_
        · rw [w_dI, q_kI]
          simp only [f_mkF, w_sI, w_sR, w_sL, w_sC, w_sk, w_sbr, w_sco, w_rV, w_rI, w_rR, w_rL, w_dI, w_sO, w_sq, w_si, w_pI, w_pZ, w_pR, w_pU, w_qI, w_qB, w_qZ, w_qU, w_qR, w_kV, q_icst, q_lcst, q_xR, q_ldI, q_ldR, q_ldL, q_bn, q_un, q_dv, q_fI, q_fR, q_aI, q_aR, q_aN, q_tn, q_cmp, q_cmz, q_cnt, q_ctt, q_cand, q_cor, q_vn, q_vI, q_vR, q_vL, q_kI, q_kR, q_kL, q_ckI, envN, argE, List.flatMap_cons, List.flatMap_nil, Value.category, junk, oadd, osub, omul, oand, oor, oxor, odiv, orem, oshl, oshr, oushr, omax, omin]
          simp (disch := first | omega | simp) [rk_i, rk_b, rk_o, st1, kill, Value.category, rcv, nog, hn, ly146, r5, r4, yl, yl2, wI_1, wI_r]
          refine fq_mono a1 ?_
          rintro r h3 ⟨⟨v3, rfl⟩, z2, z3⟩
          exact ⟨⟨v3, rfl⟩, z2, z3⟩
        · rintro E2 h3 ⟨z1, z2⟩
          rw [w_rV]
          refine Or.inl ⟨rfl, rfl, rfl, o1.1.trans (z1.sub fun a k z => by unfold SCl; omega), ?_⟩
          obtain ⟨-, o2, o3, ⟨p', o4, o5⟩, -⟩ := o1
          refine ⟨by rw [z1.2.2 146 3 (by omega)]; exact o2, by rw [z1.2.2 146 3 (by omega)]; exact o3, ⟨p', o4, by rw [z1.2.2 146 2 (by omega)]; exact o5⟩, z2⟩
    · have b1 : b2 (isD (s pn) = true) = 0 := b2_0.mpr cd
      rw [b1] at e2
      rw [if_neg cd]
      refine w_sq.mpr ((w_siF (by simp only [f_mkF, w_sI, w_sR, w_sL, w_sC, w_sk, w_sbr, w_sco, w_rV, w_rI, w_rR, w_rL, w_dI, w_sO, w_sq, w_si, w_pI, w_pZ, w_pR, w_pU, w_qI, w_qB, w_qZ, w_qU, w_qR, w_kV, q_icst, q_lcst, q_xR, q_ldI, q_ldR, q_ldL, q_bn, q_un, q_dv, q_fI, q_fR, q_aI, q_aR, q_aN, q_tn, q_cmp, q_cmz, q_cnt, q_ctt, q_cand, q_cor, q_vn, q_vI, q_vR, q_vL, q_kI, q_kR, q_kL, q_ckI, envN, argE, List.flatMap_cons, List.flatMap_nil, Value.category, junk, oadd, osub, omul, oand, oor, oxor, odiv, orem, oshl, oshr, oushr, omax, omin]; simp (disch := first | omega | simp) [rk_i, rk_b, rk_o, st1, kill, Value.category, rcv, nog, inI_b, nI_clamp, nI_ltI, nI_leI, nI_eq, nI_9, nI_6, nI_22, nI_12, nI_180, nI_add, nI_1, hn, ly146, fq_of e1, fq_of e2])).mpr (w_sk2.mpr ?_))
      have a1 := x_addL q' k0 (by omega) 0 (nI vn)
      simp only [f_mkF, w_sI, w_sR, w_sL, w_sC, w_sk, w_sbr, w_sco, w_rV, w_rI, w_rR, w_rL, w_dI, w_sO, w_sq, w_si, w_pI, w_pZ, w_pR, w_pU, w_qI, w_qB, w_qZ, w_qU, w_qR, w_kV, q_icst, q_lcst, q_xR, q_ldI, q_ldR, q_ldL, q_bn, q_un, q_dv, q_fI, q_fR, q_aI, q_aR, q_aN, q_tn, q_cmp, q_cmz, q_cnt, q_ctt, q_cand, q_cor, q_vn, q_vI, q_vR, q_vL, q_kI, q_kR, q_kL, q_ckI, envN, argE, List.flatMap_cons, List.flatMap_nil, Value.category, junk, oadd, osub, omul, oand, oor, oxor, odiv, orem, oshl, oshr, oushr, omax, omin]
      simp (disch := first | omega | simp) [rk_i, rk_b, rk_o, st1, kill, Value.category, rcv, nog, hn, ly146, r4, yl, yl2, fq_of a1]
      refine ⟨(((i3.sub fun a k z => by unfold SCl; omega).w (by unfold SCl; omega)).w (by unfold SCl; omega)).w (by unfold SCl; omega), ?_, ?_, ?_, CC.one ?_ (fun _ => ?_) (fun z => by simp at z)⟩
      · rw [wI_i, if_neg (by omega), wI_i, if_neg (by omega), wI_i, if_neg (by omega)]; exact i4
      · rw [wI_i, if_neg (by omega), wI_i, if_neg (by omega), wI_i, if_neg (by omega)]; exact f0
      · rw [wI_i, if_pos ⟨rfl, rfl⟩]; rfl
      · rw [wI_i, if_neg (by omega), wI_i, if_neg (by omega), wI_i, if_pos ⟨rfl, rfl⟩]; rfl
      · rw [wI_i, if_neg (by omega), wI_i, if_pos ⟨rfl, rfl⟩]
