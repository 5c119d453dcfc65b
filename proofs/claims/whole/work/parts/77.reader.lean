/-! the class's reader: texts, steps -/
def txT (t : Nat) : List Nat := if t = 0 then [115, 103, 119, 102, 122, 121, 98, 97] else [107, 109, 110, 114, 101, 120, 118, 100, 106, 99, 108, 104, 111]
def ixT (t c : Nat) : Int32 := if (txT t).idxOf c < (txT t).length then nI ((txT t).idxOf c) else -1
theorem ixT_s : ∀ t, t < 2 → ∀ c, c < 256 → ∀ j, j < xL (1004 + t) → j ≤ (txT t).idxOf c → (((byS.getD t []).getD j 0 = oi2b (nI c)) ↔ (txT t).idxOf c = j) := by decide +kernel
theorem ixT_l : ∀ t, t < 2 → (txT t).length = xL (1004 + t) ∧ xL (1004 + t) < 20 := by decide +kernel
theorem ixT_b (t c : Nat) : (txT t).idxOf c ≤ (txT t).length := List.idxOf_le_length
theorem x_chr {t c : Nat} (ht : t < 2) (hc : c < 256) (h : Hp) : F_J1_indexOfChar_4cfef [.ref (1004 + t), .int (nI c), .int 0, .int (nI (xL (1004 + t)))] h = some (some (.int (ixT t c)), h) := by
  obtain ⟨l1, l2⟩ := ixT_l t ht
  have l3 := ixT_b t c
  have s1 := ixT_s t ht c hc
  have ix1 : (txT t).idxOf c < xL (1004 + t) → ixT t c = nI ((txT t).idxOf c) := fun z => by unfold ixT; rw [l1, if_pos z]
  have ix2 : ¬ (txT t).idxOf c < xL (1004 + t) → ixT t c = -1 := fun z => by unfold ixT; rw [l1, if_neg z]
  generalize ixT t c = X at *
  generalize (txT t).idxOf c = J at *
  rw [← fq_eq]
  unfold F_J1_indexOfChar_4cfef
  refine f_mkE [.ref (1004 + t), .int (nI c), .int 0, .int (nI (xL (1004 + t))), junk, junk] rfl (by simp [argE, Value.category]) ?_
  refine w_sqI (E' := [.ref (1004 + t), .int (nI c), .int 0, .int (nI (xL (1004 + t))), .int (oi2b (nI c)), junk]) (oi2b (nI c)) (by simp only [f_mkF, w_sI, w_sR, w_sL, w_sC, w_sk, w_sbr, w_sco, w_rV, w_rI, w_rR, w_rL, w_dI, w_sO, w_sq, w_si, w_pI, w_pZ, w_pR, w_pU, w_qI, w_qB, w_qZ, w_qU, w_qR, w_kV, q_icst, q_lcst, q_xR, q_ldI, q_ldR, q_ldL, q_bn, q_un, q_dv, q_fI, q_fR, q_aI, q_aR, q_aN, q_tn, q_cmp, q_cmz, q_cnt, q_ctt, q_cand, q_cor, q_vn, q_vI, q_vR, q_vL, q_kI, q_kR, q_kL, q_ckI, envN, argE, List.flatMap_cons, List.flatMap_nil, Value.category, junk, oadd, osub, omul, oand, oor, oxor, odiv, orem, oshl, oshr, oushr, omax, omin]; simp) rfl ?_
  refine w_sq.mpr (w_sqN ?_)
  refine w_sIe 0 (by simp only [f_mkF, w_sI, w_sR, w_sL, w_sC, w_sk, w_sbr, w_sco, w_rV, w_rI, w_rR, w_rL, w_dI, w_sO, w_sq, w_si, w_pI, w_pZ, w_pR, w_pU, w_qI, w_qB, w_qZ, w_qU, w_qR, w_kV, q_icst, q_lcst, q_xR, q_ldI, q_ldR, q_ldL, q_bn, q_un, q_dv, q_fI, q_fR, q_aI, q_aR, q_aN, q_tn, q_cmp, q_cmz, q_cnt, q_ctt, q_cand, q_cor, q_vn, q_vI, q_vR, q_vL, q_kI, q_kR, q_kL, q_ckI, envN, argE, List.flatMap_cons, List.flatMap_nil, Value.category, junk, oadd, osub, omul, oand, oor, oxor, odiv, orem, oshl, oshr, oushr, omax, omin]; simp) rfl ⟨rfl, ?_⟩
  refine w_lp (fun m E h' => ∃ j, m = xL (1004 + t) - j ∧ h' = h ∧ j ≤ J ∧ j ≤ xL (1004 + t) ∧ E = [.ref (1004 + t), .int (nI c), .int 0, .int (nI (xL (1004 + t))), .int (oi2b (nI c)), .int (nI j)]) ?_ (xL (1004 + t) - 0) _ _ ⟨0, rfl, rfl, by omega, by omega, rfl⟩
  rintro m E h' ⟨j, rfl, rfl, i1, j2, rfl⟩
  by_cases c1 : j < xL (1004 + t)
  · refine ev_T (by simp only [f_mkF, w_sI, w_sR, w_sL, w_sC, w_sk, w_sbr, w_sco, w_rV, w_rI, w_rR, w_rL, w_dI, w_sO, w_sq, w_si, w_pI, w_pZ, w_pR, w_pU, w_qI, w_qB, w_qZ, w_qU, w_qR, w_kV, q_icst, q_lcst, q_xR, q_ldI, q_ldR, q_ldL, q_bn, q_un, q_dv, q_fI, q_fR, q_aI, q_aR, q_aN, q_tn, q_cmp, q_cmz, q_cnt, q_ctt, q_cand, q_cor, q_vn, q_vI, q_vR, q_vL, q_kI, q_kR, q_kL, q_ckI, envN, argE, List.flatMap_cons, List.flatMap_nil, Value.category, junk, oadd, osub, omul, oand, oor, oxor, odiv, orem, oshl, oshr, oushr, omax, omin]; simp (disch := first | omega | simp) [rk_i, rk_b, rk_o, st1, kill, Value.category, rcv, nog, inI_b, nI_clamp, nI_ltI, nI_leI, nI_eq, nI_9, nI_6, nI_22, nI_12, nI_180, nI_add, nI_1, c1]) ⟨(fun z => by cases z), fun _ => ?_⟩
    have hx : ev (xB (ldR 0) (ldI 5)) [.ref (1004 + t), .int (nI c), .int 0, .int (nI (xL (1004 + t))), .int (oi2b (nI c)), .int (nI j)] h' fun x h1 => x = (byS.getD t []).getD j 0 ∧ h1 = h' := by
      have z1 : inI (nI j) (xL (1004 + t)) = true := by rw [inI_b (by omega)]; simp [c1]
      have z3 : (nI j).toNatClampNeg = j := nI_clamp (show j < 2 ^ 31 by omega)
      refine ⟨(byS.getD t []).getD j 0, h', ?_, rfl, rfl⟩
      simp [xB, ldR, ldI, z1, z3]
      omega
    by_cases c2 : J = j
    · have x1 := ix1 (by omega)
      refine (w_siT ?_).mpr ?_
      · rw [q_cnt, q_cmp]
        refine ev_mono hx ?_
        rintro x h1 ⟨rfl, rfl⟩
        have := (s1 j c1 i1).mpr c2
        rw [this]
        simp only [f_mkF, w_sI, w_sR, w_sL, w_sC, w_sk, w_sbr, w_sco, w_rV, w_rI, w_rR, w_rL, w_dI, w_sO, w_sq, w_si, w_pI, w_pZ, w_pR, w_pU, w_qI, w_qB, w_qZ, w_qU, w_qR, w_kV, q_icst, q_lcst, q_xR, q_ldI, q_ldR, q_ldL, q_bn, q_un, q_dv, q_fI, q_fR, q_aI, q_aR, q_aN, q_tn, q_cmp, q_cmz, q_cnt, q_ctt, q_cand, q_cor, q_vn, q_vI, q_vR, q_vL, q_kI, q_kR, q_kL, q_ckI, envN, argE, List.flatMap_cons, List.flatMap_nil, Value.category, junk, oadd, osub, omul, oand, oor, oxor, odiv, orem, oshl, oshr, oushr, omax, omin]
        simp
      · subst c2
        simp only [f_mkF, w_sI, w_sR, w_sL, w_sC, w_sk, w_sbr, w_sco, w_rV, w_rI, w_rR, w_rL, w_dI, w_sO, w_sq, w_si, w_pI, w_pZ, w_pR, w_pU, w_qI, w_qB, w_qZ, w_qU, w_qR, w_kV, q_icst, q_lcst, q_xR, q_ldI, q_ldR, q_ldL, q_bn, q_un, q_dv, q_fI, q_fR, q_aI, q_aR, q_aN, q_tn, q_cmp, q_cmz, q_cnt, q_ctt, q_cand, q_cor, q_vn, q_vI, q_vR, q_vL, q_kI, q_kR, q_kL, q_ckI, envN, argE, List.flatMap_cons, List.flatMap_nil, Value.category, junk, oadd, osub, omul, oand, oor, oxor, odiv, orem, oshl, oshr, oushr, omax, omin]
        simp [rk_i, rk_b, rk_o, st1, kill, Value.category, rcv, nog, x1]
    · refine (w_siF ?_).mpr ?_
      · rw [q_cnt, q_cmp]
        refine ev_mono hx ?_
        rintro x h1 ⟨rfl, rfl⟩
        have : ¬ (byS.getD t []).getD j 0 = oi2b (nI c) := fun z => c2 ((s1 j c1 i1).mp z)
        generalize (byS.getD t []).getD j 0 = Y at *
        simp only [f_mkF, w_sI, w_sR, w_sL, w_sC, w_sk, w_sbr, w_sco, w_rV, w_rI, w_rR, w_rL, w_dI, w_sO, w_sq, w_si, w_pI, w_pZ, w_pR, w_pU, w_qI, w_qB, w_qZ, w_qU, w_qR, w_kV, q_icst, q_lcst, q_xR, q_ldI, q_ldR, q_ldL, q_bn, q_un, q_dv, q_fI, q_fR, q_aI, q_aR, q_aN, q_tn, q_cmp, q_cmz, q_cnt, q_ctt, q_cand, q_cor, q_vn, q_vI, q_vR, q_vL, q_kI, q_kR, q_kL, q_ckI, envN, argE, List.flatMap_cons, List.flatMap_nil, Value.category, junk, oadd, osub, omul, oand, oor, oxor, odiv, orem, oshl, oshr, oushr, omax, omin]
        simp
        exact this
      · rw [w_sk]
        exact ⟨fun _ => w_sCe (nI j) (nI (j + 1)) rfl (nI_1 _) rfl ⟨rfl, xL (1004 + t) - (j + 1), by omega, j + 1, rfl, rfl, by omega, by omega, rfl⟩, (fun z => by cases z), fun z => absurd rfl z⟩
  · have c3 : xL (1004 + t) ≤ j := by omega
    refine ev_F (by simp only [f_mkF, w_sI, w_sR, w_sL, w_sC, w_sk, w_sbr, w_sco, w_rV, w_rI, w_rR, w_rL, w_dI, w_sO, w_sq, w_si, w_pI, w_pZ, w_pR, w_pU, w_qI, w_qB, w_qZ, w_qU, w_qR, w_kV, q_icst, q_lcst, q_xR, q_ldI, q_ldR, q_ldL, q_bn, q_un, q_dv, q_fI, q_fR, q_aI, q_aR, q_aN, q_tn, q_cmp, q_cmz, q_cnt, q_ctt, q_cand, q_cor, q_vn, q_vI, q_vR, q_vL, q_kI, q_kR, q_kL, q_ckI, envN, argE, List.flatMap_cons, List.flatMap_nil, Value.category, junk, oadd, osub, omul, oand, oor, oxor, odiv, orem, oshl, oshr, oushr, omax, omin]; simp (disch := first | omega | simp) [rk_i, rk_b, rk_o, st1, kill, Value.category, rcv, nog, inI_b, nI_clamp, nI_ltI, nI_leI, nI_eq, nI_9, nI_6, nI_22, nI_12, nI_180, nI_add, nI_1, c1, c3]) ⟨fun _ => ?_, fun z => by cases z⟩
    have x1 := ix2 (by omega)
    simp only [f_mkF, w_sI, w_sR, w_sL, w_sC, w_sk, w_sbr, w_sco, w_rV, w_rI, w_rR, w_rL, w_dI, w_sO, w_sq, w_si, w_pI, w_pZ, w_pR, w_pU, w_qI, w_qB, w_qZ, w_qU, w_qR, w_kV, q_icst, q_lcst, q_xR, q_ldI, q_ldR, q_ldL, q_bn, q_un, q_dv, q_fI, q_fR, q_aI, q_aR, q_aN, q_tn, q_cmp, q_cmz, q_cnt, q_ctt, q_cand, q_cor, q_vn, q_vI, q_vR, q_vL, q_kI, q_kR, q_kL, q_ckI, envN, argE, List.flatMap_cons, List.flatMap_nil, Value.category, junk, oadd, osub, omul, oand, oor, oxor, odiv, orem, oshl, oshr, oushr, omax, omin]
    simp [rk_i, rk_b, rk_o, st1, kill, Value.category, rcv, nog, x1]
theorem x_idx {t c : Nat} (ht : t < 2) (hc : c < 256) (h : Hp) : F_J0_indexOf_0f7a4 [.ref (1002 + t), .int (nI c)] h = some (some (.int (ixT t c)), h) := by
  have hi := x_chr ht hc h
  have t01 : t = 0 ∨ t = 1 := by omega
  have h1 : F_J1_canEncode_9a6ad [.int (nI c)] h = some (some (.int 1), h) := by
    have c1 : ¬ nI c < 0 := Int32.not_lt.mpr (nI_0le (by omega))
    have c2 : nI c ≤ 255 := (nI_leI (a := c) (b := 255) (by omega) (by omega)).mpr (by omega)
    have c3 : ¬ (255 : Int32) < nI c := Int32.not_lt.mpr c2
    rw [← fq_eq]
    unfold F_J1_canEncode_9a6ad
    refine f_mkE [.int (nI c)] rfl (by simp [argE, Value.category]) ?_
    simp only [f_mkF, w_sI, w_sR, w_sL, w_sC, w_sk, w_sbr, w_sco, w_rV, w_rI, w_rR, w_rL, w_dI, w_sO, w_sq, w_si, w_pI, w_pZ, w_pR, w_pU, w_qI, w_qB, w_qZ, w_qU, w_qR, w_kV, q_icst, q_lcst, q_xR, q_ldI, q_ldR, q_ldL, q_bn, q_un, q_dv, q_fI, q_fR, q_aI, q_aR, q_aN, q_tn, q_cmp, q_cmz, q_cnt, q_ctt, q_cand, q_cor, q_vn, q_vI, q_vR, q_vL, q_kI, q_kR, q_kL, q_ckI, envN, argE, List.flatMap_cons, List.flatMap_nil, Value.category, junk, oadd, osub, omul, oand, oor, oxor, odiv, orem, oshl, oshr, oushr, omax, omin]
    simp [rk_i, rk_b, rk_o, st1, kill, Value.category, rcv, nog, c1, c2, c3]
    exact nI_0le (by omega)
  have h2 : ∀ h : Hp, F_J0_isLatin1_aae02 [.ref (1002 + t)] h = some (some (.int 1), h) := by
    intro h
    rcases t01 with rfl | rfl <;> rfl
  have h2b : ∀ h : Hp, F_J0_coder_7d493 [.ref (1002 + t)] h = some (some (.int 0), h) := by
    intro h
    rcases t01 with rfl | rfl <;> rfl
  have sh0 : ∀ t, t < 2 → oshr (nI (xL (1004 + t))) 0 = nI (xL (1004 + t)) := by decide +kernel
  have z2 : (1002 + t = 1002 ∨ 1002 + t = 1003) := by omega
  have z4 : (1004 + t = 1004 ∨ 1004 + t = 1005) := by omega
  have rc : ∀ vs h, rcx (.ref (1002 + t) :: vs) h = true := fun vs h => by rcases t01 with rfl | rfl <;> rfl
  have h3 : ∀ h : Hp, F_J0_length_8abf5 [.ref (1002 + t)] h = some (some (.int (nI (xL (1004 + t)))), h) := by
    intro h
    rw [← fq_eq]
    unfold F_J0_length_8abf5
    refine f_mkE [.ref (1002 + t)] rfl (by simp [argE, Value.category]) ?_
    rw [w_rI, q_bn]
    refine ⟨nI (xL (1004 + t)), h, ?_, ?_⟩
    · rcases t01 with rfl | rfl <;> rfl
    · simp only [f_mkF, w_sI, w_sR, w_sL, w_sC, w_sk, w_sbr, w_sco, w_rV, w_rI, w_rR, w_rL, w_dI, w_sO, w_sq, w_si, w_pI, w_pZ, w_pR, w_pU, w_qI, w_qB, w_qZ, w_qU, w_qR, w_kV, q_icst, q_lcst, q_xR, q_ldI, q_ldR, q_ldL, q_bn, q_un, q_dv, q_fI, q_fR, q_aI, q_aR, q_aN, q_tn, q_cmp, q_cmz, q_cnt, q_ctt, q_cand, q_cor, q_vn, q_vI, q_vR, q_vL, q_kI, q_kR, q_kL, q_ckI, envN, argE, List.flatMap_cons, List.flatMap_nil, Value.category, junk, oadd, osub, omul, oand, oor, oxor, odiv, orem, oshl, oshr, oushr, omax, omin]
      simp [rk_i, rk_b, rk_o, st1, kill, Value.category, rcv, nog, rc, fq_of (h2b _)]

  obtain ⟨l1, l2⟩ := ixT_l t ht
  have h4 : F_J1_indexOf_4cfef [.ref (1004 + t), .int (nI c), .int 0, .int (nI (xL (1004 + t)))] h = some (some (.int (ixT t c)), h) := by
    rw [← fq_eq]
    unfold F_J1_indexOf_4cfef
    refine f_mkE [.ref (1004 + t), .int (nI c), .int 0, .int (nI (xL (1004 + t)))] rfl (by simp [argE, Value.category]) ?_
    refine w_sq.mpr ((w_siF (by simp only [f_mkF, w_sI, w_sR, w_sL, w_sC, w_sk, w_sbr, w_sco, w_rV, w_rI, w_rR, w_rL, w_dI, w_sO, w_sq, w_si, w_pI, w_pZ, w_pR, w_pU, w_qI, w_qB, w_qZ, w_qU, w_qR, w_kV, q_icst, q_lcst, q_xR, q_ldI, q_ldR, q_ldL, q_bn, q_un, q_dv, q_fI, q_fR, q_aI, q_aR, q_aN, q_tn, q_cmp, q_cmz, q_cnt, q_ctt, q_cand, q_cor, q_vn, q_vI, q_vR, q_vL, q_kI, q_kR, q_kL, q_ckI, envN, argE, List.flatMap_cons, List.flatMap_nil, Value.category, junk, oadd, osub, omul, oand, oor, oxor, odiv, orem, oshl, oshr, oushr, omax, omin]; simp (disch := first | omega | simp) [rk_i, rk_b, rk_o, st1, kill, Value.category, rcv, nog, fq_of h1])).mpr (w_sk2.mpr ?_))
    refine w_sqI (E' := [.ref (1004 + t), .int (nI c), .int 0, .int (nI (xL (1004 + t)))]) 0 (by simp only [f_mkF, w_sI, w_sR, w_sL, w_sC, w_sk, w_sbr, w_sco, w_rV, w_rI, w_rR, w_rL, w_dI, w_sO, w_sq, w_si, w_pI, w_pZ, w_pR, w_pU, w_qI, w_qB, w_qZ, w_qU, w_qR, w_kV, q_icst, q_lcst, q_xR, q_ldI, q_ldR, q_ldL, q_bn, q_un, q_dv, q_fI, q_fR, q_aI, q_aR, q_aN, q_tn, q_cmp, q_cmz, q_cnt, q_ctt, q_cand, q_cor, q_vn, q_vI, q_vR, q_vL, q_kI, q_kR, q_kL, q_ckI, envN, argE, List.flatMap_cons, List.flatMap_nil, Value.category, junk, oadd, osub, omul, oand, oor, oxor, odiv, orem, oshl, oshr, oushr, omax, omin]; simp) rfl ?_
    refine w_sqI (E' := [.ref (1004 + t), .int (nI c), .int 0, .int (nI (xL (1004 + t)))]) (nI (xL (1004 + t))) ?_ rfl ?_
    · rw [q_bn, q_ldI]
      refine ⟨_, rfl, ?_⟩
      refine ⟨nI (xL (1004 + t)), h, by rcases t01 with rfl | rfl <;> rfl, ?_, rfl⟩
      show omin (nI _) (nI _) = _
      rw [nI_mn _ (by omega) _ (by omega), Nat.min_self]
    · have c1 : (0 : Int32) < nI (xL (1004 + t)) := by
        rcases t01 with rfl | rfl <;> decide
      have c0 : ¬ (nI (xL (1004 + t)) ≤ 0) := Int32.not_le.mpr c1
      refine w_sq.mpr ((w_siF (by simp only [f_mkF, w_sI, w_sR, w_sL, w_sC, w_sk, w_sbr, w_sco, w_rV, w_rI, w_rR, w_rL, w_dI, w_sO, w_sq, w_si, w_pI, w_pZ, w_pR, w_pU, w_qI, w_qB, w_qZ, w_qU, w_qR, w_kV, q_icst, q_lcst, q_xR, q_ldI, q_ldR, q_ldL, q_bn, q_un, q_dv, q_fI, q_fR, q_aI, q_aR, q_aN, q_tn, q_cmp, q_cmz, q_cnt, q_ctt, q_cand, q_cor, q_vn, q_vI, q_vR, q_vL, q_kI, q_kR, q_kL, q_ckI, envN, argE, List.flatMap_cons, List.flatMap_nil, Value.category, junk, oadd, osub, omul, oand, oor, oxor, odiv, orem, oshl, oshr, oushr, omax, omin]; simp [rk_i, rk_b, rk_o, st1, kill, Value.category, rcv, nog, c0, c1])).mpr (w_sk2.mpr ?_))
      simp only [f_mkF, w_sI, w_sR, w_sL, w_sC, w_sk, w_sbr, w_sco, w_rV, w_rI, w_rR, w_rL, w_dI, w_sO, w_sq, w_si, w_pI, w_pZ, w_pR, w_pU, w_qI, w_qB, w_qZ, w_qU, w_qR, w_kV, q_icst, q_lcst, q_xR, q_ldI, q_ldR, q_ldL, q_bn, q_un, q_dv, q_fI, q_fR, q_aI, q_aR, q_aN, q_tn, q_cmp, q_cmz, q_cnt, q_ctt, q_cand, q_cor, q_vn, q_vI, q_vR, q_vL, q_kI, q_kR, q_kL, q_ckI, envN, argE, List.flatMap_cons, List.flatMap_nil, Value.category, junk, oadd, osub, omul, oand, oor, oxor, odiv, orem, oshl, oshr, oushr, omax, omin]
      simp [rk_i, rk_b, rk_o, st1, kill, Value.category, rcv, nog, fq_of hi]
  have h5 : F_J0_indexOf_7cf53 [.ref (1002 + t), .int (nI c), .int 0] h = some (some (.int (ixT t c)), h) := by
    rw [← fq_eq]
    unfold F_J0_indexOf_7cf53
    refine f_mkE [.ref (1002 + t), .int (nI c), .int 0] rfl (by simp [argE, Value.category]) ?_
    rw [w_rI, q_tn]
    refine ev_T (by simp only [f_mkF, w_sI, w_sR, w_sL, w_sC, w_sk, w_sbr, w_sco, w_rV, w_rI, w_rR, w_rL, w_dI, w_sO, w_sq, w_si, w_pI, w_pZ, w_pR, w_pU, w_qI, w_qB, w_qZ, w_qU, w_qR, w_kV, q_icst, q_lcst, q_xR, q_ldI, q_ldR, q_ldL, q_bn, q_un, q_dv, q_fI, q_fR, q_aI, q_aR, q_aN, q_tn, q_cmp, q_cmz, q_cnt, q_ctt, q_cand, q_cor, q_vn, q_vI, q_vR, q_vL, q_kI, q_kR, q_kL, q_ckI, envN, argE, List.flatMap_cons, List.flatMap_nil, Value.category, junk, oadd, osub, omul, oand, oor, oxor, odiv, orem, oshl, oshr, oushr, omax, omin]; simp [rk_i, rk_b, rk_o, st1, kill, Value.category, rcv, nog, rc, fq_of (h2 h)]) ⟨fun _ => ?_, fun z => by cases z⟩
    have hx : ev (xV (ldR 0)) [.ref (1002 + t), .int (nI c), .int 0] h fun x h1 => x = 1004 + t ∧ h1 = h := by
      refine ⟨1004 + t, h, ?_, rfl, rfl⟩
      rcases t01 with rfl | rfl <;> rfl
    rw [q_kI, q_vI, q_vI, q_vI, q_vR, q_vn]
    refine ev_mono hx ?_
    rintro x h1 ⟨rfl, rfl⟩
    simp only [f_mkF, w_sI, w_sR, w_sL, w_sC, w_sk, w_sbr, w_sco, w_rV, w_rI, w_rR, w_rL, w_dI, w_sO, w_sq, w_si, w_pI, w_pZ, w_pR, w_pU, w_qI, w_qB, w_qZ, w_qU, w_qR, w_kV, q_icst, q_lcst, q_xR, q_ldI, q_ldR, q_ldL, q_bn, q_un, q_dv, q_fI, q_fR, q_aI, q_aR, q_aN, q_tn, q_cmp, q_cmz, q_cnt, q_ctt, q_cand, q_cor, q_vn, q_vI, q_vR, q_vL, q_kI, q_kR, q_kL, q_ckI, envN, argE, List.flatMap_cons, List.flatMap_nil, Value.category, junk, oadd, osub, omul, oand, oor, oxor, odiv, orem, oshl, oshr, oushr, omax, omin]
    simp [rk_i, rk_b, rk_o, st1, kill, Value.category, rcv, nog, rc, fq_of (h3 _), fq_of h4]
  rw [← fq_eq]
  unfold F_J0_indexOf_0f7a4
  refine f_mkE [.ref (1002 + t), .int (nI c)] rfl (by simp [argE, Value.category]) ?_
  simp only [f_mkF, w_sI, w_sR, w_sL, w_sC, w_sk, w_sbr, w_sco, w_rV, w_rI, w_rR, w_rL, w_dI, w_sO, w_sq, w_si, w_pI, w_pZ, w_pR, w_pU, w_qI, w_qB, w_qZ, w_qU, w_qR, w_kV, q_icst, q_lcst, q_xR, q_ldI, q_ldR, q_ldL, q_bn, q_un, q_dv, q_fI, q_fR, q_aI, q_aR, q_aN, q_tn, q_cmp, q_cmz, q_cnt, q_ctt, q_cand, q_cor, q_vn, q_vI, q_vR, q_vL, q_kI, q_kR, q_kL, q_ckI, envN, argE, List.flatMap_cons, List.flatMap_nil, Value.category, junk, oadd, osub, omul, oand, oor, oxor, odiv, orem, oshl, oshr, oushr, omax, omin]
  simp [rk_i, rk_b, rk_o, st1, kill, Value.category, rcv, nog, rc, fq_of h5]
theorem law_y {la : Nat} (hA : lawA la) : (LY la).1 = 3 ∧ LY (la + 1) = (13, 160) ∧ LY (la + 2) = (13, 160) ∧ LY (la + 3) = (13, 12) ∧ LY (la + 4) = (13, 12) ∧ la + 4 < 146 ∧ 23 ≤ la := by
  rcases hA with rfl | rfl | rfl | rfl | rfl | rfl | rfl
  all_goals exact ⟨rfl, rfl, rfl, rfl, rfl, by omega, by omega⟩
/-- what the reader of sums and conditions writes: from step K on -/
def SCl (la K : Nat) (a k : Nat) : Prop := (a = 146 ∧ (k = 2 ∨ k = 3)) ∨ (a = la ∧ k = 4) ∨ ((a = la + 1 ∨ a = la + 2) ∧ K ≤ k)
theorem SCl.le {la K K' a k : Nat} (hk : K ≤ K') (h : SCl la K' a k) : SCl la K a k := by unfold SCl at *; omega
theorem Fr.sc {la K K' : Nat} {h h' : Hp} (f : Fr (SCl la K') h h') (hk : K ≤ K') : Fr (SCl la K) h h' := f.sub fun _ _ => SCl.le hk
theorem RX.c {s : Nat → Nat} {e la K : Nat} {h h' : Hp} (q : RX s e la h) (f : Fr (SCl la K) h h') : RX s e la h' := by
  obtain ⟨hn, ⟨p1, p2, p3⟩, p4, ⟨e1, e2⟩, hb, hs, hz⟩ := q
  obtain ⟨f1, f2, f3⟩ := f
  have hy := law_y p3
  refine ⟨f1.trans hn, by rw [f2]; exact ⟨p1, p2, p3⟩, by rw [f2]; exact p4, ⟨?_, e2⟩, fun p hp => ?_, hs, hz⟩
  · rw [f3 _ _ (by unfold SCl; omega)]; exact e1
  · rw [f3 _ _ (by unfold SCl; omega)]; exact hb p hp
theorem x_addL {s : Nat → Nat} {e la : Nat} {h : Hp} (q : RX s e la h) {K : Nat} (hK : h.2.1 la 4 = nI K) (hk : K < 160) (a b : Int32) : F_X3_add [.ref la, .int a, .int b] h = some (some (.int (nI K)), wI (wI (wI h (la + 1) K a) (la + 2) K b) la 4 (nI (K + 1))) := by
  obtain ⟨hn, ⟨p1, p2, p3⟩, ⟨r0, r1, -⟩, -⟩ := q
  obtain ⟨y0, y1, y2, -, -, yb, -⟩ := law_y p3
  have k160 : (160 : Int32) = nI 160 := rfl
  have a1 : la < 212 := by omega
  have a2 : la + 1 < 212 := by omega
  have a3 : la + 2 < 212 := by omega
  rw [← fq_eq]
  unfold F_X3_add
  refine f_mkE [.ref la, .int a, .int b] rfl (by simp [argE, Value.category]) ?_
  refine w_sqS (fun E1 h1 => E1 = [.ref la, .int a, .int b] ∧ h1 = wI (wI (wI h (la + 1) K a) (la + 2) K b) la 4 (nI (K + 1))) ?_ ?_
  · refine (w_siT (by simp only [f_mkF, w_sI, w_sR, w_sL, w_sC, w_sk, w_sbr, w_sco, w_rV, w_rI, w_rR, w_rL, w_dI, w_sO, w_sq, w_si, w_pI, w_pZ, w_pR, w_pU, w_qI, w_qB, w_qZ, w_qU, w_qR, w_kV, q_icst, q_lcst, q_xR, q_ldI, q_ldR, q_ldL, q_bn, q_un, q_dv, q_fI, q_fR, q_aI, q_aR, q_aN, q_tn, q_cmp, q_cmz, q_cnt, q_ctt, q_cand, q_cor, q_vn, q_vI, q_vR, q_vL, q_kI, q_kR, q_kL, q_ckI, envN, argE, List.flatMap_cons, List.flatMap_nil, Value.category, junk, oadd, osub, omul, oand, oor, oxor, odiv, orem, oshl, oshr, oushr, omax, omin]; simp (disch := first | omega | simp) [rk_i, rk_b, rk_o, st1, kill, Value.category, rcv, nog, inI_b, nI_clamp, nI_ltI, nI_leI, nI_eq, nI_9, nI_6, nI_22, nI_12, nI_180, nI_add, nI_1, hn, y0, a1, hK, k160, hk])).mpr ?_
    simp only [f_mkF, w_sI, w_sR, w_sL, w_sC, w_sk, w_sbr, w_sco, w_rV, w_rI, w_rR, w_rL, w_dI, w_sO, w_sq, w_si, w_pI, w_pZ, w_pR, w_pU, w_qI, w_qB, w_qZ, w_qU, w_qR, w_kV, q_icst, q_lcst, q_xR, q_ldI, q_ldR, q_ldL, q_bn, q_un, q_dv, q_fI, q_fR, q_aI, q_aR, q_aN, q_tn, q_cmp, q_cmz, q_cnt, q_ctt, q_cand, q_cor, q_vn, q_vI, q_vR, q_vL, q_kI, q_kR, q_kL, q_ckI, envN, argE, List.flatMap_cons, List.flatMap_nil, Value.category, junk, oadd, osub, omul, oand, oor, oxor, odiv, orem, oshl, oshr, oushr, omax, omin]
    simp (disch := first | omega | simp) [rk_i, rk_b, rk_o, st1, kill, Value.category, rcv, nog, inI_b, nI_clamp, nI_ltI, nI_leI, nI_eq, nI_9, nI_6, nI_22, nI_12, nI_180, nI_add, nI_1, hn, y0, y1, y2, a1, a2, a3, r0, r1, hK, hk, wI_i, wI_1, wI_r]
  · rintro E1 h1 ⟨rfl, rfl⟩
    simp only [f_mkF, w_sI, w_sR, w_sL, w_sC, w_sk, w_sbr, w_sco, w_rV, w_rI, w_rR, w_rL, w_dI, w_sO, w_sq, w_si, w_pI, w_pZ, w_pR, w_pU, w_qI, w_qB, w_qZ, w_qU, w_qR, w_kV, q_icst, q_lcst, q_xR, q_ldI, q_ldR, q_ldL, q_bn, q_un, q_dv, q_fI, q_fR, q_aI, q_aR, q_aN, q_tn, q_cmp, q_cmz, q_cnt, q_ctt, q_cand, q_cor, q_vn, q_vI, q_vR, q_vL, q_kI, q_kR, q_kL, q_ckI, envN, argE, List.flatMap_cons, List.flatMap_nil, Value.category, junk, oadd, osub, omul, oand, oor, oxor, odiv, orem, oshl, oshr, oushr, omax, omin]
    simp (disch := first | omega | simp) [rk_i, rk_b, rk_o, st1, kill, Value.category, rcv, nog, inI_b, nI_clamp, nI_ltI, nI_leI, nI_eq, nI_9, nI_6, nI_22, nI_12, nI_180, nI_add, nI_1, hn, y0, a1, nI_pred, wI_i, wI_1, wI_r]
theorem x_full {s : Nat → Nat} {e la : Nat} {h : Hp} (q : RX s e la h) (hK : h.2.1 la 4 = nI 160) (a b : Int32) : F_X3_add [.ref la, .int a, .int b] h = some (some (.int 159), h) := by
  obtain ⟨hn, ⟨p1, p2, p3⟩, ⟨r0, r1, -⟩, -⟩ := q
  obtain ⟨y0, y1, y2, -, -, yb, -⟩ := law_y p3
  have k160 : (160 : Int32) = nI 160 := rfl
  have a1 : la < 212 := by omega
  rw [← fq_eq]
  unfold F_X3_add
  refine f_mkE [.ref la, .int a, .int b] rfl (by simp [argE, Value.category]) ?_
  refine w_sq.mpr ((w_siF (by simp only [f_mkF, w_sI, w_sR, w_sL, w_sC, w_sk, w_sbr, w_sco, w_rV, w_rI, w_rR, w_rL, w_dI, w_sO, w_sq, w_si, w_pI, w_pZ, w_pR, w_pU, w_qI, w_qB, w_qZ, w_qU, w_qR, w_kV, q_icst, q_lcst, q_xR, q_ldI, q_ldR, q_ldL, q_bn, q_un, q_dv, q_fI, q_fR, q_aI, q_aR, q_aN, q_tn, q_cmp, q_cmz, q_cnt, q_ctt, q_cand, q_cor, q_vn, q_vI, q_vR, q_vL, q_kI, q_kR, q_kL, q_ckI, envN, argE, List.flatMap_cons, List.flatMap_nil, Value.category, junk, oadd, osub, omul, oand, oor, oxor, odiv, orem, oshl, oshr, oushr, omax, omin]; simp (disch := first | omega | simp) [rk_i, rk_b, rk_o, st1, kill, Value.category, rcv, nog, inI_b, nI_clamp, nI_ltI, nI_leI, nI_eq, nI_9, nI_6, nI_22, nI_12, nI_180, nI_add, nI_1, hn, y0, a1, hK, k160])).mpr (w_sk2.mpr ?_))
  simp only [f_mkF, w_sI, w_sR, w_sL, w_sC, w_sk, w_sbr, w_sco, w_rV, w_rI, w_rR, w_rL, w_dI, w_sO, w_sq, w_si, w_pI, w_pZ, w_pR, w_pU, w_qI, w_qB, w_qZ, w_qU, w_qR, w_kV, q_icst, q_lcst, q_xR, q_ldI, q_ldR, q_ldL, q_bn, q_un, q_dv, q_fI, q_fR, q_aI, q_aR, q_aN, q_tn, q_cmp, q_cmz, q_cnt, q_ctt, q_cand, q_cor, q_vn, q_vI, q_vR, q_vL, q_kI, q_kR, q_kL, q_ckI, envN, argE, List.flatMap_cons, List.flatMap_nil, Value.category, junk, oadd, osub, omul, oand, oor, oxor, odiv, orem, oshl, oshr, oushr, omax, omin]
  simp (disch := first | omega | simp) [rk_i, rk_b, rk_o, st1, kill, Value.category, rcv, nog, inI_b, nI_clamp, nI_ltI, nI_leI, nI_eq, nI_9, nI_6, nI_22, nI_12, nI_180, nI_add, nI_1, hn, y0, a1, hK]
  rfl
/-- a step more, whether there is room or not -/
theorem x_addF {s : Nat → Nat} {e la : Nat} {h : Hp} (q : RX s e la h) {K : Nat} (hK : h.2.1 la 4 = nI K) (hk : K ≤ 160) (a b : Int32) : fq F_X3_add [.ref la, .int a, .int b] h fun r h' => (∃ v, r = some (.int v)) ∧ Fr (fun x k => (x = la ∧ k = 4) ∨ ((x = la + 1 ∨ x = la + 2) ∧ K ≤ k)) h h' ∧ ∃ K', K ≤ K' ∧ K' ≤ 160 ∧ h'.2.1 la 4 = nI K' := by
  by_cases c : K < 160
  · rw [fq_of (x_addL q hK c a b)]
    refine ⟨⟨_, rfl⟩, (((Fr.refl h).w (by omega)).w (by omega)).w (by omega), K + 1, by omega, by omega, ?_⟩
    rw [wI_i, if_pos ⟨rfl, rfl⟩]
  · have : K = 160 := by omega
    subst this
    rw [fq_of (x_full q hK a b)]
    exact ⟨⟨_, rfl⟩, Fr.refl h, 160, by omega, by omega, hK⟩
