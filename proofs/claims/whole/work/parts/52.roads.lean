/-! roads: both reckon the cheapest ways -/
theorem ptRd {h : Hp} (hp : Ip h) {a : Nat} (ha : a < 6) : h.2.2 15 a = some (16 + a) ∧ LY (16 + a) = (13, 6) := by
  match a, ha with
  | 0, _ => exact ⟨hp.2.1.at 24 rfl, rfl⟩
  | 1, _ => exact ⟨hp.2.1.at 25 rfl, rfl⟩
  | 2, _ => exact ⟨hp.2.1.at 26 rfl, rfl⟩
  | 3, _ => exact ⟨hp.2.1.at 27 rfl, rfl⟩
  | 4, _ => exact ⟨hp.2.1.at 28 rfl, rfl⟩
  | 5, _ => exact ⟨hp.2.1.at 29 rfl, rfl⟩
def Cx (h : Hp) : Nat → Nat → Int32 := fun a b => h.2.1 (16 + a) b
theorem wI_upd {h : Hp} {A b : Nat} {v : Int32} : (wI h A b v).2.1 A = updD (h.2.1 A) b v := by
  funext l
  rw [wI_i]
  unfold updD
  by_cases z : l = b
  · rw [if_pos ⟨rfl, z⟩, if_pos z]
  · rw [if_neg (fun y => z y.2), if_neg z]
theorem x_goOn {h : Hp} (hp : Ip h) {a b : Nat} (ha : a < 6) (hb : b < 6) : fq F_X7_goOn [.ref 14, .int (nI a), .int (nI b)] h fun r h' => r = none ∧ Fr (fun x _ => x = 22) h h' ∧ h'.2.1 22 = rlx (Cx h) (h.2.1 22) a b := by
  have hn := hp.1
  have p0 : h.2.2 14 0 = some 15 := hp.2.1.at 22 rfl
  have p1 : h.2.2 14 1 = some 22 := hp.2.1.at 23 rfl
  obtain ⟨pa, la⟩ := ptRd hp ha
  have ha' : 16 + a < 212 := by omega
  have la1 : (LY (16 + a)).1 = 13 := by rw [la]
  have la2 : (LY (16 + a)).2 = 6 := by rw [la]
  have hCe : Cx h a b = h.2.1 (16 + a) b := rfl
  unfold rlx
  rw [hCe]
  unfold F_X7_goOn
  refine f_mkE [.ref 14, .int (nI a), .int (nI b), junk] rfl (by simp [argE, Value.category]) ?_
  by_cases c1 : h.2.1 22 a = -1 ∨ h.2.1 (16 + a) b = -1
  · rw [if_pos c1]
    refine w_sq.mpr ((w_siT ?_).mpr ?_)
    · simp only [f_mkF, w_sI, w_sR, w_sL, w_sC, w_sk, w_sbr, w_sco, w_rV, w_rI, w_rR, w_rL, w_dI, w_sO, w_sq, w_si, w_pI, w_pZ, w_pR, w_pU, w_qI, w_qB, w_qZ, w_qU, w_qR, w_kV, q_icst, q_lcst, q_xR, q_ldI, q_ldR, q_ldL, q_bn, q_un, q_dv, q_fI, q_fR, q_aI, q_aR, q_aN, q_tn, q_cmp, q_cmz, q_cnt, q_ctt, q_cand, q_cor, q_vn, q_vI, q_vR, q_vL, q_kI, q_kR, q_kL, q_ckI, envN, argE, List.flatMap_cons, List.flatMap_nil, Value.category, junk, oadd, osub, omul, oand, oor, oxor, odiv, orem, oshl, oshr, oushr, omax, omin]
      simp (disch := first | omega | simp) [rk_i, rk_b, rk_o, st1, kill, Value.category, rcv, nog, inI_b, nI_clamp, nI_ltI, nI_leI, nI_eq, nI_9, nI_6, nI_22, nI_12, nI_180, nI_add, nI_1, hn, ly14, ly22, ly15, p0, p1, pa, la1, la2, ha', ha, hb]
      try grind
    · rw [w_rV]
      exact ⟨(fun z => by cases z), fun _ => Or.inl ⟨rfl, rfl, rfl, Fr.refl h, rfl⟩⟩
  · rw [if_neg c1]
    have c1a : ¬ h.2.1 22 a = -1 := fun z => c1 (Or.inl z)
    have c1b : ¬ h.2.1 (16 + a) b = -1 := fun z => c1 (Or.inr z)
    refine w_sq.mpr ((w_siF ?_).mpr (w_sk2.mpr ?_))
    · simp only [f_mkF, w_sI, w_sR, w_sL, w_sC, w_sk, w_sbr, w_sco, w_rV, w_rI, w_rR, w_rL, w_dI, w_sO, w_sq, w_si, w_pI, w_pZ, w_pR, w_pU, w_qI, w_qB, w_qZ, w_qU, w_qR, w_kV, q_icst, q_lcst, q_xR, q_ldI, q_ldR, q_ldL, q_bn, q_un, q_dv, q_fI, q_fR, q_aI, q_aR, q_aN, q_tn, q_cmp, q_cmz, q_cnt, q_ctt, q_cand, q_cor, q_vn, q_vI, q_vR, q_vL, q_kI, q_kR, q_kL, q_ckI, envN, argE, List.flatMap_cons, List.flatMap_nil, Value.category, junk, oadd, osub, omul, oand, oor, oxor, odiv, orem, oshl, oshr, oushr, omax, omin]
      simp (disch := first | omega | simp) [rk_i, rk_b, rk_o, st1, kill, Value.category, rcv, nog, inI_b, nI_clamp, nI_ltI, nI_leI, nI_eq, nI_9, nI_6, nI_22, nI_12, nI_180, nI_add, nI_1, hn, ly14, ly22, ly15, p0, p1, pa, la1, la2, ha', ha, hb, c1a, c1b]
    refine w_sqI (E' := [.ref 14, .int (nI a), .int (nI b), .int (h.2.1 22 a + h.2.1 (16 + a) b)]) (h.2.1 22 a + h.2.1 (16 + a) b) ?_ rfl ?_
    · simp only [f_mkF, w_sI, w_sR, w_sL, w_sC, w_sk, w_sbr, w_sco, w_rV, w_rI, w_rR, w_rL, w_dI, w_sO, w_sq, w_si, w_pI, w_pZ, w_pR, w_pU, w_qI, w_qB, w_qZ, w_qU, w_qR, w_kV, q_icst, q_lcst, q_xR, q_ldI, q_ldR, q_ldL, q_bn, q_un, q_dv, q_fI, q_fR, q_aI, q_aR, q_aN, q_tn, q_cmp, q_cmz, q_cnt, q_ctt, q_cand, q_cor, q_vn, q_vI, q_vR, q_vL, q_kI, q_kR, q_kL, q_ckI, envN, argE, List.flatMap_cons, List.flatMap_nil, Value.category, junk, oadd, osub, omul, oand, oor, oxor, odiv, orem, oshl, oshr, oushr, omax, omin]
      simp (disch := first | omega | simp) [rk_i, rk_b, rk_o, st1, kill, Value.category, rcv, nog, inI_b, nI_clamp, nI_ltI, nI_leI, nI_eq, nI_9, nI_6, nI_22, nI_12, nI_180, nI_add, nI_1, hn, ly14, ly22, ly15, p0, p1, pa, la1, la2, ha', ha, hb]
    by_cases c2 : h.2.1 22 b = -1 ∨ h.2.1 22 a + h.2.1 (16 + a) b < h.2.1 22 b
    · rw [if_pos c2]
      refine w_sq.mpr ((w_siT ?_).mpr ?_)
      · simp only [f_mkF, w_sI, w_sR, w_sL, w_sC, w_sk, w_sbr, w_sco, w_rV, w_rI, w_rR, w_rL, w_dI, w_sO, w_sq, w_si, w_pI, w_pZ, w_pR, w_pU, w_qI, w_qB, w_qZ, w_qU, w_qR, w_kV, q_icst, q_lcst, q_xR, q_ldI, q_ldR, q_ldL, q_bn, q_un, q_dv, q_fI, q_fR, q_aI, q_aR, q_aN, q_tn, q_cmp, q_cmz, q_cnt, q_ctt, q_cand, q_cor, q_vn, q_vI, q_vR, q_vL, q_kI, q_kR, q_kL, q_ckI, envN, argE, List.flatMap_cons, List.flatMap_nil, Value.category, junk, oadd, osub, omul, oand, oor, oxor, odiv, orem, oshl, oshr, oushr, omax, omin]
        simp (disch := first | omega | simp) [rk_i, rk_b, rk_o, st1, kill, Value.category, rcv, nog, inI_b, nI_clamp, nI_ltI, nI_leI, nI_eq, nI_9, nI_6, nI_22, nI_12, nI_180, nI_add, nI_1, hn, ly14, ly22, p1, hb]
        try grind
      · refine w_qIe 22 b (h.2.1 22 a + h.2.1 (16 + a) b) ?_ ?_ ?_ (by omega) rfl hb (by omega) ⟨fun _ => ?_, fun z => absurd rfl z⟩
        · simp only [f_mkF, w_sI, w_sR, w_sL, w_sC, w_sk, w_sbr, w_sco, w_rV, w_rI, w_rR, w_rL, w_dI, w_sO, w_sq, w_si, w_pI, w_pZ, w_pR, w_pU, w_qI, w_qB, w_qZ, w_qU, w_qR, w_kV, q_icst, q_lcst, q_xR, q_ldI, q_ldR, q_ldL, q_bn, q_un, q_dv, q_fI, q_fR, q_aI, q_aR, q_aN, q_tn, q_cmp, q_cmz, q_cnt, q_ctt, q_cand, q_cor, q_vn, q_vI, q_vR, q_vL, q_kI, q_kR, q_kL, q_ckI, envN, argE, List.flatMap_cons, List.flatMap_nil, Value.category, junk, oadd, osub, omul, oand, oor, oxor, odiv, orem, oshl, oshr, oushr, omax, omin]; simp [hn, ly14, p1]
        · simp only [f_mkF, w_sI, w_sR, w_sL, w_sC, w_sk, w_sbr, w_sco, w_rV, w_rI, w_rR, w_rL, w_dI, w_sO, w_sq, w_si, w_pI, w_pZ, w_pR, w_pU, w_qI, w_qB, w_qZ, w_qU, w_qR, w_kV, q_icst, q_lcst, q_xR, q_ldI, q_ldR, q_ldL, q_bn, q_un, q_dv, q_fI, q_fR, q_aI, q_aR, q_aN, q_tn, q_cmp, q_cmz, q_cnt, q_ctt, q_cand, q_cor, q_vn, q_vI, q_vR, q_vL, q_kI, q_kR, q_kL, q_ckI, envN, argE, List.flatMap_cons, List.flatMap_nil, Value.category, junk, oadd, osub, omul, oand, oor, oxor, odiv, orem, oshl, oshr, oushr, omax, omin]; simp
        · simp only [f_mkF, w_sI, w_sR, w_sL, w_sC, w_sk, w_sbr, w_sco, w_rV, w_rI, w_rR, w_rL, w_dI, w_sO, w_sq, w_si, w_pI, w_pZ, w_pR, w_pU, w_qI, w_qB, w_qZ, w_qU, w_qR, w_kV, q_icst, q_lcst, q_xR, q_ldI, q_ldR, q_ldL, q_bn, q_un, q_dv, q_fI, q_fR, q_aI, q_aR, q_aN, q_tn, q_cmp, q_cmz, q_cnt, q_ctt, q_cand, q_cor, q_vn, q_vI, q_vR, q_vL, q_kI, q_kR, q_kL, q_ckI, envN, argE, List.flatMap_cons, List.flatMap_nil, Value.category, junk, oadd, osub, omul, oand, oor, oxor, odiv, orem, oshl, oshr, oushr, omax, omin]; simp
        rw [w_rV]
        exact Or.inl ⟨rfl, rfl, rfl, (Fr.refl h).w rfl, wI_upd⟩
    · rw [if_neg c2]
      refine w_sq.mpr ((w_siF ?_).mpr (w_sk2.mpr ?_))
      · simp only [f_mkF, w_sI, w_sR, w_sL, w_sC, w_sk, w_sbr, w_sco, w_rV, w_rI, w_rR, w_rL, w_dI, w_sO, w_sq, w_si, w_pI, w_pZ, w_pR, w_pU, w_qI, w_qB, w_qZ, w_qU, w_qR, w_kV, q_icst, q_lcst, q_xR, q_ldI, q_ldR, q_ldL, q_bn, q_un, q_dv, q_fI, q_fR, q_aI, q_aR, q_aN, q_tn, q_cmp, q_cmz, q_cnt, q_ctt, q_cand, q_cor, q_vn, q_vI, q_vR, q_vL, q_kI, q_kR, q_kL, q_ckI, envN, argE, List.flatMap_cons, List.flatMap_nil, Value.category, junk, oadd, osub, omul, oand, oor, oxor, odiv, orem, oshl, oshr, oushr, omax, omin]
        simp (disch := first | omega | simp) [rk_i, rk_b, rk_o, st1, kill, Value.category, rcv, nog, inI_b, nI_clamp, nI_ltI, nI_leI, nI_eq, nI_9, nI_6, nI_22, nI_12, nI_180, nI_add, nI_1, hn, ly14, ly22, p1, hb]
        try grind
      · rw [w_rV]
        exact Or.inl ⟨rfl, rfl, rfl, Fr.refl h, rfl⟩
theorem fr0_of {h : Hp} {f : Nat} (e : ∀ k, k < 6 → h.2.1 22 k = fr0 f k) : True := trivial
/-- what is alike of six lands -/
def eq6 (D D' : Nat → Int32) : Prop := ∀ l, l < 6 → D l = D' l
theorem rlx_6 {C C' : Nat → Nat → Int32} (hC : ∀ a b, a < 6 → b < 6 → C a b = C' a b) {D D' : Nat → Int32} (h : eq6 D D') {a b : Nat} (ha : a < 6) (hb : b < 6) : eq6 (rlx C D a b) (rlx C' D' a b) := by
  unfold rlx
  rw [h a ha, h b hb, hC a b ha hb]
  by_cases c1 : D' a = -1 ∨ C' a b = -1
  · rw [if_pos c1, if_pos c1]; exact h
  · rw [if_neg c1, if_neg c1]
    by_cases c2 : D' b = -1 ∨ D' a + C' a b < D' b
    · rw [if_pos c2, if_pos c2]
      intro l hl
      unfold updD
      by_cases z : l = b
      · rw [if_pos z, if_pos z]
      · rw [if_neg z, if_neg z]; exact h l hl
    · rw [if_neg c2, if_neg c2]; exact h
theorem x_reckon {h : Hp} (hp : Ip h) {f : Nat} (hf : f < 6) {C : Nat → Nat → Int32} (hC : ∀ a b, a < 6 → b < 6 → h.2.1 (16 + a) b = C a b) : fq F_X7_reckonFrom [.ref 14, .int (nI f)] h fun r h' => r = none ∧ Fr (fun x _ => x = 22) h h' ∧ eq6 (h'.2.1 22) (rds C (fr0 f) 5) := by
  have hn := hp.1
  have p1 : h.2.2 14 1 = some 22 := hp.2.1.at 23 rfl
  unfold F_X7_reckonFrom
  refine f_mkE [.ref 14, .int (nI f), junk, junk, junk] rfl (by simp [argE, Value.category]) ?_
  refine w_fz fun B hB Cc hCc => ?_
  simp only [f_mkF, w_sI, w_sR, w_sL, w_sC, w_sk, w_sbr, w_sco, w_rV, w_rI, w_rR, w_rL, w_dI, w_sO, w_sq, w_si, w_pI, w_pZ, w_pR, w_pU, w_qI, w_qB, w_qZ, w_qU, w_qR, w_kV, q_icst, q_lcst, q_xR, q_ldI, q_ldR, q_ldL, q_bn, q_un, q_dv, q_fI, q_fR, q_aI, q_aR, q_aN, q_tn, q_cmp, q_cmz, q_cnt, q_ctt, q_cand, q_cor, q_vn, q_vI, q_vR, q_vL, q_kI, q_kR, q_kL, q_ckI, envN, argE, List.flatMap_cons, List.flatMap_nil, Value.category, junk, oadd, osub, omul, oand, oor, oxor, odiv, orem, oshl, oshr, oushr, omax, omin]
  simp (disch := first | omega | simp) [rk_i, rk_b, rk_o, st1, kill, Value.category, rcv, nog, inI_b, nI_clamp, nI_ltI, nI_leI, nI_eq, nI_9, nI_6, nI_22, nI_12, nI_180, nI_add, nI_1, hn, ly14, p1]
  refine fq_mono (x_fill hn (by omega : 22 < 212) rfl (by omega) (-1)) ?_
  rintro r h1 ⟨rfl, f1, e1⟩
  simp
  subst hB hCc
  have hn1 : h1.1 = 212 := f1.1.trans hn
  refine w_sqS (fun E1 h2 => E1 = [.ref 14, .int (nI f), junk, junk, junk] ∧ h2 = wI h1 22 f 0) (w_qIe 22 f 0 ?_ ?_ ?_ (by omega) rfl hf (by omega) ⟨rfl, rfl, rfl⟩) ?_
  · simp only [f_mkF, w_sI, w_sR, w_sL, w_sC, w_sk, w_sbr, w_sco, w_rV, w_rI, w_rR, w_rL, w_dI, w_sO, w_sq, w_si, w_pI, w_pZ, w_pR, w_pU, w_qI, w_qB, w_qZ, w_qU, w_qR, w_kV, q_icst, q_lcst, q_xR, q_ldI, q_ldR, q_ldL, q_bn, q_un, q_dv, q_fI, q_fR, q_aI, q_aR, q_aN, q_tn, q_cmp, q_cmz, q_cnt, q_ctt, q_cand, q_cor, q_vn, q_vI, q_vR, q_vL, q_kI, q_kR, q_kL, q_ckI, envN, argE, List.flatMap_cons, List.flatMap_nil, Value.category, junk, oadd, osub, omul, oand, oor, oxor, odiv, orem, oshl, oshr, oushr, omax, omin]; simp [hn1, ly14, f1.2.1, p1]
  · simp only [f_mkF, w_sI, w_sR, w_sL, w_sC, w_sk, w_sbr, w_sco, w_rV, w_rI, w_rR, w_rL, w_dI, w_sO, w_sq, w_si, w_pI, w_pZ, w_pR, w_pU, w_qI, w_qB, w_qZ, w_qU, w_qR, w_kV, q_icst, q_lcst, q_xR, q_ldI, q_ldR, q_ldL, q_bn, q_un, q_dv, q_fI, q_fR, q_aI, q_aR, q_aN, q_tn, q_cmp, q_cmz, q_cnt, q_ctt, q_cand, q_cor, q_vn, q_vI, q_vR, q_vL, q_kI, q_kR, q_kL, q_ckI, envN, argE, List.flatMap_cons, List.flatMap_nil, Value.category, junk, oadd, osub, omul, oand, oor, oxor, odiv, orem, oshl, oshr, oushr, omax, omin]; simp
  · simp only [f_mkF, w_sI, w_sR, w_sL, w_sC, w_sk, w_sbr, w_sco, w_rV, w_rI, w_rR, w_rL, w_dI, w_sO, w_sq, w_si, w_pI, w_pZ, w_pR, w_pU, w_qI, w_qB, w_qZ, w_qU, w_qR, w_kV, q_icst, q_lcst, q_xR, q_ldI, q_ldR, q_ldL, q_bn, q_un, q_dv, q_fI, q_fR, q_aI, q_aR, q_aN, q_tn, q_cmp, q_cmz, q_cnt, q_ctt, q_cand, q_cor, q_vn, q_vI, q_vR, q_vL, q_kI, q_kR, q_kL, q_ckI, envN, argE, List.flatMap_cons, List.flatMap_nil, Value.category, junk, oadd, osub, omul, oand, oor, oxor, odiv, orem, oshl, oshr, oushr, omax, omin]; simp
  rintro E1 h2 ⟨rfl, hh2⟩
  have f2 : Fr (fun x _ => x = 22) h h2 := by rw [hh2]; exact f1.w rfl
  have e2 : eq6 (h2.2.1 22) (fr0 f) := by
    intro l hl
    rw [hh2, wI_upd]
    unfold updD fr0
    by_cases z : l = f
    · rw [if_pos z, if_pos z]
    · rw [if_neg z, if_neg z]; exact e1 l hl
  clear hh2 e1
  have k6 : (6 : Int32) = nI 6 := rfl
  refine w_sq.mpr ?_
  refine w_sqI (E' := [.ref 14, .int (nI f), .int (nI 1), junk, junk]) (nI 1) (by simp only [f_mkF, w_sI, w_sR, w_sL, w_sC, w_sk, w_sbr, w_sco, w_rV, w_rI, w_rR, w_rL, w_dI, w_sO, w_sq, w_si, w_pI, w_pZ, w_pR, w_pU, w_qI, w_qB, w_qZ, w_qU, w_qR, w_kV, q_icst, q_lcst, q_xR, q_ldI, q_ldR, q_ldL, q_bn, q_un, q_dv, q_fI, q_fR, q_aI, q_aR, q_aN, q_tn, q_cmp, q_cmz, q_cnt, q_ctt, q_cand, q_cor, q_vn, q_vI, q_vR, q_vL, q_kI, q_kR, q_kL, q_ckI, envN, argE, List.flatMap_cons, List.flatMap_nil, Value.category, junk, oadd, osub, omul, oand, oor, oxor, odiv, orem, oshl, oshr, oushr, omax, omin]; simp [nI_one]) rfl ?_
  refine wp_mono (w_lp (Q := fun o _ _ h' => o = 0 ∧ Fr (fun x _ => x = 22) h h' ∧ eq6 (h'.2.1 22) (rds C (fr0 f) 5)) (fun k E h' => ∃ r v3 v4, k = 5 - r ∧ r ≤ 5 ∧ E = [.ref 14, .int (nI f), .int (nI (r + 1)), v3, v4] ∧ (v3.category = 1 ∧ v4.category = 1) ∧ Fr (fun x _ => x = 22) h h' ∧ eq6 (h'.2.1 22) (rds C (fr0 f) r)) ?_ 5 _ _ ⟨0, junk, junk, rfl, by omega, rfl, ⟨rfl, rfl⟩, f2, e2⟩) ?_
  · rintro k E h' ⟨r, v3, v4, rfl, hr, rfl, ⟨c3, c4⟩, f3, e3⟩
    by_cases hr5 : r < 5
    · refine ev_T ?_ ⟨fun z => (by cases z), fun _ => ?_⟩
      · simp only [f_mkF, w_sI, w_sR, w_sL, w_sC, w_sk, w_sbr, w_sco, w_rV, w_rI, w_rR, w_rL, w_dI, w_sO, w_sq, w_si, w_pI, w_pZ, w_pR, w_pU, w_qI, w_qB, w_qZ, w_qU, w_qR, w_kV, q_icst, q_lcst, q_xR, q_ldI, q_ldR, q_ldL, q_bn, q_un, q_dv, q_fI, q_fR, q_aI, q_aR, q_aN, q_tn, q_cmp, q_cmz, q_cnt, q_ctt, q_cand, q_cor, q_vn, q_vI, q_vR, q_vL, q_kI, q_kR, q_kL, q_ckI, envN, argE, List.flatMap_cons, List.flatMap_nil, Value.category, junk, oadd, osub, omul, oand, oor, oxor, odiv, orem, oshl, oshr, oushr, omax, omin]
        simp (disch := first | omega | simp) [rk_i, rk_b, rk_o, st1, kill, Value.category, rcv, nog, inI_b, nI_clamp, nI_ltI, nI_leI, nI_eq, nI_9, nI_6, nI_22, nI_12, nI_180, nI_add, nI_1, k6]
        omega
      refine w_sqI (E' := [.ref 14, .int (nI f), .int (nI (r + 1)), .int (nI 0), v4]) (nI 0) (by simp only [f_mkF, w_sI, w_sR, w_sL, w_sC, w_sk, w_sbr, w_sco, w_rV, w_rI, w_rR, w_rL, w_dI, w_sO, w_sq, w_si, w_pI, w_pZ, w_pR, w_pU, w_qI, w_qB, w_qZ, w_qU, w_qR, w_kV, q_icst, q_lcst, q_xR, q_ldI, q_ldR, q_ldL, q_bn, q_un, q_dv, q_fI, q_fR, q_aI, q_aR, q_aN, q_tn, q_cmp, q_cmz, q_cnt, q_ctt, q_cand, q_cor, q_vn, q_vI, q_vR, q_vL, q_kI, q_kR, q_kL, q_ckI, envN, argE, List.flatMap_cons, List.flatMap_nil, Value.category, junk, oadd, osub, omul, oand, oor, oxor, odiv, orem, oshl, oshr, oushr, omax, omin]; simp [nI_0]) (by simp [st1, kill, Value.category]) ?_
      refine wp_mono (w_lp (Q := fun o _ E1 h' => o = 0 ∧ (∃ v3 v4, E1 = [.ref 14, .int (nI f), .int (nI (r + 1)), v3, v4] ∧ v3.category = 1 ∧ v4.category = 1) ∧ Fr (fun x _ => x = 22) h h' ∧ eq6 (h'.2.1 22) (rlA C (rds C (fr0 f) r) 6)) (fun k E h' => ∃ a v4, k = 6 - a ∧ a ≤ 6 ∧ E = [.ref 14, .int (nI f), .int (nI (r + 1)), .int (nI a), v4] ∧ v4.category = 1 ∧ Fr (fun x _ => x = 22) h h' ∧ eq6 (h'.2.1 22) (rlA C (rds C (fr0 f) r) a)) ?_ 6 _ _ ⟨0, v4, rfl, by omega, rfl, c4, f3, e3⟩) ?_
      · rintro k E h' ⟨a, v4, rfl, ha, rfl, c4, f3, e3⟩
        by_cases ha6 : a < 6
        · refine ev_T ?_ ⟨fun z => (by cases z), fun _ => ?_⟩
          · simp only [f_mkF, w_sI, w_sR, w_sL, w_sC, w_sk, w_sbr, w_sco, w_rV, w_rI, w_rR, w_rL, w_dI, w_sO, w_sq, w_si, w_pI, w_pZ, w_pR, w_pU, w_qI, w_qB, w_qZ, w_qU, w_qR, w_kV, q_icst, q_lcst, q_xR, q_ldI, q_ldR, q_ldL, q_bn, q_un, q_dv, q_fI, q_fR, q_aI, q_aR, q_aN, q_tn, q_cmp, q_cmz, q_cnt, q_ctt, q_cand, q_cor, q_vn, q_vI, q_vR, q_vL, q_kI, q_kR, q_kL, q_ckI, envN, argE, List.flatMap_cons, List.flatMap_nil, Value.category, junk, oadd, osub, omul, oand, oor, oxor, odiv, orem, oshl, oshr, oushr, omax, omin]
            simp (disch := first | omega | simp) [rk_i, rk_b, rk_o, st1, kill, Value.category, rcv, nog, inI_b, nI_clamp, nI_ltI, nI_leI, nI_eq, nI_9, nI_6, nI_22, nI_12, nI_180, nI_add, nI_1, k6, ha6]
          refine w_sqI (E' := [.ref 14, .int (nI f), .int (nI (r + 1)), .int (nI a), .int (nI 0)]) (nI 0) (by simp only [f_mkF, w_sI, w_sR, w_sL, w_sC, w_sk, w_sbr, w_sco, w_rV, w_rI, w_rR, w_rL, w_dI, w_sO, w_sq, w_si, w_pI, w_pZ, w_pR, w_pU, w_qI, w_qB, w_qZ, w_qU, w_qR, w_kV, q_icst, q_lcst, q_xR, q_ldI, q_ldR, q_ldL, q_bn, q_un, q_dv, q_fI, q_fR, q_aI, q_aR, q_aN, q_tn, q_cmp, q_cmz, q_cnt, q_ctt, q_cand, q_cor, q_vn, q_vI, q_vR, q_vL, q_kI, q_kR, q_kL, q_ckI, envN, argE, List.flatMap_cons, List.flatMap_nil, Value.category, junk, oadd, osub, omul, oand, oor, oxor, odiv, orem, oshl, oshr, oushr, omax, omin]; simp [nI_0]) (by simp [st1, kill, Value.category]) ?_
          refine wp_mono (w_lp (Q := fun o _ E1 h' => o = 0 ∧ (∃ v4, E1 = [.ref 14, .int (nI f), .int (nI (r + 1)), .int (nI a), v4] ∧ v4.category = 1) ∧ Fr (fun x _ => x = 22) h h' ∧ eq6 (h'.2.1 22) (rlB C (rlA C (rds C (fr0 f) r) a) a 6)) (fun k E h' => ∃ b, k = 6 - b ∧ b ≤ 6 ∧ E = [.ref 14, .int (nI f), .int (nI (r + 1)), .int (nI a), .int (nI b)] ∧ Fr (fun x _ => x = 22) h h' ∧ eq6 (h'.2.1 22) (rlB C (rlA C (rds C (fr0 f) r) a) a b)) ?_ 6 _ _ ⟨0, rfl, by omega, rfl, f3, e3⟩) ?_
          · rintro k E h' ⟨b, rfl, hb, rfl, f3, e3⟩
            by_cases hb6 : b < 6
            · refine ev_T ?_ ⟨fun z => (by cases z), fun _ => ?_⟩
              · simp only [f_mkF, w_sI, w_sR, w_sL, w_sC, w_sk, w_sbr, w_sco, w_rV, w_rI, w_rR, w_rL, w_dI, w_sO, w_sq, w_si, w_pI, w_pZ, w_pR, w_pU, w_qI, w_qB, w_qZ, w_qU, w_qR, w_kV, q_icst, q_lcst, q_xR, q_ldI, q_ldR, q_ldL, q_bn, q_un, q_dv, q_fI, q_fR, q_aI, q_aR, q_aN, q_tn, q_cmp, q_cmz, q_cnt, q_ctt, q_cand, q_cor, q_vn, q_vI, q_vR, q_vL, q_kI, q_kR, q_kL, q_ckI, envN, argE, List.flatMap_cons, List.flatMap_nil, Value.category, junk, oadd, osub, omul, oand, oor, oxor, odiv, orem, oshl, oshr, oushr, omax, omin]
                simp (disch := first | omega | simp) [rk_i, rk_b, rk_o, st1, kill, Value.category, rcv, nog, inI_b, nI_clamp, nI_ltI, nI_leI, nI_eq, nI_9, nI_6, nI_22, nI_12, nI_180, nI_add, nI_1, k6, hb6]
              have hp' := f3.ip hp
              have hn' := hp'.1
              refine w_kVe [.ref 14, .int (nI a), .int (nI b)] (by simp only [f_mkF, w_sI, w_sR, w_sL, w_sC, w_sk, w_sbr, w_sco, w_rV, w_rI, w_rR, w_rL, w_dI, w_sO, w_sq, w_si, w_pI, w_pZ, w_pR, w_pU, w_qI, w_qB, w_qZ, w_qU, w_qR, w_kV, q_icst, q_lcst, q_xR, q_ldI, q_ldR, q_ldL, q_bn, q_un, q_dv, q_fI, q_fR, q_aI, q_aR, q_aN, q_tn, q_cmp, q_cmz, q_cnt, q_ctt, q_cand, q_cor, q_vn, q_vI, q_vR, q_vL, q_kI, q_kR, q_kL, q_ckI, envN, argE, List.flatMap_cons, List.flatMap_nil, Value.category, junk, oadd, osub, omul, oand, oor, oxor, odiv, orem, oshl, oshr, oushr, omax, omin]; simp) (by simp [rcv, hn', ly14]) ?_
              refine fq_mono (x_goOn hp' ha6 hb6) ?_
              rintro r4 h4 ⟨rfl, f4, e4⟩
              refine ⟨rfl, fun _ => ?_, (fun z => by cases z), fun z => absurd rfl z⟩
              refine w_sCe (nI b) (nI (b + 1)) rfl (nI_1 _) rfl ⟨rfl, 6 - (b + 1), by omega, b + 1, rfl, by omega, rfl, f3.trans f4, ?_⟩
              rw [e4]
              refine rlx_6 (fun x y hx hy => ?_) e3 ha6 hb6
              rw [← hC x y hx hy]
              exact f3.2.2 _ _ (by omega)
            · have : b = 6 := by omega
              subst this
              refine ev_F ?_ ⟨fun _ => ⟨rfl, ⟨_, rfl, rfl⟩, f3, e3⟩, fun z => (by cases z)⟩
              simp only [f_mkF, w_sI, w_sR, w_sL, w_sC, w_sk, w_sbr, w_sco, w_rV, w_rI, w_rR, w_rL, w_dI, w_sO, w_sq, w_si, w_pI, w_pZ, w_pR, w_pU, w_qI, w_qB, w_qZ, w_qU, w_qR, w_kV, q_icst, q_lcst, q_xR, q_ldI, q_ldR, q_ldL, q_bn, q_un, q_dv, q_fI, q_fR, q_aI, q_aR, q_aN, q_tn, q_cmp, q_cmz, q_cnt, q_ctt, q_cand, q_cor, q_vn, q_vI, q_vR, q_vL, q_kI, q_kR, q_kL, q_ckI, envN, argE, List.flatMap_cons, List.flatMap_nil, Value.category, junk, oadd, osub, omul, oand, oor, oxor, odiv, orem, oshl, oshr, oushr, omax, omin]
              simp (disch := first | omega | simp) [rk_i, rk_b, rk_o, st1, kill, Value.category, rcv, nog, inI_b, nI_clamp, nI_ltI, nI_leI, nI_eq, nI_9, nI_6, nI_22, nI_12, nI_180, nI_add, nI_1, k6]
          · rintro o v E1 h5 ⟨rfl, ⟨v4, rfl, c4⟩, f5, e5⟩
            refine ⟨fun _ => ?_, (fun z => by cases z), fun z => absurd rfl z⟩
            refine w_sCe (nI a) (nI (a + 1)) rfl (nI_1 _) (by simp [st1, kill, Value.category]) ⟨rfl, 6 - (a + 1), by omega, a + 1, v4, rfl, by omega, rfl, c4, f5, e5⟩
        · have : a = 6 := by omega
          subst this
          refine ev_F ?_ ⟨fun _ => ⟨rfl, ⟨_, _, rfl, rfl, c4⟩, f3, e3⟩, fun z => (by cases z)⟩
          simp only [f_mkF, w_sI, w_sR, w_sL, w_sC, w_sk, w_sbr, w_sco, w_rV, w_rI, w_rR, w_rL, w_dI, w_sO, w_sq, w_si, w_pI, w_pZ, w_pR, w_pU, w_qI, w_qB, w_qZ, w_qU, w_qR, w_kV, q_icst, q_lcst, q_xR, q_ldI, q_ldR, q_ldL, q_bn, q_un, q_dv, q_fI, q_fR, q_aI, q_aR, q_aN, q_tn, q_cmp, q_cmz, q_cnt, q_ctt, q_cand, q_cor, q_vn, q_vI, q_vR, q_vL, q_kI, q_kR, q_kL, q_ckI, envN, argE, List.flatMap_cons, List.flatMap_nil, Value.category, junk, oadd, osub, omul, oand, oor, oxor, odiv, orem, oshl, oshr, oushr, omax, omin]
          simp (disch := first | omega | simp) [rk_i, rk_b, rk_o, st1, kill, Value.category, rcv, nog, inI_b, nI_clamp, nI_ltI, nI_leI, nI_eq, nI_9, nI_6, nI_22, nI_12, nI_180, nI_add, nI_1, k6]
      · rintro o v E1 h5 ⟨rfl, ⟨v3, v4, rfl, c3, c4⟩, f5, e5⟩
        refine ⟨fun _ => ?_, (fun z => by cases z), fun z => absurd rfl z⟩
        refine w_sCe (nI (r + 1)) (nI (r + 1 + 1)) rfl (nI_1 _) (by simp [st1, kill, Value.category]) ⟨rfl, 5 - (r + 1), by omega, r + 1, v3, v4, rfl, by omega, rfl, ⟨c3, c4⟩, f5, e5⟩
    · have : r = 5 := by omega
      subst this
      refine ev_F ?_ ⟨fun _ => ⟨rfl, f3, e3⟩, fun z => (by cases z)⟩
      simp only [f_mkF, w_sI, w_sR, w_sL, w_sC, w_sk, w_sbr, w_sco, w_rV, w_rI, w_rR, w_rL, w_dI, w_sO, w_sq, w_si, w_pI, w_pZ, w_pR, w_pU, w_qI, w_qB, w_qZ, w_qU, w_qR, w_kV, q_icst, q_lcst, q_xR, q_ldI, q_ldR, q_ldL, q_bn, q_un, q_dv, q_fI, q_fR, q_aI, q_aR, q_aN, q_tn, q_cmp, q_cmz, q_cnt, q_ctt, q_cand, q_cor, q_vn, q_vI, q_vR, q_vL, q_kI, q_kR, q_kL, q_ckI, envN, argE, List.flatMap_cons, List.flatMap_nil, Value.category, junk, oadd, osub, omul, oand, oor, oxor, odiv, orem, oshl, oshr, oushr, omax, omin]
      simp (disch := first | omega | simp) [rk_i, rk_b, rk_o, st1, kill, Value.category, rcv, nog, inI_b, nI_clamp, nI_ltI, nI_leI, nI_eq, nI_9, nI_6, nI_22, nI_12, nI_180, nI_add, nI_1, k6]
  · rintro o v E1 h5 ⟨rfl, f5, e5⟩
    refine ⟨fun _ => ?_, fun z => absurd rfl z⟩
    rw [w_rV]
    exact Or.inl ⟨rfl, rfl, rfl, f5, e5⟩
theorem m_goes {h : Hp} (hp : Ip h) {f : Nat} (hf : f < 6) {C : Nat → Nat → Int32} (hC : ∀ a b, a < 6 → b < 6 → h.2.1 182 (6 * a + b) = C a b) : fq F_X11_goes [.ref 166, .int (nI f)] h fun r h' => r = none ∧ Fr (fun x _ => x = 210) h h' ∧ eq6 (h'.2.1 210) (rds C (fr0 f) 6) := by
  have hn := hp.1
  have k6 : (6 : Int32) = nI 6 := rfl
  unfold F_X11_goes
  refine f_mkE [.ref 166, .int (nI f), junk, junk, junk, junk] rfl (by simp [argE, Value.category]) ?_
  refine w_sqS (fun E1 h2 => (∃ v2, E1 = [.ref 166, .int (nI f), v2, junk, junk, junk] ∧ v2.category = 1) ∧ Fr (fun x _ => x = 210) h h2 ∧ eq6 (h2.2.1 210) (fr0 f)) ?_ ?_
  · refine w_sqI (E' := [.ref 166, .int (nI f), .int (nI 0), junk, junk, junk]) (nI 0) (by simp only [f_mkF, w_sI, w_sR, w_sL, w_sC, w_sk, w_sbr, w_sco, w_rV, w_rI, w_rR, w_rL, w_dI, w_sO, w_sq, w_si, w_pI, w_pZ, w_pR, w_pU, w_qI, w_qB, w_qZ, w_qU, w_qR, w_kV, q_icst, q_lcst, q_xR, q_ldI, q_ldR, q_ldL, q_bn, q_un, q_dv, q_fI, q_fR, q_aI, q_aR, q_aN, q_tn, q_cmp, q_cmz, q_cnt, q_ctt, q_cand, q_cor, q_vn, q_vI, q_vR, q_vL, q_kI, q_kR, q_kL, q_ckI, envN, argE, List.flatMap_cons, List.flatMap_nil, Value.category, junk, oadd, osub, omul, oand, oor, oxor, odiv, orem, oshl, oshr, oushr, omax, omin]; simp [nI_0]) rfl ?_
    refine w_lp (fun k E h' => ∃ j, k = 6 - j ∧ j ≤ 6 ∧ E = [.ref 166, .int (nI f), .int (nI j), junk, junk, junk] ∧ Fr (fun x _ => x = 210) h h' ∧ ∀ l, l < j → h'.2.1 210 l = fr0 f l) ?_ 6 _ _ ⟨0, rfl, by omega, rfl, Fr.refl h, fun l hl => by omega⟩
    rintro k E h' ⟨j, rfl, hj, rfl, f1, e1⟩
    have hp' := f1.ip hp
    have hn' := hp'.1
    have hm' := hp'.2.2
    by_cases hj6 : j < 6
    · refine ev_T ?_ ⟨fun z => (by cases z), fun _ => ?_⟩
      · simp only [f_mkF, w_sI, w_sR, w_sL, w_sC, w_sk, w_sbr, w_sco, w_rV, w_rI, w_rR, w_rL, w_dI, w_sO, w_sq, w_si, w_pI, w_pZ, w_pR, w_pU, w_qI, w_qB, w_qZ, w_qU, w_qR, w_kV, q_icst, q_lcst, q_xR, q_ldI, q_ldR, q_ldL, q_bn, q_un, q_dv, q_fI, q_fR, q_aI, q_aR, q_aN, q_tn, q_cmp, q_cmz, q_cnt, q_ctt, q_cand, q_cor, q_vn, q_vI, q_vR, q_vL, q_kI, q_kR, q_kL, q_ckI, envN, argE, List.flatMap_cons, List.flatMap_nil, Value.category, junk, oadd, osub, omul, oand, oor, oxor, odiv, orem, oshl, oshr, oushr, omax, omin]
        simp (disch := first | omega | simp) [rk_i, rk_b, rk_o, st1, kill, Value.category, rcv, nog, inI_b, nI_clamp, nI_ltI, nI_leI, nI_eq, nI_9, nI_6, nI_22, nI_12, nI_180, nI_add, nI_1, k6, hj6]
      refine w_qIe 210 j (fr0 f j) ?_ ?_ ?_ (by omega) rfl hj6 (by omega) ⟨fun _ => ?_, (fun z => by cases z), fun z => absurd rfl z⟩
      · simp only [f_mkF, w_sI, w_sR, w_sL, w_sC, w_sk, w_sbr, w_sco, w_rV, w_rI, w_rR, w_rL, w_dI, w_sO, w_sq, w_si, w_pI, w_pZ, w_pR, w_pU, w_qI, w_qB, w_qZ, w_qU, w_qR, w_kV, q_icst, q_lcst, q_xR, q_ldI, q_ldR, q_ldL, q_bn, q_un, q_dv, q_fI, q_fR, q_aI, q_aR, q_aN, q_tn, q_cmp, q_cmz, q_cnt, q_ctt, q_cand, q_cor, q_vn, q_vI, q_vR, q_vL, q_kI, q_kR, q_kL, q_ckI, envN, argE, List.flatMap_cons, List.flatMap_nil, Value.category, junk, oadd, osub, omul, oand, oor, oxor, odiv, orem, oshl, oshr, oushr, omax, omin]; simp [hn', ly166, hm' 60, mp]
      · simp only [f_mkF, w_sI, w_sR, w_sL, w_sC, w_sk, w_sbr, w_sco, w_rV, w_rI, w_rR, w_rL, w_dI, w_sO, w_sq, w_si, w_pI, w_pZ, w_pR, w_pU, w_qI, w_qB, w_qZ, w_qU, w_qR, w_kV, q_icst, q_lcst, q_xR, q_ldI, q_ldR, q_ldL, q_bn, q_un, q_dv, q_fI, q_fR, q_aI, q_aR, q_aN, q_tn, q_cmp, q_cmz, q_cnt, q_ctt, q_cand, q_cor, q_vn, q_vI, q_vR, q_vL, q_kI, q_kR, q_kL, q_ckI, envN, argE, List.flatMap_cons, List.flatMap_nil, Value.category, junk, oadd, osub, omul, oand, oor, oxor, odiv, orem, oshl, oshr, oushr, omax, omin]; simp
      · simp only [f_mkF, w_sI, w_sR, w_sL, w_sC, w_sk, w_sbr, w_sco, w_rV, w_rI, w_rR, w_rL, w_dI, w_sO, w_sq, w_si, w_pI, w_pZ, w_pR, w_pU, w_qI, w_qB, w_qZ, w_qU, w_qR, w_kV, q_icst, q_lcst, q_xR, q_ldI, q_ldR, q_ldL, q_bn, q_un, q_dv, q_fI, q_fR, q_aI, q_aR, q_aN, q_tn, q_cmp, q_cmz, q_cnt, q_ctt, q_cand, q_cor, q_vn, q_vI, q_vR, q_vL, q_kI, q_kR, q_kL, q_ckI, envN, argE, List.flatMap_cons, List.flatMap_nil, Value.category, junk, oadd, osub, omul, oand, oor, oxor, odiv, orem, oshl, oshr, oushr, omax, omin]
        unfold fr0
        by_cases z : j = f <;> simp (disch := first | omega | simp) [rk_i, rk_b, rk_o, st1, kill, Value.category, rcv, nog, inI_b, nI_clamp, nI_ltI, nI_leI, nI_eq, nI_9, nI_6, nI_22, nI_12, nI_180, nI_add, nI_1, z]
      refine w_sCe (nI j) (nI (j + 1)) rfl (nI_1 _) rfl ⟨rfl, 6 - (j + 1), by omega, j + 1, rfl, by omega, rfl, f1.w rfl, fun l hl => ?_⟩
      rw [wI_i]
      by_cases z : l = j
      · rw [if_pos ⟨rfl, z⟩, z]
      · rw [if_neg (fun y => z y.2)]; exact e1 l (by omega)
    · have : j = 6 := by omega
      subst this
      refine ev_F ?_ ⟨fun _ => ⟨rfl, ⟨_, rfl, rfl⟩, f1, e1⟩, fun z => (by cases z)⟩
      simp only [f_mkF, w_sI, w_sR, w_sL, w_sC, w_sk, w_sbr, w_sco, w_rV, w_rI, w_rR, w_rL, w_dI, w_sO, w_sq, w_si, w_pI, w_pZ, w_pR, w_pU, w_qI, w_qB, w_qZ, w_qU, w_qR, w_kV, q_icst, q_lcst, q_xR, q_ldI, q_ldR, q_ldL, q_bn, q_un, q_dv, q_fI, q_fR, q_aI, q_aR, q_aN, q_tn, q_cmp, q_cmz, q_cnt, q_ctt, q_cand, q_cor, q_vn, q_vI, q_vR, q_vL, q_kI, q_kR, q_kL, q_ckI, envN, argE, List.flatMap_cons, List.flatMap_nil, Value.category, junk, oadd, osub, omul, oand, oor, oxor, odiv, orem, oshl, oshr, oushr, omax, omin]
      simp (disch := first | omega | simp) [rk_i, rk_b, rk_o, st1, kill, Value.category, rcv, nog, inI_b, nI_clamp, nI_ltI, nI_leI, nI_eq, nI_9, nI_6, nI_22, nI_12, nI_180, nI_add, nI_1, k6]
  rintro E1 h2 ⟨⟨v2, rfl, c2⟩, f2, e2⟩
  refine w_sq.mpr ?_
  refine w_sqI (E' := [.ref 166, .int (nI f), .int (nI 0), junk, junk, junk]) (nI 0) (by simp only [f_mkF, w_sI, w_sR, w_sL, w_sC, w_sk, w_sbr, w_sco, w_rV, w_rI, w_rR, w_rL, w_dI, w_sO, w_sq, w_si, w_pI, w_pZ, w_pR, w_pU, w_qI, w_qB, w_qZ, w_qU, w_qR, w_kV, q_icst, q_lcst, q_xR, q_ldI, q_ldR, q_ldL, q_bn, q_un, q_dv, q_fI, q_fR, q_aI, q_aR, q_aN, q_tn, q_cmp, q_cmz, q_cnt, q_ctt, q_cand, q_cor, q_vn, q_vI, q_vR, q_vL, q_kI, q_kR, q_kL, q_ckI, envN, argE, List.flatMap_cons, List.flatMap_nil, Value.category, junk, oadd, osub, omul, oand, oor, oxor, odiv, orem, oshl, oshr, oushr, omax, omin]; simp [nI_0]) (by simp [st1, kill, Value.category]) ?_
  refine wp_mono (w_lp (Q := fun o _ _ h' => o = 0 ∧ Fr (fun x _ => x = 210) h h' ∧ eq6 (h'.2.1 210) (rds C (fr0 f) 6)) (fun k E h' => ∃ r v3 v4 v5, k = 6 - r ∧ r ≤ 6 ∧ E = [.ref 166, .int (nI f), .int (nI r), v3, v4, v5] ∧ (v3.category = 1 ∧ v4.category = 1 ∧ v5.category = 1) ∧ Fr (fun x _ => x = 210) h h' ∧ eq6 (h'.2.1 210) (rds C (fr0 f) r)) ?_ 6 _ _ ⟨0, junk, junk, junk, rfl, by omega, rfl, ⟨rfl, rfl, rfl⟩, f2, e2⟩) ?_
  · rintro k E h' ⟨r, v3, v4, v5, rfl, hr, rfl, ⟨c3, c4, c5⟩, f3, e3⟩
    by_cases hr6 : r < 6
    · refine ev_T ?_ ⟨fun z => (by cases z), fun _ => ?_⟩
      · simp only [f_mkF, w_sI, w_sR, w_sL, w_sC, w_sk, w_sbr, w_sco, w_rV, w_rI, w_rR, w_rL, w_dI, w_sO, w_sq, w_si, w_pI, w_pZ, w_pR, w_pU, w_qI, w_qB, w_qZ, w_qU, w_qR, w_kV, q_icst, q_lcst, q_xR, q_ldI, q_ldR, q_ldL, q_bn, q_un, q_dv, q_fI, q_fR, q_aI, q_aR, q_aN, q_tn, q_cmp, q_cmz, q_cnt, q_ctt, q_cand, q_cor, q_vn, q_vI, q_vR, q_vL, q_kI, q_kR, q_kL, q_ckI, envN, argE, List.flatMap_cons, List.flatMap_nil, Value.category, junk, oadd, osub, omul, oand, oor, oxor, odiv, orem, oshl, oshr, oushr, omax, omin]
        simp (disch := first | omega | simp) [rk_i, rk_b, rk_o, st1, kill, Value.category, rcv, nog, inI_b, nI_clamp, nI_ltI, nI_leI, nI_eq, nI_9, nI_6, nI_22, nI_12, nI_180, nI_add, nI_1, k6, hr6]
      refine w_sqI (E' := [.ref 166, .int (nI f), .int (nI r), .int (nI 0), v4, v5]) (nI 0) (by simp only [f_mkF, w_sI, w_sR, w_sL, w_sC, w_sk, w_sbr, w_sco, w_rV, w_rI, w_rR, w_rL, w_dI, w_sO, w_sq, w_si, w_pI, w_pZ, w_pR, w_pU, w_qI, w_qB, w_qZ, w_qU, w_qR, w_kV, q_icst, q_lcst, q_xR, q_ldI, q_ldR, q_ldL, q_bn, q_un, q_dv, q_fI, q_fR, q_aI, q_aR, q_aN, q_tn, q_cmp, q_cmz, q_cnt, q_ctt, q_cand, q_cor, q_vn, q_vI, q_vR, q_vL, q_kI, q_kR, q_kL, q_ckI, envN, argE, List.flatMap_cons, List.flatMap_nil, Value.category, junk, oadd, osub, omul, oand, oor, oxor, odiv, orem, oshl, oshr, oushr, omax, omin]; simp [nI_0]) (by simp [st1, kill, Value.category]) ?_
      refine wp_mono (w_lp (Q := fun o _ E1 h' => o = 0 ∧ (∃ v3 v4 v5, E1 = [.ref 166, .int (nI f), .int (nI r), v3, v4, v5] ∧ v3.category = 1 ∧ v4.category = 1 ∧ v5.category = 1) ∧ Fr (fun x _ => x = 210) h h' ∧ eq6 (h'.2.1 210) (rlA C (rds C (fr0 f) r) 6)) (fun k E h' => ∃ a v4 v5, k = 6 - a ∧ a ≤ 6 ∧ E = [.ref 166, .int (nI f), .int (nI r), .int (nI a), v4, v5] ∧ (v4.category = 1 ∧ v5.category = 1) ∧ Fr (fun x _ => x = 210) h h' ∧ eq6 (h'.2.1 210) (rlA C (rds C (fr0 f) r) a)) ?_ 6 _ _ ⟨0, v4, v5, rfl, by omega, rfl, ⟨c4, c5⟩, f3, e3⟩) ?_
      · rintro k E h' ⟨a, v4, v5, rfl, ha, rfl, ⟨c4, c5⟩, f3, e3⟩
        by_cases ha6 : a < 6
        · refine ev_T ?_ ⟨fun z => (by cases z), fun _ => ?_⟩
          · simp only [f_mkF, w_sI, w_sR, w_sL, w_sC, w_sk, w_sbr, w_sco, w_rV, w_rI, w_rR, w_rL, w_dI, w_sO, w_sq, w_si, w_pI, w_pZ, w_pR, w_pU, w_qI, w_qB, w_qZ, w_qU, w_qR, w_kV, q_icst, q_lcst, q_xR, q_ldI, q_ldR, q_ldL, q_bn, q_un, q_dv, q_fI, q_fR, q_aI, q_aR, q_aN, q_tn, q_cmp, q_cmz, q_cnt, q_ctt, q_cand, q_cor, q_vn, q_vI, q_vR, q_vL, q_kI, q_kR, q_kL, q_ckI, envN, argE, List.flatMap_cons, List.flatMap_nil, Value.category, junk, oadd, osub, omul, oand, oor, oxor, odiv, orem, oshl, oshr, oushr, omax, omin]
            simp (disch := first | omega | simp) [rk_i, rk_b, rk_o, st1, kill, Value.category, rcv, nog, inI_b, nI_clamp, nI_ltI, nI_leI, nI_eq, nI_9, nI_6, nI_22, nI_12, nI_180, nI_add, nI_1, k6, ha6]
          refine w_sqI (E' := [.ref 166, .int (nI f), .int (nI r), .int (nI a), .int (nI 0), v5]) (nI 0) (by simp only [f_mkF, w_sI, w_sR, w_sL, w_sC, w_sk, w_sbr, w_sco, w_rV, w_rI, w_rR, w_rL, w_dI, w_sO, w_sq, w_si, w_pI, w_pZ, w_pR, w_pU, w_qI, w_qB, w_qZ, w_qU, w_qR, w_kV, q_icst, q_lcst, q_xR, q_ldI, q_ldR, q_ldL, q_bn, q_un, q_dv, q_fI, q_fR, q_aI, q_aR, q_aN, q_tn, q_cmp, q_cmz, q_cnt, q_ctt, q_cand, q_cor, q_vn, q_vI, q_vR, q_vL, q_kI, q_kR, q_kL, q_ckI, envN, argE, List.flatMap_cons, List.flatMap_nil, Value.category, junk, oadd, osub, omul, oand, oor, oxor, odiv, orem, oshl, oshr, oushr, omax, omin]; simp [nI_0]) (by simp [st1, kill, Value.category]) ?_
          refine wp_mono (w_lp (Q := fun o _ E1 h' => o = 0 ∧ (∃ v4 v5, E1 = [.ref 166, .int (nI f), .int (nI r), .int (nI a), v4, v5] ∧ v4.category = 1 ∧ v5.category = 1) ∧ Fr (fun x _ => x = 210) h h' ∧ eq6 (h'.2.1 210) (rlB C (rlA C (rds C (fr0 f) r) a) a 6)) (fun k E h' => ∃ b v5, k = 6 - b ∧ b ≤ 6 ∧ E = [.ref 166, .int (nI f), .int (nI r), .int (nI a), .int (nI b), v5] ∧ v5.category = 1 ∧ Fr (fun x _ => x = 210) h h' ∧ eq6 (h'.2.1 210) (rlB C (rlA C (rds C (fr0 f) r) a) a b)) ?_ 6 _ _ ⟨0, v5, rfl, by omega, rfl, c5, f3, e3⟩) ?_
          · rintro k E h' ⟨b, v5, rfl, hb, rfl, c5, f3, e3⟩
            by_cases hb6 : b < 6
            · refine ev_T ?_ ⟨fun z => (by cases z), fun _ => ?_⟩
              · simp only [f_mkF, w_sI, w_sR, w_sL, w_sC, w_sk, w_sbr, w_sco, w_rV, w_rI, w_rR, w_rL, w_dI, w_sO, w_sq, w_si, w_pI, w_pZ, w_pR, w_pU, w_qI, w_qB, w_qZ, w_qU, w_qR, w_kV, q_icst, q_lcst, q_xR, q_ldI, q_ldR, q_ldL, q_bn, q_un, q_dv, q_fI, q_fR, q_aI, q_aR, q_aN, q_tn, q_cmp, q_cmz, q_cnt, q_ctt, q_cand, q_cor, q_vn, q_vI, q_vR, q_vL, q_kI, q_kR, q_kL, q_ckI, envN, argE, List.flatMap_cons, List.flatMap_nil, Value.category, junk, oadd, osub, omul, oand, oor, oxor, odiv, orem, oshl, oshr, oushr, omax, omin]
                simp (disch := first | omega | simp) [rk_i, rk_b, rk_o, st1, kill, Value.category, rcv, nog, inI_b, nI_clamp, nI_ltI, nI_leI, nI_eq, nI_9, nI_6, nI_22, nI_12, nI_180, nI_add, nI_1, k6, hb6]
              have hp' := f3.ip hp
              have hn' := hp'.1
              have hm' := hp'.2.2
              have ab : 6 * a + b < 36 := by omega
              have eC : h'.2.1 182 (6 * a + b) = C a b := (f3.2.2 _ _ (by omega)).trans (hC a b ha6 hb6)
              have ea := e3 a ha6
              have eb := e3 b hb6
              generalize hDD : rlB C (rlA C (rds C (fr0 f) r) a) a b = DD at *
              have hnext : ∀ h4 v5, Fr (fun x _ => x = 210) h h4 → v5.category = 1 → eq6 (h4.2.1 210) (rlx C DD a b) → wp (sC 4 1) [.ref 166, .int (nI f), .int (nI r), .int (nI a), .int (nI b), v5] h4 fun o2 _ E2 h3 => o2 = 0 ∧ ∃ k2, k2 < 6 - b ∧ ∃ b v5, k2 = 6 - b ∧ b ≤ 6 ∧ E2 = [.ref 166, .int (nI f), .int (nI r), .int (nI a), .int (nI b), v5] ∧ v5.category = 1 ∧ Fr (fun x _ => x = 210) h h3 ∧ eq6 (h3.2.1 210) (rlB C (rlA C (rds C (fr0 f) r) a) a b) := by
                intro h4 v5 f4 c5 e4
                refine w_sCe (nI b) (nI (b + 1)) rfl (nI_1 _) (by simp [st1, kill, Value.category]) ⟨rfl, 6 - (b + 1), by omega, b + 1, v5, rfl, by omega, rfl, c5, f4, ?_⟩
                rw [rlB, hDD]
                exact e4
              unfold rlx at hnext
              by_cases c1 : DD a = -1 ∨ C a b = -1
              · refine w_sq.mpr ((w_siT ?_).mpr ?_)
                · simp only [f_mkF, w_sI, w_sR, w_sL, w_sC, w_sk, w_sbr, w_sco, w_rV, w_rI, w_rR, w_rL, w_dI, w_sO, w_sq, w_si, w_pI, w_pZ, w_pR, w_pU, w_qI, w_qB, w_qZ, w_qU, w_qR, w_kV, q_icst, q_lcst, q_xR, q_ldI, q_ldR, q_ldL, q_bn, q_un, q_dv, q_fI, q_fR, q_aI, q_aR, q_aN, q_tn, q_cmp, q_cmz, q_cnt, q_ctt, q_cand, q_cor, q_vn, q_vI, q_vR, q_vL, q_kI, q_kR, q_kL, q_ckI, envN, argE, List.flatMap_cons, List.flatMap_nil, Value.category, junk, oadd, osub, omul, oand, oor, oxor, odiv, orem, oshl, oshr, oushr, omax, omin]
                  simp (disch := first | omega | simp) [rk_i, rk_b, rk_o, st1, kill, Value.category, rcv, nog, inI_b, nI_clamp, nI_ltI, nI_leI, nI_eq, nI_9, nI_6, nI_22, nI_12, nI_180, nI_add, nI_1, hn', ly166, ly182, ly210, hm' 60, hm' 18, mp, ha6, ab, eC, ea]
                  try grind
                · rw [w_sco]
                  refine ⟨(fun z => by cases z), fun _ => ⟨fun _ => ?_, (fun z => by cases z), fun _ z => absurd rfl z⟩⟩
                  refine hnext h' v5 f3 c5 ?_
                  rw [if_pos c1]; exact e3
              · have c1a : ¬ DD a = -1 := fun z => c1 (Or.inl z)
                have c1b : ¬ C a b = -1 := fun z => c1 (Or.inr z)
                refine w_sq.mpr ((w_siF ?_).mpr (w_sk2.mpr ?_))
                · simp only [f_mkF, w_sI, w_sR, w_sL, w_sC, w_sk, w_sbr, w_sco, w_rV, w_rI, w_rR, w_rL, w_dI, w_sO, w_sq, w_si, w_pI, w_pZ, w_pR, w_pU, w_qI, w_qB, w_qZ, w_qU, w_qR, w_kV, q_icst, q_lcst, q_xR, q_ldI, q_ldR, q_ldL, q_bn, q_un, q_dv, q_fI, q_fR, q_aI, q_aR, q_aN, q_tn, q_cmp, q_cmz, q_cnt, q_ctt, q_cand, q_cor, q_vn, q_vI, q_vR, q_vL, q_kI, q_kR, q_kL, q_ckI, envN, argE, List.flatMap_cons, List.flatMap_nil, Value.category, junk, oadd, osub, omul, oand, oor, oxor, odiv, orem, oshl, oshr, oushr, omax, omin]
                  simp (disch := first | omega | simp) [rk_i, rk_b, rk_o, st1, kill, Value.category, rcv, nog, inI_b, nI_clamp, nI_ltI, nI_leI, nI_eq, nI_9, nI_6, nI_22, nI_12, nI_180, nI_add, nI_1, hn', ly166, ly182, ly210, hm' 60, hm' 18, mp, ha6, ab, eC, ea, c1a, c1b]
                refine w_sqI (E' := [.ref 166, .int (nI f), .int (nI r), .int (nI a), .int (nI b), .int (DD a + C a b)]) (DD a + C a b) ?_ (by simp [st1, kill, Value.category]) ?_
                · simp only [f_mkF, w_sI, w_sR, w_sL, w_sC, w_sk, w_sbr, w_sco, w_rV, w_rI, w_rR, w_rL, w_dI, w_sO, w_sq, w_si, w_pI, w_pZ, w_pR, w_pU, w_qI, w_qB, w_qZ, w_qU, w_qR, w_kV, q_icst, q_lcst, q_xR, q_ldI, q_ldR, q_ldL, q_bn, q_un, q_dv, q_fI, q_fR, q_aI, q_aR, q_aN, q_tn, q_cmp, q_cmz, q_cnt, q_ctt, q_cand, q_cor, q_vn, q_vI, q_vR, q_vL, q_kI, q_kR, q_kL, q_ckI, envN, argE, List.flatMap_cons, List.flatMap_nil, Value.category, junk, oadd, osub, omul, oand, oor, oxor, odiv, orem, oshl, oshr, oushr, omax, omin]
                  simp (disch := first | omega | simp) [rk_i, rk_b, rk_o, st1, kill, Value.category, rcv, nog, inI_b, nI_clamp, nI_ltI, nI_leI, nI_eq, nI_9, nI_6, nI_22, nI_12, nI_180, nI_add, nI_1, hn', ly166, ly182, ly210, hm' 60, hm' 18, mp, ha6, ab, eC, ea]
                refine w_qIe 210 b (if DD b = -1 ∨ DD a + C a b < DD b then DD a + C a b else DD b) ?_ ?_ ?_ (by omega) rfl hb6 (by omega) ⟨fun _ => ?_, (fun z => by cases z), fun z => absurd rfl z⟩
                · simp only [f_mkF, w_sI, w_sR, w_sL, w_sC, w_sk, w_sbr, w_sco, w_rV, w_rI, w_rR, w_rL, w_dI, w_sO, w_sq, w_si, w_pI, w_pZ, w_pR, w_pU, w_qI, w_qB, w_qZ, w_qU, w_qR, w_kV, q_icst, q_lcst, q_xR, q_ldI, q_ldR, q_ldL, q_bn, q_un, q_dv, q_fI, q_fR, q_aI, q_aR, q_aN, q_tn, q_cmp, q_cmz, q_cnt, q_ctt, q_cand, q_cor, q_vn, q_vI, q_vR, q_vL, q_kI, q_kR, q_kL, q_ckI, envN, argE, List.flatMap_cons, List.flatMap_nil, Value.category, junk, oadd, osub, omul, oand, oor, oxor, odiv, orem, oshl, oshr, oushr, omax, omin]; simp [hn', ly166, hm' 60, mp]
                · simp only [f_mkF, w_sI, w_sR, w_sL, w_sC, w_sk, w_sbr, w_sco, w_rV, w_rI, w_rR, w_rL, w_dI, w_sO, w_sq, w_si, w_pI, w_pZ, w_pR, w_pU, w_qI, w_qB, w_qZ, w_qU, w_qR, w_kV, q_icst, q_lcst, q_xR, q_ldI, q_ldR, q_ldL, q_bn, q_un, q_dv, q_fI, q_fR, q_aI, q_aR, q_aN, q_tn, q_cmp, q_cmz, q_cnt, q_ctt, q_cand, q_cor, q_vn, q_vI, q_vR, q_vL, q_kI, q_kR, q_kL, q_ckI, envN, argE, List.flatMap_cons, List.flatMap_nil, Value.category, junk, oadd, osub, omul, oand, oor, oxor, odiv, orem, oshl, oshr, oushr, omax, omin]; simp
                · simp only [f_mkF, w_sI, w_sR, w_sL, w_sC, w_sk, w_sbr, w_sco, w_rV, w_rI, w_rR, w_rL, w_dI, w_sO, w_sq, w_si, w_pI, w_pZ, w_pR, w_pU, w_qI, w_qB, w_qZ, w_qU, w_qR, w_kV, q_icst, q_lcst, q_xR, q_ldI, q_ldR, q_ldL, q_bn, q_un, q_dv, q_fI, q_fR, q_aI, q_aR, q_aN, q_tn, q_cmp, q_cmz, q_cnt, q_ctt, q_cand, q_cor, q_vn, q_vI, q_vR, q_vL, q_kI, q_kR, q_kL, q_ckI, envN, argE, List.flatMap_cons, List.flatMap_nil, Value.category, junk, oadd, osub, omul, oand, oor, oxor, odiv, orem, oshl, oshr, oushr, omax, omin]
                  simp (disch := first | omega | simp) [rk_i, rk_b, rk_o, st1, kill, Value.category, rcv, nog, inI_b, nI_clamp, nI_ltI, nI_leI, nI_eq, nI_9, nI_6, nI_22, nI_12, nI_180, nI_add, nI_1, hn', ly166, ly210, hm' 60, mp, hb6, eb]
                  try grind
                refine hnext _ _ (f3.w rfl) rfl ?_
                rw [if_neg c1]
                intro l hl
                rw [wI_upd]
                by_cases c2 : DD b = -1 ∨ DD a + C a b < DD b
                · rw [if_pos c2, if_pos c2]
                  unfold updD
                  by_cases z : l = b
                  · rw [if_pos z, if_pos z]
                  · rw [if_neg z, if_neg z]; exact e3 l hl
                · rw [if_neg c2, if_neg c2]
                  unfold updD
                  by_cases z : l = b
                  · rw [if_pos z, z]
                  · rw [if_neg z]; exact e3 l hl
            · have : b = 6 := by omega
              subst this
              refine ev_F ?_ ⟨fun _ => ⟨rfl, ⟨_, _, rfl, rfl, c5⟩, f3, e3⟩, fun z => (by cases z)⟩
              simp only [f_mkF, w_sI, w_sR, w_sL, w_sC, w_sk, w_sbr, w_sco, w_rV, w_rI, w_rR, w_rL, w_dI, w_sO, w_sq, w_si, w_pI, w_pZ, w_pR, w_pU, w_qI, w_qB, w_qZ, w_qU, w_qR, w_kV, q_icst, q_lcst, q_xR, q_ldI, q_ldR, q_ldL, q_bn, q_un, q_dv, q_fI, q_fR, q_aI, q_aR, q_aN, q_tn, q_cmp, q_cmz, q_cnt, q_ctt, q_cand, q_cor, q_vn, q_vI, q_vR, q_vL, q_kI, q_kR, q_kL, q_ckI, envN, argE, List.flatMap_cons, List.flatMap_nil, Value.category, junk, oadd, osub, omul, oand, oor, oxor, odiv, orem, oshl, oshr, oushr, omax, omin]
              simp (disch := first | omega | simp) [rk_i, rk_b, rk_o, st1, kill, Value.category, rcv, nog, inI_b, nI_clamp, nI_ltI, nI_leI, nI_eq, nI_9, nI_6, nI_22, nI_12, nI_180, nI_add, nI_1, k6]
          · rintro o v E1 h5 ⟨rfl, ⟨v4, v5, rfl, c4, c5⟩, f5, e5⟩
            refine ⟨fun _ => ?_, (fun z => by cases z), fun z => absurd rfl z⟩
            refine w_sCe (nI a) (nI (a + 1)) rfl (nI_1 _) (by simp [st1, kill, Value.category]) ⟨rfl, 6 - (a + 1), by omega, a + 1, v4, v5, rfl, by omega, rfl, ⟨c4, c5⟩, f5, e5⟩
        · have : a = 6 := by omega
          subst this
          refine ev_F ?_ ⟨fun _ => ⟨rfl, ⟨_, _, _, rfl, rfl, c4, c5⟩, f3, e3⟩, fun z => (by cases z)⟩
          simp only [f_mkF, w_sI, w_sR, w_sL, w_sC, w_sk, w_sbr, w_sco, w_rV, w_rI, w_rR, w_rL, w_dI, w_sO, w_sq, w_si, w_pI, w_pZ, w_pR, w_pU, w_qI, w_qB, w_qZ, w_qU, w_qR, w_kV, q_icst, q_lcst, q_xR, q_ldI, q_ldR, q_ldL, q_bn, q_un, q_dv, q_fI, q_fR, q_aI, q_aR, q_aN, q_tn, q_cmp, q_cmz, q_cnt, q_ctt, q_cand, q_cor, q_vn, q_vI, q_vR, q_vL, q_kI, q_kR, q_kL, q_ckI, envN, argE, List.flatMap_cons, List.flatMap_nil, Value.category, junk, oadd, osub, omul, oand, oor, oxor, odiv, orem, oshl, oshr, oushr, omax, omin]
          simp (disch := first | omega | simp) [rk_i, rk_b, rk_o, st1, kill, Value.category, rcv, nog, inI_b, nI_clamp, nI_ltI, nI_leI, nI_eq, nI_9, nI_6, nI_22, nI_12, nI_180, nI_add, nI_1, k6]
      · rintro o v E1 h5 ⟨rfl, ⟨v3, v4, v5, rfl, c3, c4, c5⟩, f5, e5⟩
        refine ⟨fun _ => ?_, (fun z => by cases z), fun z => absurd rfl z⟩
        refine w_sCe (nI r) (nI (r + 1)) rfl (nI_1 _) (by simp [st1, kill, Value.category]) ⟨rfl, 6 - (r + 1), by omega, r + 1, v3, v4, v5, rfl, by omega, rfl, ⟨c3, c4, c5⟩, f5, e5⟩
    · have : r = 6 := by omega
      subst this
      refine ev_F ?_ ⟨fun _ => ⟨rfl, f3, e3⟩, fun z => (by cases z)⟩
      simp only [f_mkF, w_sI, w_sR, w_sL, w_sC, w_sk, w_sbr, w_sco, w_rV, w_rI, w_rR, w_rL, w_dI, w_sO, w_sq, w_si, w_pI, w_pZ, w_pR, w_pU, w_qI, w_qB, w_qZ, w_qU, w_qR, w_kV, q_icst, q_lcst, q_xR, q_ldI, q_ldR, q_ldL, q_bn, q_un, q_dv, q_fI, q_fR, q_aI, q_aR, q_aN, q_tn, q_cmp, q_cmz, q_cnt, q_ctt, q_cand, q_cor, q_vn, q_vI, q_vR, q_vL, q_kI, q_kR, q_kL, q_ckI, envN, argE, List.flatMap_cons, List.flatMap_nil, Value.category, junk, oadd, osub, omul, oand, oor, oxor, odiv, orem, oshl, oshr, oushr, omax, omin]
      simp (disch := first | omega | simp) [rk_i, rk_b, rk_o, st1, kill, Value.category, rcv, nog, inI_b, nI_clamp, nI_ltI, nI_leI, nI_eq, nI_9, nI_6, nI_22, nI_12, nI_180, nI_add, nI_1, k6]
  · rintro o v E1 h5 ⟨rfl, f5, e5⟩
    refine ⟨fun _ => ?_, fun z => absurd rfl z⟩
    rw [w_rV]
    exact Or.inl ⟨rfl, rfl, rfl, f5, e5⟩
