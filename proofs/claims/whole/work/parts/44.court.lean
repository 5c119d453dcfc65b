/-! the class's court: the land that is asked -/
def CX (w : Wd) (T : Nat) (ra : Nat → Nat) (h : Hp) : Prop := Ip h ∧ h.2.2 147 12 = some T ∧ TH h T ra (W_n w) (W_R w) ∧ (h.2.1 T 2 = W_wo w ∧ h.2.1 T 3 = W_fo w ∧ h.2.1 T 4 = W_fl w) ∧ h.2.1 147 11 = nI (W_f w) ∧ h.2.1 147 13 = W_no w ∧ (∀ k, h.2.1 1 k = W_hm w k) ∧ (∀ l k, l < 6 → k < 9 → h.2.1 (6 + l) k = W_sd w l k) ∧ (∀ l, l < 6 → ∃ la, h.2.2 4 l = some la ∧ lawA la ∧ LX h la (W_D w l)) ∧ WV w
/-- what the court's walk may change -/
def SX (a k : Nat) : Prop := (149 ≤ a ∧ a ≤ 156) ∨ (a = 147 ∧ k = 15)
theorem TH.fr {S : Nat → Nat → Prop} {h h' : Hp} {T : Nat} {ra : Nat → Nat} {n : Nat} {R : Nat → Nat → Int32} (q : TH h T ra n R) (f : Fr S h h') (hS : ∀ a k, a < 140 → ¬ S a k) : TH h' T ra n R := by
  obtain ⟨⟨a1, a2, a3, a4, a5, a6⟩, ⟨b1, b2⟩, c1, c2⟩ := q
  obtain ⟨f1, f2, f3⟩ := f
  refine ⟨⟨f1.trans a1, a2, a3, a4, by rw [f2]; exact a5, a6⟩, ⟨by rw [f3 _ _ (hS _ _ (by omega))]; exact b1, b2⟩, fun i hi => by rw [f2]; exact c1 i hi, fun i k hi hk => ?_⟩
  rw [f3 _ _ (hS _ _ (by have := c1 i (by omega); omega))]
  exact c2 i k hi hk
theorem LX.fr {S : Nat → Nat → Prop} {h h' : Hp} {la : Nat} {d : LDt} (hA : lawA la) (q : LX h la d) (f : Fr S h h') (hS : ∀ a k, (23 ≤ a ∧ a ≤ 27) ∨ (116 ≤ a ∧ a ≤ 145) → ¬ S a k) : LX h' la d := by
  obtain ⟨f1, f2, f3⟩ := f
  have e : ∀ a k, la ≤ a → a ≤ la + 4 → h'.2.1 a k = h.2.1 a k := fun a k h1 h2 => f3 a k (hS a k (by unfold lawA at hA; omega))
  obtain ⟨q1, ⟨ln, q2, q3⟩, q4⟩ := q
  refine ⟨by rw [e _ _ (by omega) (by omega)]; exact q1, ⟨ln, by rw [e _ _ (by omega) (by omega)]; exact q2, q3⟩, fun c hc => ?_⟩
  obtain ⟨z1, z2, z3, z4⟩ := q4 c hc
  refine ⟨by rw [e _ _ (by omega) (by omega)]; exact z1, by rw [e _ _ (by omega) (by omega)]; exact z2, by rw [e _ _ (by omega) (by omega)]; exact z3, fun k h1 h2 => ?_⟩
  rw [e _ _ (by omega) (by omega), e _ _ (by omega) (by omega)]
  exact z4 k h1 h2
theorem CX.fr {w : Wd} {T : Nat} {ra : Nat → Nat} {h h' : Hp} (q : CX w T ra h) (f : Fr SX h h') : CX w T ra h' := by
  obtain ⟨q1, q2, q3, ⟨q4, q5, q6⟩, q7, q8, q9, q10, q11, q12⟩ := q
  have hT := q3.1.2.2.1
  have hT2 := q3.1.2.1
  have f' := f
  obtain ⟨f1, f2, f3⟩ := f
  refine ⟨f'.ip q1, by rw [f2]; exact q2, q3.fr f' fun a k z => by unfold SX; omega, ⟨by rw [f3 _ _ (by unfold SX; omega)]; exact q4, by rw [f3 _ _ (by unfold SX; omega)]; exact q5, by rw [f3 _ _ (by unfold SX; omega)]; exact q6⟩, by rw [f3 _ _ (by unfold SX; omega)]; exact q7, by rw [f3 _ _ (by unfold SX; omega)]; exact q8, fun k => by rw [f3 _ _ (by unfold SX; omega)]; exact q9 k, fun l k hl hk => by rw [f3 _ _ (by unfold SX; omega)]; exact q10 l k hl hk, fun l hl => ?_, q12⟩
  obtain ⟨la, z1, z2, z3⟩ := q11 l hl
  exact ⟨la, by rw [f2]; exact z1, z2, z3.fr z2 f' fun a k z => by unfold SX; omega⟩
theorem i6 {x : Int32} (h0 : 0 ≤ x.toInt) (h1 : x.toInt ≤ 5) : x = 0 ∨ x = 1 ∨ x = 2 ∨ x = 3 ∨ x = 4 ∨ x = 5 := by
  simp only [← Int32.toInt_inj]
  show x.toInt = 0 ∨ x.toInt = 1 ∨ x.toInt = 2 ∨ x.toInt = 3 ∨ x.toInt = 4 ∨ x.toInt = 5
  omega
theorem x_sent {w : Wd} {T : Nat} {ra : Nat → Nat} {h : Hp} (q : CX w T ra h) {l i kind : Nat} {ow : Int32} (hl : l < 6) (hi : i < W_n w) (hk : kind < 9) (ho : 0 ≤ ow.toInt ∧ ow.toInt < 12) : F_X1_landSentTo [.ref 147, .int (nI l), .int (nI i), .int (nI kind), .int ow] h = some (some (.int (tgt w i kind ow l)), h) := by
  obtain ⟨hp, q2, ⟨⟨hn, t1, t2, t3, t4, t5⟩, ⟨n1, n2⟩, r1, r2⟩, ⟨q4, q5, q6⟩, q7, q8, q9, q10, q11, q12⟩ := q
  obtain ⟨a1, a2, a3, a4, a5, a6, a7, a8, a9, a10⟩ := q12
  have t6 : T < 212 := by omega
  have t7 : T + 1 < 212 := by omega
  obtain ⟨s1, s2⟩ := ptS hp hl
  have s3 : 6 + l < 212 := by omega
  have s4 := q10 l kind hl hk
  have b2 : h.2.2 147 2 = some 5 := hp.2.1.at 65 rfl
  have b0 : h.2.2 147 0 = some 1 := hp.2.1.at 63 rfl
  obtain ⟨r3, r4, r5, r6⟩ := r1 i (by omega)
  have r7 : ra i < 212 := by omega
  have r8 := r2 i 1 hi (by omega)
  have r9 := r2 i 2 hi (by omega)
  have v := a3 i hi
  have v1 : inI (W_R w i 1) 12 = true := ix_of v.2.1.1 v.2.1.2
  have v2 : inI ow 12 = true := ix_of ho.1 ho.2
  have hi20 : i < 20 := by omega
  have hi0 : nI i ≤ 0 ↔ i = 0 := by rw [← nI_0, nI_leI (by omega) (by omega)]; omega
  have e := a9 l kind hl hk
  rw [← fq_eq]
  unfold F_X1_landSentTo
  rw [f_mkF, w_sw]
  simp only [f_mkF, w_sI, w_sR, w_sL, w_sC, w_sk, w_sbr, w_sco, w_rV, w_rI, w_rR, w_rL, w_dI, w_sO, w_sq, w_si, w_pI, w_pZ, w_pR, w_pU, w_qI, w_qB, w_qZ, w_qU, w_qR, w_kV, q_icst, q_lcst, q_xR, q_ldI, q_ldR, q_ldL, q_bn, q_un, q_dv, q_fI, q_fR, q_aI, q_aR, q_aN, q_tn, q_cmp, q_cmz, q_cnt, q_ctt, q_cand, q_cor, q_vn, q_vI, q_vR, q_vL, q_kI, q_kR, q_kL, q_ckI, envN, argE, List.flatMap_cons, List.flatMap_nil, Value.category, junk, oadd, osub, omul, oand, oor, oxor, odiv, orem, oshl, oshr, oushr, omax, omin]
  rcases i6 e.1 e.2 with e | e | e | e | e | e
  · simp (disch := first | omega | simp) [rk_i, rk_b, rk_o, st1, kill, Value.category, rcv, nog, hn, ly147, ly5, b2, s1, s2, s3, inI_b, nI_clamp, nI_ltI, nI_leI, nI_eq, nI_9, nI_6, nI_22, nI_12, nI_180, nI_add, nI_1, s4, e]
    simp only [f_mkF, w_sI, w_sR, w_sL, w_sC, w_sk, w_sbr, w_sco, w_rV, w_rI, w_rR, w_rL, w_dI, w_sO, w_sq, w_si, w_pI, w_pZ, w_pR, w_pU, w_qI, w_qB, w_qZ, w_qU, w_qR, w_kV, q_icst, q_lcst, q_xR, q_ldI, q_ldR, q_ldL, q_bn, q_un, q_dv, q_fI, q_fR, q_aI, q_aR, q_aN, q_tn, q_cmp, q_cmz, q_cnt, q_ctt, q_cand, q_cor, q_vn, q_vI, q_vR, q_vL, q_kI, q_kR, q_kL, q_ckI, envN, argE, List.flatMap_cons, List.flatMap_nil, Value.category, junk, oadd, osub, omul, oand, oor, oxor, odiv, orem, oshl, oshr, oushr, omax, omin]
    simp (disch := first | omega | simp) [rk_i, rk_b, rk_o, st1, kill, Value.category, rcv, nog, tgt, e]
    omega
  · simp (disch := first | omega | simp) [rk_i, rk_b, rk_o, st1, kill, Value.category, rcv, nog, hn, ly147, ly5, b2, s1, s2, s3, inI_b, nI_clamp, nI_ltI, nI_leI, nI_eq, nI_9, nI_6, nI_22, nI_12, nI_180, nI_add, nI_1, s4, e]
    simp only [f_mkF, w_sI, w_sR, w_sL, w_sC, w_sk, w_sbr, w_sco, w_rV, w_rI, w_rR, w_rL, w_dI, w_sO, w_sq, w_si, w_pI, w_pZ, w_pR, w_pU, w_qI, w_qB, w_qZ, w_qU, w_qR, w_kV, q_icst, q_lcst, q_xR, q_ldI, q_ldR, q_ldL, q_bn, q_un, q_dv, q_fI, q_fR, q_aI, q_aR, q_aN, q_tn, q_cmp, q_cmz, q_cnt, q_ctt, q_cand, q_cor, q_vn, q_vI, q_vR, q_vL, q_kI, q_kR, q_kL, q_ckI, envN, argE, List.flatMap_cons, List.flatMap_nil, Value.category, junk, oadd, osub, omul, oand, oor, oxor, odiv, orem, oshl, oshr, oushr, omax, omin]
    simp (disch := first | omega | simp) [rk_i, rk_b, rk_o, st1, kill, Value.category, rcv, nog, tgt, e, hn, ly147, q2, t3, t4, t5, t6, t7, r3, r6, r7, r9, inI_b, nI_clamp, nI_ltI, nI_leI, nI_eq, nI_9, nI_6, nI_22, nI_12, nI_180, nI_add, nI_1]
    omega
  · simp (disch := first | omega | simp) [rk_i, rk_b, rk_o, st1, kill, Value.category, rcv, nog, hn, ly147, ly5, b2, s1, s2, s3, inI_b, nI_clamp, nI_ltI, nI_leI, nI_eq, nI_9, nI_6, nI_22, nI_12, nI_180, nI_add, nI_1, s4, e]
    simp only [f_mkF, w_sI, w_sR, w_sL, w_sC, w_sk, w_sbr, w_sco, w_rV, w_rI, w_rR, w_rL, w_dI, w_sO, w_sq, w_si, w_pI, w_pZ, w_pR, w_pU, w_qI, w_qB, w_qZ, w_qU, w_qR, w_kV, q_icst, q_lcst, q_xR, q_ldI, q_ldR, q_ldL, q_bn, q_un, q_dv, q_fI, q_fR, q_aI, q_aR, q_aN, q_tn, q_cmp, q_cmz, q_cnt, q_ctt, q_cand, q_cor, q_vn, q_vI, q_vR, q_vL, q_kI, q_kR, q_kL, q_ckI, envN, argE, List.flatMap_cons, List.flatMap_nil, Value.category, junk, oadd, osub, omul, oand, oor, oxor, odiv, orem, oshl, oshr, oushr, omax, omin]
    by_cases hz : i = 0
    · subst hz
      simp (disch := first | omega | simp) [rk_i, rk_b, rk_o, st1, kill, Value.category, rcv, nog, tgt, e, hn, ly147, q2, t3, t4, t5, t6, t7, r3, r6, r7, r9, inI_b, nI_clamp, nI_ltI, nI_leI, nI_eq, nI_9, nI_6, nI_22, nI_12, nI_180, nI_add, nI_1, nI_0, zle, ole, q6]
      omega
    · obtain ⟨j, rfl⟩ : ∃ j, i = j + 1 := ⟨i - 1, by omega⟩
      obtain ⟨m3, m4, m5, m6⟩ := r1 j (by omega)
      have m7 : ra j < 212 := by omega
      have m9 := r2 j 2 (by omega) (by omega)
      simp (disch := first | omega | simp) [rk_i, rk_b, rk_o, st1, kill, Value.category, rcv, nog, tgt, e, hn, ly147, q2, t3, t4, t5, t6, t7, m3, m6, m7, m9, inI_b, nI_clamp, nI_ltI, nI_leI, nI_eq, nI_9, nI_6, nI_22, nI_12, nI_180, nI_add, nI_1, nI_pred, zle, ole, q6, nI_nle]
      omega
  · simp (disch := first | omega | simp) [rk_i, rk_b, rk_o, st1, kill, Value.category, rcv, nog, hn, ly147, ly5, b2, s1, s2, s3, inI_b, nI_clamp, nI_ltI, nI_leI, nI_eq, nI_9, nI_6, nI_22, nI_12, nI_180, nI_add, nI_1, s4, e]
    simp only [f_mkF, w_sI, w_sR, w_sL, w_sC, w_sk, w_sbr, w_sco, w_rV, w_rI, w_rR, w_rL, w_dI, w_sO, w_sq, w_si, w_pI, w_pZ, w_pR, w_pU, w_qI, w_qB, w_qZ, w_qU, w_qR, w_kV, q_icst, q_lcst, q_xR, q_ldI, q_ldR, q_ldL, q_bn, q_un, q_dv, q_fI, q_fR, q_aI, q_aR, q_aN, q_tn, q_cmp, q_cmz, q_cnt, q_ctt, q_cand, q_cor, q_vn, q_vI, q_vR, q_vL, q_kI, q_kR, q_kL, q_ckI, envN, argE, List.flatMap_cons, List.flatMap_nil, Value.category, junk, oadd, osub, omul, oand, oor, oxor, odiv, orem, oshl, oshr, oushr, omax, omin]
    simp (disch := first | omega | simp) [rk_i, rk_b, rk_o, st1, kill, Value.category, rcv, nog, tgt, e, hn, ly147, q2, t3, t4, t5, t6, t7, r3, r6, r7, r8, inI_b, nI_clamp, nI_ltI, nI_leI, nI_eq, nI_9, nI_6, nI_22, nI_12, nI_180, nI_add, nI_1, b0, ly1, v1, q9]
    omega
  · simp (disch := first | omega | simp) [rk_i, rk_b, rk_o, st1, kill, Value.category, rcv, nog, hn, ly147, ly5, b2, s1, s2, s3, inI_b, nI_clamp, nI_ltI, nI_leI, nI_eq, nI_9, nI_6, nI_22, nI_12, nI_180, nI_add, nI_1, s4, e]
    simp only [f_mkF, w_sI, w_sR, w_sL, w_sC, w_sk, w_sbr, w_sco, w_rV, w_rI, w_rR, w_rL, w_dI, w_sO, w_sq, w_si, w_pI, w_pZ, w_pR, w_pU, w_qI, w_qB, w_qZ, w_qU, w_qR, w_kV, q_icst, q_lcst, q_xR, q_ldI, q_ldR, q_ldL, q_bn, q_un, q_dv, q_fI, q_fR, q_aI, q_aR, q_aN, q_tn, q_cmp, q_cmz, q_cnt, q_ctt, q_cand, q_cor, q_vn, q_vI, q_vR, q_vL, q_kI, q_kR, q_kL, q_ckI, envN, argE, List.flatMap_cons, List.flatMap_nil, Value.category, junk, oadd, osub, omul, oand, oor, oxor, odiv, orem, oshl, oshr, oushr, omax, omin]
    simp (disch := first | omega | simp) [rk_i, rk_b, rk_o, st1, kill, Value.category, rcv, nog, tgt, e, hn, ly147, q2, b0, ly1, v2, q9]
    omega
  · simp (disch := first | omega | simp) [rk_i, rk_b, rk_o, st1, kill, Value.category, rcv, nog, hn, ly147, ly5, b2, s1, s2, s3, inI_b, nI_clamp, nI_ltI, nI_leI, nI_eq, nI_9, nI_6, nI_22, nI_12, nI_180, nI_add, nI_1, s4, e]
    simp only [f_mkF, w_sI, w_sR, w_sL, w_sC, w_sk, w_sbr, w_sco, w_rV, w_rI, w_rR, w_rL, w_dI, w_sO, w_sq, w_si, w_pI, w_pZ, w_pR, w_pU, w_qI, w_qB, w_qZ, w_qU, w_qR, w_kV, q_icst, q_lcst, q_xR, q_ldI, q_ldR, q_ldL, q_bn, q_un, q_dv, q_fI, q_fR, q_aI, q_aR, q_aN, q_tn, q_cmp, q_cmz, q_cnt, q_ctt, q_cand, q_cor, q_vn, q_vI, q_vR, q_vL, q_kI, q_kR, q_kL, q_ckI, envN, argE, List.flatMap_cons, List.flatMap_nil, Value.category, junk, oadd, osub, omul, oand, oor, oxor, odiv, orem, oshl, oshr, oushr, omax, omin]
    simp (disch := first | omega | simp) [rk_i, rk_b, rk_o, st1, kill, Value.category, rcv, nog, tgt, e, hn, ly147, q2, t3, t6, q6]
    omega
def ofR : Option Nat → Int32
  | none => -2
  | some l => nI l
theorem x_ruling {w : Wd} {T : Nat} {ra : Nat → Nat} {h : Hp} (q : CX w T ra h) {i kind : Nat} {ow : Int32} (hi : i < W_n w) (hk : kind < 9) (ho : 0 ≤ ow.toInt ∧ ow.toInt < 12) : F_X1_rulingLand [.ref 147, .int (nI i), .int (nI kind), .int ow] h = some (some (.int (ofR (rul w i kind ow))), h) := by
  have q' := q
  obtain ⟨hp, q2, q3, q4, q7, q8, q9, q10, q11, q12⟩ := q
  have hn := hp.1
  have hf := q12.2.1
  have htg : ∀ l, l < 6 → 0 ≤ (tgt w i kind ow l).toInt ∧ (tgt w i kind ow l).toInt ≤ 5 := fun l hl => tgt_ok q12 hi hl
  have hE : envN 8 [Value.ref 147, Value.int (nI i), Value.int (nI kind), Value.int ow] = [Value.ref 147, Value.int (nI i), Value.int (nI kind), Value.int ow, junk, junk, junk, junk] := rfl
  rw [← fq_eq]
  unfold F_X1_rulingLand
  refine f_mkE _ hE (by simp [argE, Value.category]) ?_
  refine w_sqI (nI 0) (by simp only [f_mkF, w_sI, w_sR, w_sL, w_sC, w_sk, w_sbr, w_sco, w_rV, w_rI, w_rR, w_rL, w_dI, w_sO, w_sq, w_si, w_pI, w_pZ, w_pR, w_pU, w_qI, w_qB, w_qZ, w_qU, w_qR, w_kV, q_icst, q_lcst, q_xR, q_ldI, q_ldR, q_ldL, q_bn, q_un, q_dv, q_fI, q_fR, q_aI, q_aR, q_aN, q_tn, q_cmp, q_cmz, q_cnt, q_ctt, q_cand, q_cor, q_vn, q_vI, q_vR, q_vL, q_kI, q_kR, q_kL, q_ckI, envN, argE, List.flatMap_cons, List.flatMap_nil, Value.category, junk, oadd, osub, omul, oand, oor, oxor, odiv, orem, oshl, oshr, oushr, omax, omin]; simp [nI_0]) rfl ?_
  refine w_sqI (nI (W_f w)) (by simp only [f_mkF, w_sI, w_sR, w_sL, w_sC, w_sk, w_sbr, w_sco, w_rV, w_rI, w_rR, w_rL, w_dI, w_sO, w_sq, w_si, w_pI, w_pZ, w_pR, w_pU, w_qI, w_qB, w_qZ, w_qU, w_qR, w_kV, q_icst, q_lcst, q_xR, q_ldI, q_ldR, q_ldL, q_bn, q_un, q_dv, q_fI, q_fR, q_aI, q_aR, q_aN, q_tn, q_cmp, q_cmz, q_cnt, q_ctt, q_cand, q_cor, q_vn, q_vI, q_vR, q_vL, q_kI, q_kR, q_kL, q_ckI, envN, argE, List.flatMap_cons, List.flatMap_nil, Value.category, junk, oadd, osub, omul, oand, oor, oxor, odiv, orem, oshl, oshr, oushr, omax, omin]; simp [rk_i, rk_b, rk_o, st1, kill, Value.category, rcv, nog, hn, ly147, q7]) rfl ?_
  refine w_sq.mpr ?_
  refine w_sqI (nI 0) (by simp only [f_mkF, w_sI, w_sR, w_sL, w_sC, w_sk, w_sbr, w_sco, w_rV, w_rI, w_rR, w_rL, w_dI, w_sO, w_sq, w_si, w_pI, w_pZ, w_pR, w_pU, w_qI, w_qB, w_qZ, w_qU, w_qR, w_kV, q_icst, q_lcst, q_xR, q_ldI, q_ldR, q_ldL, q_bn, q_un, q_dv, q_fI, q_fR, q_aI, q_aR, q_aN, q_tn, q_cmp, q_cmz, q_cnt, q_ctt, q_cand, q_cor, q_vn, q_vI, q_vR, q_vL, q_kI, q_kR, q_kL, q_ckI, envN, argE, List.flatMap_cons, List.flatMap_nil, Value.category, junk, oadd, osub, omul, oand, oor, oxor, odiv, orem, oshl, oshr, oushr, omax, omin]; simp [nI_0]) rfl ?_
  refine wp_mono (w_lp (Q := fun o v E1 h' => ((o = 2 ∧ v = .int (ofR (rul w i kind ow))) ∨ (o = 0 ∧ rul w i kind ow = none)) ∧ h' = h) (fun c E h' => h' = h ∧ ∃ j m0 l v7, c = 6 - j ∧ j ≤ 6 ∧ l < 6 ∧ m0 < 64 ∧ E = [.ref 147, .int (nI i), .int (nI kind), .int ow, .int (nI m0), .int (nI l), .int (nI j), v7] ∧ v7.category = 1 ∧ rulF (tgt w i kind ow) (6 - j) (m0 ||| 2 ^ l) l = rul w i kind ow) ?_ 6 _ _ ⟨rfl, 0, 0, W_f w, junk, rfl, by omega, hf, by omega, rfl, rfl, by simp [rul]⟩) ?_
  · rintro c E h' ⟨rfl, j, m0, l, v7, rfl, hj, hl, hm, rfl, c7, hr⟩
    by_cases hj6 : j = 6
    · subst hj6
      have k6 : (6 : Int32) = nI 6 := rfl
      refine ev_F ?_ ⟨fun _ => ⟨Or.inr ⟨rfl, hr.symm⟩, rfl⟩, fun z => (by cases z)⟩
      simp only [f_mkF, w_sI, w_sR, w_sL, w_sC, w_sk, w_sbr, w_sco, w_rV, w_rI, w_rR, w_rL, w_dI, w_sO, w_sq, w_si, w_pI, w_pZ, w_pR, w_pU, w_qI, w_qB, w_qZ, w_qU, w_qR, w_kV, q_icst, q_lcst, q_xR, q_ldI, q_ldR, q_ldL, q_bn, q_un, q_dv, q_fI, q_fR, q_aI, q_aR, q_aN, q_tn, q_cmp, q_cmz, q_cnt, q_ctt, q_cand, q_cor, q_vn, q_vI, q_vR, q_vL, q_kI, q_kR, q_kL, q_ckI, envN, argE, List.flatMap_cons, List.flatMap_nil, Value.category, junk, oadd, osub, omul, oand, oor, oxor, odiv, orem, oshl, oshr, oushr, omax, omin]
      simp [k6]
    · obtain ⟨f, hf2⟩ : ∃ f, 6 - j = f + 1 := ⟨5 - j, by omega⟩
      rw [hf2, rulF] at hr
      have hj5 : nI j < 6 := by
        show nI j < nI 6
        rw [nI_ltI (by omega) (by omega)]
        omega
      obtain ⟨x, hx, hx2, hx3⟩ := ofN (htg l hl).1 (htg l hl).2
      rw [hx3] at hr
      have hx4 := htg l hl
      have hx6 : x < 6 := by omega
      obtain ⟨-, -, k3, k4⟩ := mskA m0 hm l hl
      obtain ⟨g1, -, -, -⟩ := mskA (m0 ||| 2 ^ l) k4 x hx6
      have e1 := x_sent q' (l := l) (kind := kind) (ow := ow) hl hi hk ho
      rw [hx] at e1
      refine ev_T ?_ ⟨fun z => (by cases z), fun _ => ?_⟩
      · simp only [f_mkF, w_sI, w_sR, w_sL, w_sC, w_sk, w_sbr, w_sco, w_rV, w_rI, w_rR, w_rL, w_dI, w_sO, w_sq, w_si, w_pI, w_pZ, w_pR, w_pU, w_qI, w_qB, w_qZ, w_qU, w_qR, w_kV, q_icst, q_lcst, q_xR, q_ldI, q_ldR, q_ldL, q_bn, q_un, q_dv, q_fI, q_fR, q_aI, q_aR, q_aN, q_tn, q_cmp, q_cmz, q_cnt, q_ctt, q_cand, q_cor, q_vn, q_vI, q_vR, q_vL, q_kI, q_kR, q_kL, q_ckI, envN, argE, List.flatMap_cons, List.flatMap_nil, Value.category, junk, oadd, osub, omul, oand, oor, oxor, odiv, orem, oshl, oshr, oushr, omax, omin]; simp [hj5]
      refine w_sqI (E' := [.ref 147, .int (nI i), .int (nI kind), .int ow, .int (nI (m0 ||| 2 ^ l)), .int (nI l), .int (nI j), v7]) (nI (m0 ||| 2 ^ l)) ?_ (by simp [st1, kill, Value.category]) ?_
      · rw [← k3]
        simp only [q_bn, q_ldI, q_icst]
        refine ⟨nI m0, rfl, nI l, rfl, ?_⟩
        simp
      refine w_sqI (E' := [.ref 147, .int (nI i), .int (nI kind), .int ow, .int (nI (m0 ||| 2 ^ l)), .int (nI l), .int (nI j), .int (nI x)]) (nI x) ?_ (by simp [st1, kill, Value.category]) ?_
      · simp only [f_mkF, w_sI, w_sR, w_sL, w_sC, w_sk, w_sbr, w_sco, w_rV, w_rI, w_rR, w_rL, w_dI, w_sO, w_sq, w_si, w_pI, w_pZ, w_pR, w_pU, w_qI, w_qB, w_qZ, w_qU, w_qR, w_kV, q_icst, q_lcst, q_xR, q_ldI, q_ldR, q_ldL, q_bn, q_un, q_dv, q_fI, q_fR, q_aI, q_aR, q_aN, q_tn, q_cmp, q_cmz, q_cnt, q_ctt, q_cand, q_cor, q_vn, q_vI, q_vR, q_vL, q_kI, q_kR, q_kL, q_ckI, envN, argE, List.flatMap_cons, List.flatMap_nil, Value.category, junk, oadd, osub, omul, oand, oor, oxor, odiv, orem, oshl, oshr, oushr, omax, omin]
        simp [rk_i, rk_b, rk_o, st1, kill, Value.category, rcv, nog, hn, ly147, fq_of e1]
      by_cases hxl : x = l
      · rw [if_pos hxl] at hr
        refine w_sq.mpr ((w_siT ?_).mpr ?_)
        · simp only [f_mkF, w_sI, w_sR, w_sL, w_sC, w_sk, w_sbr, w_sco, w_rV, w_rI, w_rR, w_rL, w_dI, w_sO, w_sq, w_si, w_pI, w_pZ, w_pR, w_pU, w_qI, w_qB, w_qZ, w_qU, w_qR, w_kV, q_icst, q_lcst, q_xR, q_ldI, q_ldR, q_ldL, q_bn, q_un, q_dv, q_fI, q_fR, q_aI, q_aR, q_aN, q_tn, q_cmp, q_cmz, q_cnt, q_ctt, q_cand, q_cor, q_vn, q_vI, q_vR, q_vL, q_kI, q_kR, q_kL, q_ckI, envN, argE, List.flatMap_cons, List.flatMap_nil, Value.category, junk, oadd, osub, omul, oand, oor, oxor, odiv, orem, oshl, oshr, oushr, omax, omin]; simp [hxl]
        · simp only [f_mkF, w_sI, w_sR, w_sL, w_sC, w_sk, w_sbr, w_sco, w_rV, w_rI, w_rR, w_rL, w_dI, w_sO, w_sq, w_si, w_pI, w_pZ, w_pR, w_pU, w_qI, w_qB, w_qZ, w_qU, w_qR, w_kV, q_icst, q_lcst, q_xR, q_ldI, q_ldR, q_ldL, q_bn, q_un, q_dv, q_fI, q_fR, q_aI, q_aR, q_aN, q_tn, q_cmp, q_cmz, q_cnt, q_ctt, q_cand, q_cor, q_vn, q_vI, q_vR, q_vL, q_kI, q_kR, q_kL, q_ckI, envN, argE, List.flatMap_cons, List.flatMap_nil, Value.category, junk, oadd, osub, omul, oand, oor, oxor, odiv, orem, oshl, oshr, oushr, omax, omin]; simp [← hr, ofR]
      · rw [if_neg hxl] at hr
        refine w_sq.mpr ((w_siF ?_).mpr (w_sk2.mpr ?_))
        · simp only [f_mkF, w_sI, w_sR, w_sL, w_sC, w_sk, w_sbr, w_sco, w_rV, w_rI, w_rR, w_rL, w_dI, w_sO, w_sq, w_si, w_pI, w_pZ, w_pR, w_pU, w_qI, w_qB, w_qZ, w_qU, w_qR, w_kV, q_icst, q_lcst, q_xR, q_ldI, q_ldR, q_ldL, q_bn, q_un, q_dv, q_fI, q_fR, q_aI, q_aR, q_aN, q_tn, q_cmp, q_cmz, q_cnt, q_ctt, q_cand, q_cor, q_vn, q_vI, q_vR, q_vL, q_kI, q_kR, q_kL, q_ckI, envN, argE, List.flatMap_cons, List.flatMap_nil, Value.category, junk, oadd, osub, omul, oand, oor, oxor, odiv, orem, oshl, oshr, oushr, omax, omin]; simp (disch := first | omega | simp) [nI_eq, hxl]
        have hcond : ev (cnt (cmz zeq (bn oand (bn oushr (ldI 4) (ldI 7)) (icst 1)))) [.ref 147, .int (nI i), .int (nI kind), .int ow, .int (nI (m0 ||| 2 ^ l)), .int (nI l), .int (nI j), .int (nI x)] h' fun t h1 => t = (m0 ||| 2 ^ l).testBit x ∧ h1 = h' := by
          simp only [q_cnt, q_cmz, q_bn, q_ldI, q_icst]
          refine ⟨_, rfl, _, rfl, ?_⟩
          rw [g1]
          cases (m0 ||| 2 ^ l).testBit x <;> simp
        refine w_sq.mpr (w_siN _ hcond (fun ht => ?_) (fun ht => ?_))
        · rw [if_pos ht] at hr
          simp only [f_mkF, w_sI, w_sR, w_sL, w_sC, w_sk, w_sbr, w_sco, w_rV, w_rI, w_rR, w_rL, w_dI, w_sO, w_sq, w_si, w_pI, w_pZ, w_pR, w_pU, w_qI, w_qB, w_qZ, w_qU, w_qR, w_kV, q_icst, q_lcst, q_xR, q_ldI, q_ldR, q_ldL, q_bn, q_un, q_dv, q_fI, q_fR, q_aI, q_aR, q_aN, q_tn, q_cmp, q_cmz, q_cnt, q_ctt, q_cand, q_cor, q_vn, q_vI, q_vR, q_vL, q_kI, q_kR, q_kL, q_ckI, envN, argE, List.flatMap_cons, List.flatMap_nil, Value.category, junk, oadd, osub, omul, oand, oor, oxor, odiv, orem, oshl, oshr, oushr, omax, omin]; simp [← hr, ofR]
        · rw [if_neg (by rw [ht]; simp)] at hr
          refine w_sk2.mpr ?_
          refine w_sIe (nI x) (by simp only [f_mkF, w_sI, w_sR, w_sL, w_sC, w_sk, w_sbr, w_sco, w_rV, w_rI, w_rR, w_rL, w_dI, w_sO, w_sq, w_si, w_pI, w_pZ, w_pR, w_pU, w_qI, w_qB, w_qZ, w_qU, w_qR, w_kV, q_icst, q_lcst, q_xR, q_ldI, q_ldR, q_ldL, q_bn, q_un, q_dv, q_fI, q_fR, q_aI, q_aR, q_aN, q_tn, q_cmp, q_cmz, q_cnt, q_ctt, q_cand, q_cor, q_vn, q_vI, q_vR, q_vL, q_kI, q_kR, q_kL, q_ckI, envN, argE, List.flatMap_cons, List.flatMap_nil, Value.category, junk, oadd, osub, omul, oand, oor, oxor, odiv, orem, oshl, oshr, oushr, omax, omin]; simp) rfl ⟨fun _ => ?_, (fun z => by cases z), fun z => absurd rfl z⟩
          refine w_sCe (nI j) (nI (j + 1)) rfl (nI_1 _) rfl ⟨rfl, 6 - (j + 1), by omega, rfl, j + 1, m0 ||| 2 ^ l, x, _, rfl, by omega, hx6, k4, rfl, rfl, ?_⟩
          rw [← hr, show 6 - (j + 1) = f by omega]
  · rintro o v E' h' ⟨⟨rfl, rfl⟩ | ⟨rfl, hn2⟩, rfl⟩
    · exact ⟨fun z => (by cases z), fun _ => Or.inr ⟨rfl, rfl, rfl, rfl⟩⟩
    · refine ⟨fun _ => ?_, fun z => absurd rfl z⟩
      simp only [f_mkF, w_sI, w_sR, w_sL, w_sC, w_sk, w_sbr, w_sco, w_rV, w_rI, w_rR, w_rL, w_dI, w_sO, w_sq, w_si, w_pI, w_pZ, w_pR, w_pU, w_qI, w_qB, w_qZ, w_qU, w_qR, w_kV, q_icst, q_lcst, q_xR, q_ldI, q_ldR, q_ldL, q_bn, q_un, q_dv, q_fI, q_fR, q_aI, q_aR, q_aN, q_tn, q_cmp, q_cmz, q_cnt, q_ctt, q_cand, q_cor, q_vn, q_vI, q_vR, q_vL, q_kI, q_kR, q_kL, q_ckI, envN, argE, List.flatMap_cons, List.flatMap_nil, Value.category, junk, oadd, osub, omul, oand, oor, oxor, odiv, orem, oshl, oshr, oushr, omax, omin]
      simp [rk_i, rk_b, rk_o, st1, kill, Value.category, rcv, nog, hn2, ofR]
