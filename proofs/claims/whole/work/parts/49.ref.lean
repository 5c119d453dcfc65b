/-! the reference: the land that is asked, letters, titles -/
def MX (w : Wd) (t : Nat) (h : Hp) : Prop := Ip h ∧ t < 4 ∧ (∀ i k, i < W_n w → k < 8 → mrow h t i k = W_R w i k) ∧ (h.2.1 169 t = W_wo w ∧ h.2.1 170 t = W_fo w ∧ h.2.1 171 t = W_fl w) ∧ h.2.1 166 0 = W_no w ∧ (∀ k, h.2.1 167 k = W_hm w k) ∧ (∀ l k, l < 6 → k < 9 → h.2.1 181 (9 * l + k) = W_sd w l k) ∧ (∀ l, l < 6 → LM h l (W_D w l)) ∧ WV w
/-- what the reference's walk may change -/
def SM (a k : Nat) : Prop := a = 194 ∨ a = 195 ∨ (197 ≤ a ∧ a ≤ 203) ∨ (a = 166 ∧ (k = 50 ∨ k = 51))
theorem LM.fr {S : Nat → Nat → Prop} {h h' : Hp} {l : Nat} {d : LDt} (q : LM h l d) (f : Fr S h h') (hS : ∀ a k, 189 ≤ a → a ≤ 193 → ¬ S a k) : LM h' l d := by
  obtain ⟨f1, f2, f3⟩ := f
  obtain ⟨q1, q2⟩ := q
  refine ⟨by rw [f3 _ _ (hS _ _ (by omega) (by omega))]; exact q1, fun c hc => ?_⟩
  obtain ⟨z1, z2, z3, z4⟩ := q2 c hc
  refine ⟨by rw [f3 _ _ (hS _ _ (by omega) (by omega))]; exact z1, by rw [f3 _ _ (hS _ _ (by omega) (by omega))]; exact z2, by rw [f3 _ _ (hS _ _ (by omega) (by omega))]; exact z3, fun k h1 h2 => ?_⟩
  rw [f3 _ _ (hS _ _ (by omega) (by omega))]
  exact z4 k h1 h2
theorem MX.fr {w : Wd} {t : Nat} {h h' : Hp} (q : MX w t h) (f : Fr SM h h') : MX w t h' := by
  obtain ⟨q1, q2, q3, ⟨q4, q5, q6⟩, q7, q8, q9, q10, q11⟩ := q
  have f' := f
  obtain ⟨f1, f2, f3⟩ := f
  refine ⟨f'.ip q1, q2, fun i k hi hk => by unfold mrow; rw [f3 _ _ (by unfold SM; omega)]; exact q3 i k hi hk, ⟨by rw [f3 _ _ (by unfold SM; omega)]; exact q4, by rw [f3 _ _ (by unfold SM; omega)]; exact q5, by rw [f3 _ _ (by unfold SM; omega)]; exact q6⟩, by rw [f3 _ _ (by unfold SM; omega)]; exact q7, fun k => by rw [f3 _ _ (by unfold SM; omega)]; exact q8 k, fun l k hl hk => by rw [f3 _ _ (by unfold SM; omega)]; exact q9 l k hl hk, fun l hl => (q10 l hl).fr f' fun a k h1 h2 => by unfold SM; omega, q11⟩
theorem m_target {w : Wd} {t : Nat} {h : Hp} (q : MX w t h) {l i kind : Nat} {ow : Int32} (hl : l < 6) (hi : i < W_n w) (hk : kind < 9) (ho : 0 ≤ ow.toInt ∧ ow.toInt < 12) : F_X11_target [.ref 166, .int (nI l), .int (nI t), .int (nI i), .int (nI kind), .int ow] h = some (some (.int (tgt w i kind ow l)), h) := by
  obtain ⟨hp, q2, q3, ⟨q4, q5, q6⟩, q7, q8, q9, q10, q11⟩ := q
  obtain ⟨a1, a2, a3, a4, a5, a6, a7, a8, a9, a10⟩ := q11
  have hn := hp.1
  have hm := hp.2.2
  have s4 := q9 l kind hl hk
  have v := a3 i hi
  have v1 : inI (W_R w i 1) 12 = true := ix_of v.2.1.1 v.2.1.2
  have v2 : inI ow 12 = true := ix_of ho.1 ho.2
  have r8 : h.2.1 174 (22 * t + i) = W_R w i 1 := q3 i 1 hi (by omega)
  have r9 : h.2.1 175 (22 * t + i) = W_R w i 2 := q3 i 2 hi (by omega)
  have d1 : 22 * t + i < 88 := by omega
  have d2 : 9 * l + kind < 54 := by omega
  have e := a9 l kind hl hk
  rw [← fq_eq]
  unfold F_X11_target
  rw [f_mkF]
  refine ⟨by simp [argE, Value.category], ?_⟩
  refine w_sqN ?_
  simp only [f_mkF, w_sI, w_sR, w_sL, w_sC, w_sk, w_sbr, w_sco, w_rV, w_rI, w_rR, w_rL, w_dI, w_sO, w_sq, w_si, w_pI, w_pZ, w_pR, w_pU, w_qI, w_qB, w_qZ, w_qU, w_qR, w_kV, q_icst, q_lcst, q_xR, q_ldI, q_ldR, q_ldL, q_bn, q_un, q_dv, q_fI, q_fR, q_aI, q_aR, q_aN, q_tn, q_cmp, q_cmz, q_cnt, q_ctt, q_cand, q_cor, q_vn, q_vI, q_vR, q_vL, q_kI, q_kR, q_kL, q_ckI, envN, argE, List.flatMap_cons, List.flatMap_nil, Value.category, junk, oadd, osub, omul, oand, oor, oxor, odiv, orem, oshl, oshr, oushr, omax, omin]
  simp (disch := first | omega | simp) [rk_i, rk_b, rk_o, st1, kill, Value.category, rcv, nog, inI_b, nI_clamp, nI_ltI, nI_leI, nI_eq, nI_9, nI_6, nI_22, nI_12, nI_180, nI_add, nI_1]
  rw [w_sw]
  simp only [f_mkF, w_sI, w_sR, w_sL, w_sC, w_sk, w_sbr, w_sco, w_rV, w_rI, w_rR, w_rL, w_dI, w_sO, w_sq, w_si, w_pI, w_pZ, w_pR, w_pU, w_qI, w_qB, w_qZ, w_qU, w_qR, w_kV, q_icst, q_lcst, q_xR, q_ldI, q_ldR, q_ldL, q_bn, q_un, q_dv, q_fI, q_fR, q_aI, q_aR, q_aN, q_tn, q_cmp, q_cmz, q_cnt, q_ctt, q_cand, q_cor, q_vn, q_vI, q_vR, q_vL, q_kI, q_kR, q_kL, q_ckI, envN, argE, List.flatMap_cons, List.flatMap_nil, Value.category, junk, oadd, osub, omul, oand, oor, oxor, odiv, orem, oshl, oshr, oushr, omax, omin]
  rcases i6 e.1 e.2 with e | e | e | e | e | e
  · simp (disch := first | omega | simp) [rk_i, rk_b, rk_o, st1, kill, Value.category, rcv, nog, hn, ly166, ly181, hm 17, mp, inI_b, nI_clamp, nI_ltI, nI_leI, nI_eq, nI_9, nI_6, nI_22, nI_12, nI_180, nI_add, nI_1, d2, s4, e]
    simp only [f_mkF, w_sI, w_sR, w_sL, w_sC, w_sk, w_sbr, w_sco, w_rV, w_rI, w_rR, w_rL, w_dI, w_sO, w_sq, w_si, w_pI, w_pZ, w_pR, w_pU, w_qI, w_qB, w_qZ, w_qU, w_qR, w_kV, q_icst, q_lcst, q_xR, q_ldI, q_ldR, q_ldL, q_bn, q_un, q_dv, q_fI, q_fR, q_aI, q_aR, q_aN, q_tn, q_cmp, q_cmz, q_cnt, q_ctt, q_cand, q_cor, q_vn, q_vI, q_vR, q_vL, q_kI, q_kR, q_kL, q_ckI, envN, argE, List.flatMap_cons, List.flatMap_nil, Value.category, junk, oadd, osub, omul, oand, oor, oxor, odiv, orem, oshl, oshr, oushr, omax, omin]
    simp (disch := first | omega | simp) [rk_i, rk_b, rk_o, st1, kill, Value.category, rcv, nog, tgt, e]
  · simp (disch := first | omega | simp) [rk_i, rk_b, rk_o, st1, kill, Value.category, rcv, nog, hn, ly166, ly181, hm 17, mp, inI_b, nI_clamp, nI_ltI, nI_leI, nI_eq, nI_9, nI_6, nI_22, nI_12, nI_180, nI_add, nI_1, d2, s4, e]
    simp only [f_mkF, w_sI, w_sR, w_sL, w_sC, w_sk, w_sbr, w_sco, w_rV, w_rI, w_rR, w_rL, w_dI, w_sO, w_sq, w_si, w_pI, w_pZ, w_pR, w_pU, w_qI, w_qB, w_qZ, w_qU, w_qR, w_kV, q_icst, q_lcst, q_xR, q_ldI, q_ldR, q_ldL, q_bn, q_un, q_dv, q_fI, q_fR, q_aI, q_aR, q_aN, q_tn, q_cmp, q_cmz, q_cnt, q_ctt, q_cand, q_cor, q_vn, q_vI, q_vR, q_vL, q_kI, q_kR, q_kL, q_ckI, envN, argE, List.flatMap_cons, List.flatMap_nil, Value.category, junk, oadd, osub, omul, oand, oor, oxor, odiv, orem, oshl, oshr, oushr, omax, omin]
    simp (disch := first | omega | simp) [rk_i, rk_b, rk_o, st1, kill, Value.category, rcv, nog, tgt, e, hn, ly166, ly175, hm 11, mp, inI_b, nI_clamp, nI_ltI, nI_leI, nI_eq, nI_9, nI_6, nI_22, nI_12, nI_180, nI_add, nI_1, d1, r9]
  · simp (disch := first | omega | simp) [rk_i, rk_b, rk_o, st1, kill, Value.category, rcv, nog, hn, ly166, ly181, hm 17, mp, inI_b, nI_clamp, nI_ltI, nI_leI, nI_eq, nI_9, nI_6, nI_22, nI_12, nI_180, nI_add, nI_1, d2, s4, e]
    simp only [f_mkF, w_sI, w_sR, w_sL, w_sC, w_sk, w_sbr, w_sco, w_rV, w_rI, w_rR, w_rL, w_dI, w_sO, w_sq, w_si, w_pI, w_pZ, w_pR, w_pU, w_qI, w_qB, w_qZ, w_qU, w_qR, w_kV, q_icst, q_lcst, q_xR, q_ldI, q_ldR, q_ldL, q_bn, q_un, q_dv, q_fI, q_fR, q_aI, q_aR, q_aN, q_tn, q_cmp, q_cmz, q_cnt, q_ctt, q_cand, q_cor, q_vn, q_vI, q_vR, q_vL, q_kI, q_kR, q_kL, q_ckI, envN, argE, List.flatMap_cons, List.flatMap_nil, Value.category, junk, oadd, osub, omul, oand, oor, oxor, odiv, orem, oshl, oshr, oushr, omax, omin]
    by_cases hz : i = 0
    · subst hz
      simp (disch := first | omega | simp) [rk_i, rk_b, rk_o, st1, kill, Value.category, rcv, nog, tgt, e, hn, ly166, ly171, hm 7, mp, inI_b, nI_clamp, nI_ltI, nI_leI, nI_eq, nI_9, nI_6, nI_22, nI_12, nI_180, nI_add, nI_1, nI_0, zne, one, q6, q2]
    · obtain ⟨j, rfl⟩ : ∃ j, i = j + 1 := ⟨i - 1, by omega⟩
      have m9 : h.2.1 175 (22 * t + j) = W_R w j 2 := q3 j 2 (by omega) (by omega)
      have z := nI_ne0 (n := j + 1) (by omega) (by omega)
      simp (disch := first | omega | simp) [rk_i, rk_b, rk_o, st1, kill, Value.category, rcv, nog, tgt, e, hn, ly166, ly175, hm 11, mp, inI_b, nI_clamp, nI_ltI, nI_leI, nI_eq, nI_9, nI_6, nI_22, nI_12, nI_180, nI_add, nI_1, nI_pred2, zne, one, z, m9]
      omega
  · simp (disch := first | omega | simp) [rk_i, rk_b, rk_o, st1, kill, Value.category, rcv, nog, hn, ly166, ly181, hm 17, mp, inI_b, nI_clamp, nI_ltI, nI_leI, nI_eq, nI_9, nI_6, nI_22, nI_12, nI_180, nI_add, nI_1, d2, s4, e]
    simp only [f_mkF, w_sI, w_sR, w_sL, w_sC, w_sk, w_sbr, w_sco, w_rV, w_rI, w_rR, w_rL, w_dI, w_sO, w_sq, w_si, w_pI, w_pZ, w_pR, w_pU, w_qI, w_qB, w_qZ, w_qU, w_qR, w_kV, q_icst, q_lcst, q_xR, q_ldI, q_ldR, q_ldL, q_bn, q_un, q_dv, q_fI, q_fR, q_aI, q_aR, q_aN, q_tn, q_cmp, q_cmz, q_cnt, q_ctt, q_cand, q_cor, q_vn, q_vI, q_vR, q_vL, q_kI, q_kR, q_kL, q_ckI, envN, argE, List.flatMap_cons, List.flatMap_nil, Value.category, junk, oadd, osub, omul, oand, oor, oxor, odiv, orem, oshl, oshr, oushr, omax, omin]
    simp (disch := first | omega | simp) [rk_i, rk_b, rk_o, st1, kill, Value.category, rcv, nog, tgt, e, hn, ly166, ly174, ly167, hm 10, hm 3, mp, inI_b, nI_clamp, nI_ltI, nI_leI, nI_eq, nI_9, nI_6, nI_22, nI_12, nI_180, nI_add, nI_1, d1, r8, v1, q8]
  · simp (disch := first | omega | simp) [rk_i, rk_b, rk_o, st1, kill, Value.category, rcv, nog, hn, ly166, ly181, hm 17, mp, inI_b, nI_clamp, nI_ltI, nI_leI, nI_eq, nI_9, nI_6, nI_22, nI_12, nI_180, nI_add, nI_1, d2, s4, e]
    simp only [f_mkF, w_sI, w_sR, w_sL, w_sC, w_sk, w_sbr, w_sco, w_rV, w_rI, w_rR, w_rL, w_dI, w_sO, w_sq, w_si, w_pI, w_pZ, w_pR, w_pU, w_qI, w_qB, w_qZ, w_qU, w_qR, w_kV, q_icst, q_lcst, q_xR, q_ldI, q_ldR, q_ldL, q_bn, q_un, q_dv, q_fI, q_fR, q_aI, q_aR, q_aN, q_tn, q_cmp, q_cmz, q_cnt, q_ctt, q_cand, q_cor, q_vn, q_vI, q_vR, q_vL, q_kI, q_kR, q_kL, q_ckI, envN, argE, List.flatMap_cons, List.flatMap_nil, Value.category, junk, oadd, osub, omul, oand, oor, oxor, odiv, orem, oshl, oshr, oushr, omax, omin]
    simp (disch := first | omega | simp) [rk_i, rk_b, rk_o, st1, kill, Value.category, rcv, nog, tgt, e, hn, ly166, ly167, hm 3, mp, v2, q8]
  · simp (disch := first | omega | simp) [rk_i, rk_b, rk_o, st1, kill, Value.category, rcv, nog, hn, ly166, ly181, hm 17, mp, inI_b, nI_clamp, nI_ltI, nI_leI, nI_eq, nI_9, nI_6, nI_22, nI_12, nI_180, nI_add, nI_1, d2, s4, e]
    simp only [f_mkF, w_sI, w_sR, w_sL, w_sC, w_sk, w_sbr, w_sco, w_rV, w_rI, w_rR, w_rL, w_dI, w_sO, w_sq, w_si, w_pI, w_pZ, w_pR, w_pU, w_qI, w_qB, w_qZ, w_qU, w_qR, w_kV, q_icst, q_lcst, q_xR, q_ldI, q_ldR, q_ldL, q_bn, q_un, q_dv, q_fI, q_fR, q_aI, q_aR, q_aN, q_tn, q_cmp, q_cmz, q_cnt, q_ctt, q_cand, q_cor, q_vn, q_vI, q_vR, q_vL, q_kI, q_kR, q_kL, q_ckI, envN, argE, List.flatMap_cons, List.flatMap_nil, Value.category, junk, oadd, osub, omul, oand, oor, oxor, odiv, orem, oshl, oshr, oushr, omax, omin]
    simp (disch := first | omega | simp) [rk_i, rk_b, rk_o, st1, kill, Value.category, rcv, nog, tgt, e, hn, ly166, ly171, hm 7, mp, inI_b, nI_clamp, nI_ltI, nI_leI, nI_eq, nI_9, nI_6, nI_22, nI_12, nI_180, nI_add, nI_1, q6, q2]
/-- how many of the six lands are not in the set -/
def unm (m : Nat) : Nat := ((List.range 6).filter fun k => !m.testBit k).length
theorem unm_s : ∀ m, m < 64 → ∀ x, x < 6 → m.testBit x = false → unm (m ||| 2 ^ x) + 1 = unm m := by decide +kernel
theorem unm_f : ∀ f, f < 6 → unm (2 ^ f) = 5 ∧ oshl 1 (nI f) = nI (2 ^ f) ∧ 2 ^ f < 64 := by decide +kernel
theorem MX.wv {w : Wd} {t : Nat} {h : Hp} (q : MX w t h) : WV w := q.2.2.2.2.2.2.2.2
def S50 (a k : Nat) : Prop := a = 166 ∧ k = 50
theorem S50_SM {a k : Nat} (h : S50 a k) : SM a k := by unfold S50 at h; unfold SM; omega
theorem w_pZe {c k : Nat} {a : DR} {b : DI} {E : En} {h : Hp} {Q : Nat → Value → En → Hp → Prop} (A : Nat) (v : Int32) (ha : ev a E h fun x h1 => x = A ∧ h1 = h) (hb : ev b E h fun x h1 => x = v ∧ h1 = h) (hA : A < h.1) (hL : (LY A).1 = c) (hv : v = 0 ∨ v = 1) (hQ : Q 0 .null E (wI h A k v)) : wp (pZ c k a b) E h Q := by
  rw [w_pZ]
  refine ev_mono ha ?_
  rintro x h1 ⟨rfl, rfl⟩
  refine ev_mono hb ?_
  rintro z h1 ⟨rfl, rfl⟩
  exact ⟨⟨hA, hL, hv⟩, hQ⟩
theorem m_ruler {w : Wd} {t : Nat} {h : Hp} (q : MX w t h) {i kind : Nat} {ow : Int32} (hi : i < W_n w) (hk : kind < 9) (ho : 0 ≤ ow.toInt ∧ ow.toInt < 12) : fq F_X11_ruler [.ref 166, .int (nI (W_f w)), .int (nI t), .int (nI i), .int (nI kind), .int ow] h fun r h' => r = some (.int (nI (askd w i kind ow))) ∧ Fr S50 h h' ∧ h'.2.1 166 50 = b2 (rul w i kind ow = none) := by
  have hn := q.1.1
  have hw := q.wv
  have hf := hw.2.1
  obtain ⟨u1, u2, u3⟩ := unm_f _ hf
  have htg : ∀ l, l < 6 → 0 ≤ (tgt w i kind ow l).toInt ∧ (tgt w i kind ow l).toInt ≤ 5 := fun l hl => tgt_ok hw hi hl
  have hE : envN 9 [Value.ref 166, Value.int (nI (W_f w)), Value.int (nI t), Value.int (nI i), Value.int (nI kind), Value.int ow] = [Value.ref 166, Value.int (nI (W_f w)), Value.int (nI t), Value.int (nI i), Value.int (nI kind), Value.int ow, junk, junk, junk] := rfl
  unfold F_X11_ruler
  refine f_mkE _ hE (by simp [argE, Value.category]) ?_
  refine w_sqI (nI (2 ^ W_f w)) (by simp only [f_mkF, w_sI, w_sR, w_sL, w_sC, w_sk, w_sbr, w_sco, w_rV, w_rI, w_rR, w_rL, w_dI, w_sO, w_sq, w_si, w_pI, w_pZ, w_pR, w_pU, w_qI, w_qB, w_qZ, w_qU, w_qR, w_kV, q_icst, q_lcst, q_xR, q_ldI, q_ldR, q_ldL, q_bn, q_un, q_dv, q_fI, q_fR, q_aI, q_aR, q_aN, q_tn, q_cmp, q_cmz, q_cnt, q_ctt, q_cand, q_cor, q_vn, q_vI, q_vR, q_vL, q_kI, q_kR, q_kL, q_ckI, envN, argE, List.flatMap_cons, List.flatMap_nil, Value.category, junk, oadd, osub, omul, oand, oor, oxor, odiv, orem, oshl, omax, omin]; simp; exact u2) rfl ?_
  refine w_sqI (nI (W_f w)) (by simp only [f_mkF, w_sI, w_sR, w_sL, w_sC, w_sk, w_sbr, w_sco, w_rV, w_rI, w_rR, w_rL, w_dI, w_sO, w_sq, w_si, w_pI, w_pZ, w_pR, w_pU, w_qI, w_qB, w_qZ, w_qU, w_qR, w_kV, q_icst, q_lcst, q_xR, q_ldI, q_ldR, q_ldL, q_bn, q_un, q_dv, q_fI, q_fR, q_aI, q_aR, q_aN, q_tn, q_cmp, q_cmz, q_cnt, q_ctt, q_cand, q_cor, q_vn, q_vI, q_vR, q_vL, q_kI, q_kR, q_kL, q_ckI, envN, argE, List.flatMap_cons, List.flatMap_nil, Value.category, junk, oadd, osub, omul, oand, oor, oxor, odiv, orem, oshl, oshr, oushr, omax, omin]; simp [rk_i, rk_b, rk_o, st1, kill, Value.category, rcv, nog]) rfl ?_
  refine w_sqS (fun E1 h1 => E1 = [Value.ref 166, Value.int (nI (W_f w)), Value.int (nI t), Value.int (nI i), Value.int (nI kind), Value.int ow, .int (nI (2 ^ W_f w)), .int (nI (W_f w)), junk] ∧ h1 = wI h 166 50 0) (w_pZe 166 0 (by simp only [f_mkF, w_sI, w_sR, w_sL, w_sC, w_sk, w_sbr, w_sco, w_rV, w_rI, w_rR, w_rL, w_dI, w_sO, w_sq, w_si, w_pI, w_pZ, w_pR, w_pU, w_qI, w_qB, w_qZ, w_qU, w_qR, w_kV, q_icst, q_lcst, q_xR, q_ldI, q_ldR, q_ldL, q_bn, q_un, q_dv, q_fI, q_fR, q_aI, q_aR, q_aN, q_tn, q_cmp, q_cmz, q_cnt, q_ctt, q_cand, q_cor, q_vn, q_vI, q_vR, q_vL, q_kI, q_kR, q_kL, q_ckI, envN, argE, List.flatMap_cons, List.flatMap_nil, Value.category, junk, oadd, osub, omul, oand, oor, oxor, odiv, orem, oshl, oshr, oushr, omax, omin]; simp [rk_i, rk_b, rk_o, st1, kill, Value.category, rcv, nog]) (by simp only [f_mkF, w_sI, w_sR, w_sL, w_sC, w_sk, w_sbr, w_sco, w_rV, w_rI, w_rR, w_rL, w_dI, w_sO, w_sq, w_si, w_pI, w_pZ, w_pR, w_pU, w_qI, w_qB, w_qZ, w_qU, w_qR, w_kV, q_icst, q_lcst, q_xR, q_ldI, q_ldR, q_ldL, q_bn, q_un, q_dv, q_fI, q_fR, q_aI, q_aR, q_aN, q_tn, q_cmp, q_cmz, q_cnt, q_ctt, q_cand, q_cor, q_vn, q_vI, q_vR, q_vL, q_kI, q_kR, q_kL, q_ckI, envN, argE, List.flatMap_cons, List.flatMap_nil, Value.category, junk, oadd, osub, omul, oand, oor, oxor, odiv, orem, oshl, oshr, oushr, omax, omin]; simp [rk_i, rk_b, rk_o, st1, kill, Value.category, rcv, nog]) (by omega) rfl (Or.inl rfl) ⟨rfl, rfl, rfl⟩) ?_
  rintro E1 h1 ⟨rfl, rfl⟩
  have fr1 : Fr S50 h (wI h 166 50 0) := (Fr.refl h).w ⟨rfl, rfl⟩
  have q1 : MX w t (wI h 166 50 0) := q.fr (fr1.sub fun a k z => S50_SM z)
  refine w_lp (fun c E h' => h' = wI h 166 50 0 ∧ ∃ m l v8, c = unm m ∧ m < 64 ∧ l < 6 ∧ E = [.ref 166, .int (nI (W_f w)), .int (nI t), .int (nI i), .int (nI kind), .int ow, .int (nI m), .int (nI l), v8] ∧ v8.category = 1 ∧ rulF (tgt w i kind ow) (unm m + 1) m l = rul w i kind ow) ?_ (unm (2 ^ W_f w)) _ _ ⟨rfl, 2 ^ W_f w, W_f w, junk, rfl, u3, hf, rfl, rfl, by rw [u1]; rfl⟩
  rintro c E h' ⟨rfl, m, l, v8, rfl, hm, hl, rfl, c8, hr⟩
  rw [q_ctt]
  refine ⟨fun z => (by cases z), fun _ => ?_⟩
  rw [rulF] at hr
  obtain ⟨x, hx, hx2, hx3⟩ := ofN (htg l hl).1 (htg l hl).2
  rw [hx3] at hr
  have hx4 := htg l hl
  have hx6 : x < 6 := by omega
  obtain ⟨-, g1, k3, k4⟩ := mskA m hm x hx6
  have e1 := m_target q1 (l := l) (kind := kind) (ow := ow) hl hi hk ho
  rw [hx] at e1
  have hn1 : (wI h 166 50 0).1 = 212 := hn
  refine w_sqI (E' := [.ref 166, .int (nI (W_f w)), .int (nI t), .int (nI i), .int (nI kind), .int ow, .int (nI m), .int (nI l), .int (nI x)]) (nI x) ?_ (by simp [st1, kill, Value.category]) ?_
  · simp only [f_mkF, w_sI, w_sR, w_sL, w_sC, w_sk, w_sbr, w_sco, w_rV, w_rI, w_rR, w_rL, w_dI, w_sO, w_sq, w_si, w_pI, w_pZ, w_pR, w_pU, w_qI, w_qB, w_qZ, w_qU, w_qR, w_kV, q_icst, q_lcst, q_xR, q_ldI, q_ldR, q_ldL, q_bn, q_un, q_dv, q_fI, q_fR, q_aI, q_aR, q_aN, q_tn, q_cmp, q_cmz, q_cnt, q_ctt, q_cand, q_cor, q_vn, q_vI, q_vR, q_vL, q_kI, q_kR, q_kL, q_ckI, envN, argE, List.flatMap_cons, List.flatMap_nil, Value.category, junk, oadd, osub, omul, oand, oor, oxor, odiv, orem, oshl, oshr, oushr, omax, omin]
    simp [rk_i, rk_b, rk_o, st1, kill, Value.category, rcv, nog, hn1, ly166, fq_of e1]
  by_cases hxl : x = l
  · rw [if_pos hxl] at hr
    refine w_sq.mpr ((w_siT ?_).mpr ?_)
    · simp only [f_mkF, w_sI, w_sR, w_sL, w_sC, w_sk, w_sbr, w_sco, w_rV, w_rI, w_rR, w_rL, w_dI, w_sO, w_sq, w_si, w_pI, w_pZ, w_pR, w_pU, w_qI, w_qB, w_qZ, w_qU, w_qR, w_kV, q_icst, q_lcst, q_xR, q_ldI, q_ldR, q_ldL, q_bn, q_un, q_dv, q_fI, q_fR, q_aI, q_aR, q_aN, q_tn, q_cmp, q_cmz, q_cnt, q_ctt, q_cand, q_cor, q_vn, q_vI, q_vR, q_vL, q_kI, q_kR, q_kL, q_ckI, envN, argE, List.flatMap_cons, List.flatMap_nil, Value.category, junk, oadd, osub, omul, oand, oor, oxor, odiv, orem, oshl, oshr, oushr, omax, omin]; simp [rk_i, rk_b, rk_o, st1, kill, Value.category, rcv, nog, hxl]
    · simp only [f_mkF, w_sI, w_sR, w_sL, w_sC, w_sk, w_sbr, w_sco, w_rV, w_rI, w_rR, w_rL, w_dI, w_sO, w_sq, w_si, w_pI, w_pZ, w_pR, w_pU, w_qI, w_qB, w_qZ, w_qU, w_qR, w_kV, q_icst, q_lcst, q_xR, q_ldI, q_ldR, q_ldL, q_bn, q_un, q_dv, q_fI, q_fR, q_aI, q_aR, q_aN, q_tn, q_cmp, q_cmz, q_cnt, q_ctt, q_cand, q_cor, q_vn, q_vI, q_vR, q_vL, q_kI, q_kR, q_kL, q_ckI, envN, argE, List.flatMap_cons, List.flatMap_nil, Value.category, junk, oadd, osub, omul, oand, oor, oxor, odiv, orem, oshl, oshr, oushr, omax, omin]
      simp [rk_i, rk_b, rk_o, st1, kill, Value.category, rcv, nog, ← hr, askd, b2, wI_i, fr1]
  · rw [if_neg hxl] at hr
    refine w_sq.mpr ((w_siF ?_).mpr (w_sk2.mpr ?_))
    · simp only [f_mkF, w_sI, w_sR, w_sL, w_sC, w_sk, w_sbr, w_sco, w_rV, w_rI, w_rR, w_rL, w_dI, w_sO, w_sq, w_si, w_pI, w_pZ, w_pR, w_pU, w_qI, w_qB, w_qZ, w_qU, w_qR, w_kV, q_icst, q_lcst, q_xR, q_ldI, q_ldR, q_ldL, q_bn, q_un, q_dv, q_fI, q_fR, q_aI, q_aR, q_aN, q_tn, q_cmp, q_cmz, q_cnt, q_ctt, q_cand, q_cor, q_vn, q_vI, q_vR, q_vL, q_kI, q_kR, q_kL, q_ckI, envN, argE, List.flatMap_cons, List.flatMap_nil, Value.category, junk, oadd, osub, omul, oand, oor, oxor, odiv, orem, oshl, oshr, oushr, omax, omin]; simp (disch := first | omega | simp) [nI_eq, hxl]
    have hcond : ev (cnt (cmp one (bn oand (bn oshr (ldI 6) (ldI 8)) (icst 1)) (icst 1))) [.ref 166, .int (nI (W_f w)), .int (nI t), .int (nI i), .int (nI kind), .int ow, .int (nI m), .int (nI l), .int (nI x)] (wI h 166 50 0) fun t h1 => t = m.testBit x ∧ h1 = wI h 166 50 0 := by
      simp only [q_cnt, q_cmp, q_bn, q_ldI, q_icst]
      refine ⟨_, rfl, _, rfl, ?_⟩
      rw [g1]
      cases m.testBit x <;> simp
    refine w_sq.mpr (w_siN _ hcond (fun ht => ?_) (fun ht => ?_))
    · rw [if_pos ht] at hr
      refine w_sqS (fun E1 h1 => E1[1]? = some (.int (nI (W_f w))) ∧ h1 = wI (wI h 166 50 0) 166 50 1) (w_pZe 166 1 (by simp only [f_mkF, w_sI, w_sR, w_sL, w_sC, w_sk, w_sbr, w_sco, w_rV, w_rI, w_rR, w_rL, w_dI, w_sO, w_sq, w_si, w_pI, w_pZ, w_pR, w_pU, w_qI, w_qB, w_qZ, w_qU, w_qR, w_kV, q_icst, q_lcst, q_xR, q_ldI, q_ldR, q_ldL, q_bn, q_un, q_dv, q_fI, q_fR, q_aI, q_aR, q_aN, q_tn, q_cmp, q_cmz, q_cnt, q_ctt, q_cand, q_cor, q_vn, q_vI, q_vR, q_vL, q_kI, q_kR, q_kL, q_ckI, envN, argE, List.flatMap_cons, List.flatMap_nil, Value.category, junk, oadd, osub, omul, oand, oor, oxor, odiv, orem, oshl, oshr, oushr, omax, omin]; simp [rk_i, rk_b, rk_o, st1, kill, Value.category, rcv, nog]) (by simp only [f_mkF, w_sI, w_sR, w_sL, w_sC, w_sk, w_sbr, w_sco, w_rV, w_rI, w_rR, w_rL, w_dI, w_sO, w_sq, w_si, w_pI, w_pZ, w_pR, w_pU, w_qI, w_qB, w_qZ, w_qU, w_qR, w_kV, q_icst, q_lcst, q_xR, q_ldI, q_ldR, q_ldL, q_bn, q_un, q_dv, q_fI, q_fR, q_aI, q_aR, q_aN, q_tn, q_cmp, q_cmz, q_cnt, q_ctt, q_cand, q_cor, q_vn, q_vI, q_vR, q_vL, q_kI, q_kR, q_kL, q_ckI, envN, argE, List.flatMap_cons, List.flatMap_nil, Value.category, junk, oadd, osub, omul, oand, oor, oxor, odiv, orem, oshl, oshr, oushr, omax, omin]; simp [rk_i, rk_b, rk_o, st1, kill, Value.category, rcv, nog]) (by omega) rfl (Or.inr rfl) ⟨rfl, rfl, rfl⟩) ?_
      rintro E1 h1 ⟨hE1, rfl⟩
      simp only [f_mkF, w_sI, w_sR, w_sL, w_sC, w_sk, w_sbr, w_sco, w_rV, w_rI, w_rR, w_rL, w_dI, w_sO, w_sq, w_si, w_pI, w_pZ, w_pR, w_pU, w_qI, w_qB, w_qZ, w_qU, w_qR, w_kV, q_icst, q_lcst, q_xR, q_ldI, q_ldR, q_ldL, q_bn, q_un, q_dv, q_fI, q_fR, q_aI, q_aR, q_aN, q_tn, q_cmp, q_cmz, q_cnt, q_ctt, q_cand, q_cor, q_vn, q_vI, q_vR, q_vL, q_kI, q_kR, q_kL, q_ckI, envN, argE, List.flatMap_cons, List.flatMap_nil, Value.category, junk, oadd, osub, omul, oand, oor, oxor, odiv, orem, oshl, oshr, oushr, omax, omin]
      simp [rk_i, rk_b, rk_o, st1, kill, Value.category, rcv, nog, hE1, ← hr, askd, b2, wI_i, fr1.w (show S50 166 50 from ⟨rfl, rfl⟩)]
    · rw [if_neg (by rw [ht]; simp)] at hr
      have us := unm_s m hm x hx6 ht
      refine w_sk2.mpr ?_
      refine w_sqI (E' := [.ref 166, .int (nI (W_f w)), .int (nI t), .int (nI i), .int (nI kind), .int ow, .int (nI (m ||| 2 ^ x)), .int (nI l), .int (nI x)]) (nI (m ||| 2 ^ x)) ?_ (by simp [st1, kill, Value.category]) ?_
      · rw [← k3]
        simp only [q_bn, q_ldI, q_icst]
        refine ⟨nI m, rfl, nI x, rfl, ?_⟩
        simp
      refine w_sIe (nI x) (by simp only [f_mkF, w_sI, w_sR, w_sL, w_sC, w_sk, w_sbr, w_sco, w_rV, w_rI, w_rR, w_rL, w_dI, w_sO, w_sq, w_si, w_pI, w_pZ, w_pR, w_pU, w_qI, w_qB, w_qZ, w_qU, w_qR, w_kV, q_icst, q_lcst, q_xR, q_ldI, q_ldR, q_ldL, q_bn, q_un, q_dv, q_fI, q_fR, q_aI, q_aR, q_aN, q_tn, q_cmp, q_cmz, q_cnt, q_ctt, q_cand, q_cor, q_vn, q_vI, q_vR, q_vL, q_kI, q_kR, q_kL, q_ckI, envN, argE, List.flatMap_cons, List.flatMap_nil, Value.category, junk, oadd, osub, omul, oand, oor, oxor, odiv, orem, oshl, oshr, oushr, omax, omin]; simp [rk_i, rk_b, rk_o, st1, kill, Value.category, rcv, nog]) rfl ⟨fun _ => w_sk.mpr ⟨rfl, unm (m ||| 2 ^ x), by omega, rfl, m ||| 2 ^ x, x, _, rfl, k4, hx6, rfl, rfl, ?_⟩, (fun z => by cases z), fun z => absurd rfl z⟩
      rw [us, hr]
theorem m_st {w : Wd} {t : Nat} {h : Hp} {M : Nat → Int32} (j : Nat) (v : Int32) {b : DI} {s : Sm} {E : En} {Q : Nat → Value → En → Hp → Prop} (q : MX w t h ∧ h.2.1 196 = M) (hj : j < 13) (hE : E[0]? = some (.ref 166)) (hb : ∀ h', MX w t h' → h'.2.1 196 = M → ev b E h' fun y h1 => y = v ∧ h1 = h') (hs : MX w t (wI h 195 j v) ∧ (wI h 195 j v).2.1 196 = M → wp s E (wI h 195 j v) Q) : wp (sq (qI 13 (fR 11 40 (ldR 0)) (icst (nI j)) b) s) E h Q := by
  obtain ⟨q, hM⟩ := q
  have hn := q.1.1
  have hm : h.2.2 166 40 = some 195 := q.1.2.2 40
  refine w_sqN ?_
  rw [w_qI, q_fR, q_ldR]
  refine ⟨166, hE, ⟨by omega, rfl⟩, 195, hm, ?_⟩
  rw [q_icst]
  refine ev_mono (hb h q hM) ?_
  rintro y h1 ⟨rfl, rfl⟩
  have hj' : inI (nI j) 13 = true := by rw [inI_b (by omega)]; simp [hj]
  refine ⟨⟨by omega, rfl, hj'⟩, rfl, ?_⟩
  rw [nI_clamp (by omega)]
  refine hs ⟨q.fr ((Fr.refl h1).w (Or.inr (Or.inl rfl))), ?_⟩
  rw [wI_o (by decide)]
  exact hM
theorem frm_c {R R' : Nat → Nat → Int32} {fo : Int32} {i : Nat} (e : ∀ j, j < i → R j 1 = R' j 1) : frm R fo i = frm R' fo i := by
  unfold frm
  split
  · rfl
  · exact e _ (by omega)
theorem regd_c {R R' : Nat → Nat → Int32} {fo : Int32} : ∀ {i : Nat}, (∀ j, j < i → R j 1 = R' j 1 ∧ R j 5 = R' j 5) → regd R fo i = regd R' fo i := by
  intro i
  induction i with
  | zero => intro _; rfl
  | succ i ih =>
    intro e
    unfold regd
    rw [(e i (by omega)).1, (e i (by omega)).2, ih fun j hj => e j (by omega)]
theorem MX.fw {w : Wd} {t : Nat} {h : Hp} (q : MX w t h) {i : Nat} (hi : i ≤ W_n w) : F_X11_fromOf [.ref 166, .int (nI t), .int (nI i)] h = some (some (.int (frm (W_R w) (W_fo w) i)), h) := by
  have n20 := q.wv.1
  have := e_m_from q.1 q.2.1 (i := i) (by omega)
  rw [q.2.2.2.1.2.1, frm_c (R' := W_R w) fun j hj => q.2.2.1 j 1 (by omega) (by omega)] at this
  exact this
theorem MX.rg {w : Wd} {t : Nat} {h : Hp} (q : MX w t h) {i : Nat} (hi : i ≤ W_n w) : F_X11_registered [.ref 166, .int (nI t), .int (nI i)] h = some (some (.int (regd (W_R w) (W_fo w) i)), h) := by
  have n20 := q.wv.1
  have := e_m_reg q.1 q.2.1 (i := i) (by omega)
  rw [q.2.2.2.1.2.1, regd_c (R' := W_R w) fun j hj => ⟨q.2.2.1 j 1 (by omega) (by omega), q.2.2.1 j 5 (by omega) (by omega)⟩] at this
  exact this
theorem MX.row {w : Wd} {t : Nat} {h : Hp} (q : MX w t h) {i : Nat} (hi : i < W_n w) : 22 * t + i < 88 ∧ h.2.1 173 (22 * t + i) = W_R w i 0 ∧ h.2.1 174 (22 * t + i) = W_R w i 1 ∧ h.2.1 175 (22 * t + i) = W_R w i 2 ∧ h.2.1 176 (22 * t + i) = W_R w i 3 ∧ h.2.1 177 (22 * t + i) = W_R w i 4 ∧ h.2.1 178 (22 * t + i) = W_R w i 5 := by
  have n20 := q.wv.1
  have ht := q.2.1
  exact ⟨by omega, q.2.2.1 i 0 hi (by omega), q.2.2.1 i 1 hi (by omega), q.2.2.1 i 2 hi (by omega), q.2.2.1 i 3 hi (by omega), q.2.2.1 i 4 hi (by omega), q.2.2.1 i 5 hi (by omega)⟩
theorem sg_k : ∀ s, s < 8 → oand (nI s) 1 = b2 (nI s &&& 1 ≠ 0) ∧ oand (oshr (nI s) 1) 1 = b2 (nI s &&& 2 ≠ 0) := by decide +kernel
theorem m_feels {w : Wd} {t : Nat} {h : Hp} (q : MX w t h) {i left : Nat} (hi : i < W_n w) (hl : left ≤ i) (d j : Int32) : fq F_X11_feels [.ref 166, .int (nI t), .int (nI i), .int (frm (W_R w) (W_fo w) left), .int (b2 (W_R w left 0 = 3 ∨ W_R w left 0 = 4)), .int j, .int (nI (i - left + 1)), .int d] h fun r h' => r = none ∧ Fr (fun a _ => a = 195) h h' ∧ ∀ k, k < 13 → h'.2.1 195 k = fct w i left (h.2.1 196 i) d j k := by
  have n20 := q.wv.1
  have ht := q.2.1
  have v := q.wv.2.2.1 i hi
  have v1 : inI (W_R w i 1) 12 = true := ix_of v.2.1.1 v.2.1.2
  have hv := frm_ok q.wv (i := left) (by omega)
  have v2 : inI (frm (W_R w) (W_fo w) left) 12 = true := ix_of hv.1 hv.2
  have i22 : i < 22 := by omega
  have v5 := v.2.2.2.2.2.2.1
  obtain ⟨sg, z1, z2, -⟩ := ofN v.2.2.2.2.2.2.1.1 v.2.2.2.2.2.2.1.2
  obtain ⟨s1, s2⟩ := sg_k sg (by omega)
  rw [← z1] at s1 s2
  generalize hM : h.2.1 196 = M
  have qM : MX w t h ∧ h.2.1 196 = M := ⟨q, hM⟩
  have hE : envN 9 [Value.ref 166, .int (nI t), .int (nI i), .int (frm (W_R w) (W_fo w) left), .int (b2 (W_R w left 0 = 3 ∨ W_R w left 0 = 4)), .int j, .int (nI (i - left + 1)), .int d] = [Value.ref 166, .int (nI t), .int (nI i), .int (frm (W_R w) (W_fo w) left), .int (b2 (W_R w left 0 = 3 ∨ W_R w left 0 = 4)), .int j, .int (nI (i - left + 1)), .int d, junk] := rfl
  unfold F_X11_feels
  refine f_mkE _ hE (by simp [argE, Value.category]) ?_
  refine w_sqI (nI (22 * t + i)) (by simp only [f_mkF, w_sI, w_sR, w_sL, w_sC, w_sk, w_sbr, w_sco, w_rV, w_rI, w_rR, w_rL, w_dI, w_sO, w_sq, w_si, w_pI, w_pZ, w_pR, w_pU, w_qI, w_qB, w_qZ, w_qU, w_qR, w_kV, q_icst, q_lcst, q_xR, q_ldI, q_ldR, q_ldL, q_bn, q_un, q_dv, q_fI, q_fR, q_aI, q_aR, q_aN, q_tn, q_cmp, q_cmz, q_cnt, q_ctt, q_cand, q_cor, q_vn, q_vI, q_vR, q_vL, q_kI, q_kR, q_kL, q_ckI, envN, argE, List.flatMap_cons, List.flatMap_nil, Value.category, junk, oadd, osub, omul, oand, oor, oxor, odiv, orem, oshl, oshr, oushr, omax, omin]; simp [rk_i, rk_b, rk_o, st1, kill, Value.category, rcv, nog, nI_22, nI_add]) rfl ?_
  refine m_st 0 (M i) qM (by omega) rfl (fun h' q' hM' => ?_) fun qM => ?_
  · have hn := q'.1.1
    have hm := q'.1.2.2
    simp only [f_mkF, w_sI, w_sR, w_sL, w_sC, w_sk, w_sbr, w_sco, w_rV, w_rI, w_rR, w_rL, w_dI, w_sO, w_sq, w_si, w_pI, w_pZ, w_pR, w_pU, w_qI, w_qB, w_qZ, w_qU, w_qR, w_kV, q_icst, q_lcst, q_xR, q_ldI, q_ldR, q_ldL, q_bn, q_un, q_dv, q_fI, q_fR, q_aI, q_aR, q_aN, q_tn, q_cmp, q_cmz, q_cnt, q_ctt, q_cand, q_cor, q_vn, q_vI, q_vR, q_vL, q_kI, q_kR, q_kL, q_ckI, envN, argE, List.flatMap_cons, List.flatMap_nil, Value.category, junk, oadd, osub, omul, oand, oor, oxor, odiv, orem, oshl, oshr, oushr, omax, omin]
    simp (disch := first | omega | simp) [rk_i, rk_b, rk_o, st1, kill, Value.category, rcv, nog, inI_b, nI_clamp, nI_ltI, nI_leI, nI_eq, nI_9, nI_6, nI_22, nI_12, nI_180, nI_add, nI_1, hn, ly166, hm 42, mp, ly196, i22, hM']
  refine m_st 1 (b2 (W_R w i 5 &&& 1 ≠ 0)) qM (by omega) rfl (fun h' q' hM' => ?_) fun qM => ?_
  · have hn := q'.1.1
    have hm := q'.1.2.2
    obtain ⟨r0, r1, r2, r3, r4, r5, r6⟩ := q'.row hi
    simp only [f_mkF, w_sI, w_sR, w_sL, w_sC, w_sk, w_sbr, w_sco, w_rV, w_rI, w_rR, w_rL, w_dI, w_sO, w_sq, w_si, w_pI, w_pZ, w_pR, w_pU, w_qI, w_qB, w_qZ, w_qU, w_qR, w_kV, q_icst, q_lcst, q_xR, q_ldI, q_ldR, q_ldL, q_bn, q_un, q_dv, q_fI, q_fR, q_aI, q_aR, q_aN, q_tn, q_cmp, q_cmz, q_cnt, q_ctt, q_cand, q_cor, q_vn, q_vI, q_vR, q_vL, q_kI, q_kR, q_kL, q_ckI, envN, argE, List.flatMap_cons, List.flatMap_nil, Value.category, junk, oadd, osub, omul, oand, oor, oxor, odiv, orem, oshl, oshr, oushr, omax, omin]
    simp (disch := first | omega | simp) [rk_i, rk_b, rk_o, st1, kill, Value.category, rcv, nog, inI_b, nI_clamp, nI_ltI, nI_leI, nI_eq, nI_9, nI_6, nI_22, nI_12, nI_180, nI_add, nI_1, hn, ly166, hm 14, mp, ly178, r0, r6]
    exact s1
  refine m_st 2 (b2 (W_R w i 5 &&& 2 ≠ 0)) qM (by omega) rfl (fun h' q' hM' => ?_) fun qM => ?_
  · have hn := q'.1.1
    have hm := q'.1.2.2
    obtain ⟨r0, r1, r2, r3, r4, r5, r6⟩ := q'.row hi
    simp only [f_mkF, w_sI, w_sR, w_sL, w_sC, w_sk, w_sbr, w_sco, w_rV, w_rI, w_rR, w_rL, w_dI, w_sO, w_sq, w_si, w_pI, w_pZ, w_pR, w_pU, w_qI, w_qB, w_qZ, w_qU, w_qR, w_kV, q_icst, q_lcst, q_xR, q_ldI, q_ldR, q_ldL, q_bn, q_un, q_dv, q_fI, q_fR, q_aI, q_aR, q_aN, q_tn, q_cmp, q_cmz, q_cnt, q_ctt, q_cand, q_cor, q_vn, q_vI, q_vR, q_vL, q_kI, q_kR, q_kL, q_ckI, envN, argE, List.flatMap_cons, List.flatMap_nil, Value.category, junk, oadd, osub, omul, oand, oor, oxor, odiv, orem, oshl, omax, omin]
    simp (disch := first | omega | simp) [rk_i, rk_b, rk_o, st1, kill, Value.category, rcv, nog, inI_b, nI_clamp, nI_ltI, nI_leI, nI_eq, nI_9, nI_6, nI_22, nI_12, nI_180, nI_add, nI_1, hn, ly166, hm 14, mp, ly178, r0, r6]
    exact s2
  refine m_st 3 (b2 (regd (W_R w) (W_fo w) i = frm (W_R w) (W_fo w) i)) qM (by omega) rfl (fun h' q' hM' => ?_) fun qM => ?_
  · have hn := q'.1.1
    simp only [f_mkF, w_sI, w_sR, w_sL, w_sC, w_sk, w_sbr, w_sco, w_rV, w_rI, w_rR, w_rL, w_dI, w_sO, w_sq, w_si, w_pI, w_pZ, w_pR, w_pU, w_qI, w_qB, w_qZ, w_qU, w_qR, w_kV, q_icst, q_lcst, q_xR, q_ldI, q_ldR, q_ldL, q_bn, q_un, q_dv, q_fI, q_fR, q_aI, q_aR, q_aN, q_tn, q_cmp, q_cmz, q_cnt, q_ctt, q_cand, q_cor, q_vn, q_vI, q_vR, q_vL, q_kI, q_kR, q_kL, q_ckI, envN, argE, List.flatMap_cons, List.flatMap_nil, Value.category, junk, oadd, osub, omul, oand, oor, oxor, odiv, orem, oshl, oshr, oushr, omax, omin]
    simp (disch := first | omega | simp) [rk_i, rk_b, rk_o, st1, kill, Value.category, rcv, nog, hn, ly166, fq_of (q'.rg (i := i) (by omega)), fq_of (q'.fw (i := i) (by omega)), b2]
    try grind
  refine m_st 4 (b2 (W_R w left 0 = 3 ∨ W_R w left 0 = 4)) qM (by omega) rfl (fun h' q' hM' => ?_) fun qM => ?_
  · simp only [f_mkF, w_sI, w_sR, w_sL, w_sC, w_sk, w_sbr, w_sco, w_rV, w_rI, w_rR, w_rL, w_dI, w_sO, w_sq, w_si, w_pI, w_pZ, w_pR, w_pU, w_qI, w_qB, w_qZ, w_qU, w_qR, w_kV, q_icst, q_lcst, q_xR, q_ldI, q_ldR, q_ldL, q_bn, q_un, q_dv, q_fI, q_fR, q_aI, q_aR, q_aN, q_tn, q_cmp, q_cmz, q_cnt, q_ctt, q_cand, q_cor, q_vn, q_vI, q_vR, q_vL, q_kI, q_kR, q_kL, q_ckI, envN, argE, List.flatMap_cons, List.flatMap_nil, Value.category, junk, oadd, osub, omul, oand, oor, oxor, odiv, orem, oshl, oshr, oushr, omax, omin]; simp [rk_i, rk_b, rk_o, st1, kill, Value.category, rcv, nog]
  refine m_st 5 (W_R w i 4) qM (by omega) rfl (fun h' q' hM' => ?_) fun qM => ?_
  · have hn := q'.1.1
    have hm := q'.1.2.2
    obtain ⟨r0, r1, r2, r3, r4, r5, r6⟩ := q'.row hi
    simp only [f_mkF, w_sI, w_sR, w_sL, w_sC, w_sk, w_sbr, w_sco, w_rV, w_rI, w_rR, w_rL, w_dI, w_sO, w_sq, w_si, w_pI, w_pZ, w_pR, w_pU, w_qI, w_qB, w_qZ, w_qU, w_qR, w_kV, q_icst, q_lcst, q_xR, q_ldI, q_ldR, q_ldL, q_bn, q_un, q_dv, q_fI, q_fR, q_aI, q_aR, q_aN, q_tn, q_cmp, q_cmz, q_cnt, q_ctt, q_cand, q_cor, q_vn, q_vI, q_vR, q_vL, q_kI, q_kR, q_kL, q_ckI, envN, argE, List.flatMap_cons, List.flatMap_nil, Value.category, junk, oadd, osub, omul, oand, oor, oxor, odiv, orem, oshl, oshr, oushr, omax, omin]
    simp (disch := first | omega | simp) [rk_i, rk_b, rk_o, st1, kill, Value.category, rcv, nog, inI_b, nI_clamp, nI_ltI, nI_leI, nI_eq, nI_9, nI_6, nI_22, nI_12, nI_180, nI_add, nI_1, hn, ly166, hm 13, mp, ly177, r0, r5]
  refine m_st 6 (W_wo w) qM (by omega) rfl (fun h' q' hM' => ?_) fun qM => ?_
  · have hn := q'.1.1
    have hm := q'.1.2.2
    simp only [f_mkF, w_sI, w_sR, w_sL, w_sC, w_sk, w_sbr, w_sco, w_rV, w_rI, w_rR, w_rL, w_dI, w_sO, w_sq, w_si, w_pI, w_pZ, w_pR, w_pU, w_qI, w_qB, w_qZ, w_qU, w_qR, w_kV, q_icst, q_lcst, q_xR, q_ldI, q_ldR, q_ldL, q_bn, q_un, q_dv, q_fI, q_fR, q_aI, q_aR, q_aN, q_tn, q_cmp, q_cmz, q_cnt, q_ctt, q_cand, q_cor, q_vn, q_vI, q_vR, q_vL, q_kI, q_kR, q_kL, q_ckI, envN, argE, List.flatMap_cons, List.flatMap_nil, Value.category, junk, oadd, osub, omul, oand, oor, oxor, odiv, orem, oshl, oshr, oushr, omax, omin]
    simp (disch := first | omega | simp) [rk_i, rk_b, rk_o, st1, kill, Value.category, rcv, nog, inI_b, nI_clamp, nI_ltI, nI_leI, nI_eq, nI_9, nI_6, nI_22, nI_12, nI_180, nI_add, nI_1, hn, ly166, hm 5, mp, ly169, ht, q'.2.2.2.1.1]
  refine m_st 7 d qM (by omega) rfl (fun h' q' hM' => ?_) fun qM => ?_
  · simp only [f_mkF, w_sI, w_sR, w_sL, w_sC, w_sk, w_sbr, w_sco, w_rV, w_rI, w_rR, w_rL, w_dI, w_sO, w_sq, w_si, w_pI, w_pZ, w_pR, w_pU, w_qI, w_qB, w_qZ, w_qU, w_qR, w_kV, q_icst, q_lcst, q_xR, q_ldI, q_ldR, q_ldL, q_bn, q_un, q_dv, q_fI, q_fR, q_aI, q_aR, q_aN, q_tn, q_cmp, q_cmz, q_cnt, q_ctt, q_cand, q_cor, q_vn, q_vI, q_vR, q_vL, q_kI, q_kR, q_kL, q_ckI, envN, argE, List.flatMap_cons, List.flatMap_nil, Value.category, junk, oadd, osub, omul, oand, oor, oxor, odiv, orem, oshl, oshr, oushr, omax, omin]; simp [rk_i, rk_b, rk_o, st1, kill, Value.category, rcv, nog]
  refine m_st 8 j qM (by omega) rfl (fun h' q' hM' => ?_) fun qM => ?_
  · simp only [f_mkF, w_sI, w_sR, w_sL, w_sC, w_sk, w_sbr, w_sco, w_rV, w_rI, w_rR, w_rL, w_dI, w_sO, w_sq, w_si, w_pI, w_pZ, w_pR, w_pU, w_qI, w_qB, w_qZ, w_qU, w_qR, w_kV, q_icst, q_lcst, q_xR, q_ldI, q_ldR, q_ldL, q_bn, q_un, q_dv, q_fI, q_fR, q_aI, q_aR, q_aN, q_tn, q_cmp, q_cmz, q_cnt, q_ctt, q_cand, q_cor, q_vn, q_vI, q_vR, q_vL, q_kI, q_kR, q_kL, q_ckI, envN, argE, List.flatMap_cons, List.flatMap_nil, Value.category, junk, oadd, osub, omul, oand, oor, oxor, odiv, orem, oshl, oshr, oushr, omax, omin]; simp [rk_i, rk_b, rk_o, st1, kill, Value.category, rcv, nog]
  refine m_st 9 (nI (i - left + 1)) qM (by omega) rfl (fun h' q' hM' => ?_) fun qM => ?_
  · simp only [f_mkF, w_sI, w_sR, w_sL, w_sC, w_sk, w_sbr, w_sco, w_rV, w_rI, w_rR, w_rL, w_dI, w_sO, w_sq, w_si, w_pI, w_pZ, w_pR, w_pU, w_qI, w_qB, w_qZ, w_qU, w_qR, w_kV, q_icst, q_lcst, q_xR, q_ldI, q_ldR, q_ldL, q_bn, q_un, q_dv, q_fI, q_fR, q_aI, q_aR, q_aN, q_tn, q_cmp, q_cmz, q_cnt, q_ctt, q_cand, q_cor, q_vn, q_vI, q_vR, q_vL, q_kI, q_kR, q_kL, q_ckI, envN, argE, List.flatMap_cons, List.flatMap_nil, Value.category, junk, oadd, osub, omul, oand, oor, oxor, odiv, orem, oshl, oshr, oushr, omax, omin]; simp [rk_i, rk_b, rk_o, st1, kill, Value.category, rcv, nog]
  refine m_st 10 (W_R w i 2) qM (by omega) rfl (fun h' q' hM' => ?_) fun qM => ?_
  · have hn := q'.1.1
    have hm := q'.1.2.2
    obtain ⟨r0, r1, r2, r3, r4, r5, r6⟩ := q'.row hi
    simp only [f_mkF, w_sI, w_sR, w_sL, w_sC, w_sk, w_sbr, w_sco, w_rV, w_rI, w_rR, w_rL, w_dI, w_sO, w_sq, w_si, w_pI, w_pZ, w_pR, w_pU, w_qI, w_qB, w_qZ, w_qU, w_qR, w_kV, q_icst, q_lcst, q_xR, q_ldI, q_ldR, q_ldL, q_bn, q_un, q_dv, q_fI, q_fR, q_aI, q_aR, q_aN, q_tn, q_cmp, q_cmz, q_cnt, q_ctt, q_cand, q_cor, q_vn, q_vI, q_vR, q_vL, q_kI, q_kR, q_kL, q_ckI, envN, argE, List.flatMap_cons, List.flatMap_nil, Value.category, junk, oadd, osub, omul, oand, oor, oxor, odiv, orem, oshl, oshr, oushr, omax, omin]
    simp (disch := first | omega | simp) [rk_i, rk_b, rk_o, st1, kill, Value.category, rcv, nog, inI_b, nI_clamp, nI_ltI, nI_leI, nI_eq, nI_9, nI_6, nI_22, nI_12, nI_180, nI_add, nI_1, hn, ly166, hm 11, mp, ly175, r0, r3]
  refine m_st 11 (W_hm w (W_R w i 1).toNatClampNeg) qM (by omega) rfl (fun h' q' hM' => ?_) fun qM => ?_
  · have hn := q'.1.1
    have hm := q'.1.2.2
    obtain ⟨r0, r1, r2, r3, r4, r5, r6⟩ := q'.row hi
    simp only [f_mkF, w_sI, w_sR, w_sL, w_sC, w_sk, w_sbr, w_sco, w_rV, w_rI, w_rR, w_rL, w_dI, w_sO, w_sq, w_si, w_pI, w_pZ, w_pR, w_pU, w_qI, w_qB, w_qZ, w_qU, w_qR, w_kV, q_icst, q_lcst, q_xR, q_ldI, q_ldR, q_ldL, q_bn, q_un, q_dv, q_fI, q_fR, q_aI, q_aR, q_aN, q_tn, q_cmp, q_cmz, q_cnt, q_ctt, q_cand, q_cor, q_vn, q_vI, q_vR, q_vL, q_kI, q_kR, q_kL, q_ckI, envN, argE, List.flatMap_cons, List.flatMap_nil, Value.category, junk, oadd, osub, omul, oand, oor, oxor, odiv, orem, oshl, oshr, oushr, omax, omin]
    simp (disch := first | omega | simp) [rk_i, rk_b, rk_o, st1, kill, Value.category, rcv, nog, inI_b, nI_clamp, nI_ltI, nI_leI, nI_eq, nI_9, nI_6, nI_22, nI_12, nI_180, nI_add, nI_1, hn, ly166, hm 10, hm 3, mp, ly174, ly167, r0, r2, v1, q'.2.2.2.2.2.1]
  refine m_st 12 (W_hm w (frm (W_R w) (W_fo w) left).toNatClampNeg) qM (by omega) rfl (fun h' q' hM' => ?_) fun qM => ?_
  · have hn := q'.1.1
    have hm := q'.1.2.2
    simp only [f_mkF, w_sI, w_sR, w_sL, w_sC, w_sk, w_sbr, w_sco, w_rV, w_rI, w_rR, w_rL, w_dI, w_sO, w_sq, w_si, w_pI, w_pZ, w_pR, w_pU, w_qI, w_qB, w_qZ, w_qU, w_qR, w_kV, q_icst, q_lcst, q_xR, q_ldI, q_ldR, q_ldL, q_bn, q_un, q_dv, q_fI, q_fR, q_aI, q_aR, q_aN, q_tn, q_cmp, q_cmz, q_cnt, q_ctt, q_cand, q_cor, q_vn, q_vI, q_vR, q_vL, q_kI, q_kR, q_kL, q_ckI, envN, argE, List.flatMap_cons, List.flatMap_nil, Value.category, junk, oadd, osub, omul, oand, oor, oxor, odiv, orem, oshl, oshr, oushr, omax, omin]
    simp (disch := first | omega | simp) [rk_i, rk_b, rk_o, st1, kill, Value.category, rcv, nog, inI_b, nI_clamp, nI_ltI, nI_leI, nI_eq, nI_9, nI_6, nI_22, nI_12, nI_180, nI_add, nI_1, hn, ly166, hm 3, mp, ly167, v2, q'.2.2.2.2.2.1]
  rw [w_rV]
  refine Or.inl ⟨rfl, rfl, rfl, ?_, fun k hk => ?_⟩
  · repeat (first | exact Fr.refl h | refine Fr.w ?_ rfl)
  · match k, hk with
    | 0, _ => simp [wI_i, fct]
    | 1, _ => simp [wI_i, fct]
    | 2, _ => simp [wI_i, fct]
    | 3, _ => simp [wI_i, fct]
    | 4, _ => simp [wI_i, fct]
    | 5, _ => simp [wI_i, fct]
    | 6, _ => simp [wI_i, fct]
    | 7, _ => simp [wI_i, fct]
    | 8, _ => simp [wI_i, fct]
    | 9, _ => simp [wI_i, fct]
    | 10, _ => simp [wI_i, fct]
    | 11, _ => simp [wI_i, fct]
    | 12, _ => simp [wI_i, fct]
def SG (a k : Nat) : Prop := a = 194 ∨ a = 195 ∨ (a = 166 ∧ k = 50)
theorem SG_SM {a k : Nat} (h : SG a k) : SM a k := by unfold SG at h; unfold SM; omega
theorem m_asks {w : Wd} {t : Nat} {h : Hp} (q : MX w t h) {sp : Nat} (hs1 : h.2.1 166 41 = nI sp) (hs2 : sp < 64) {i kind lt : Nat} {ow : Int32} (hi : i < W_n w) (hk : kind < 9) (hlt : lt < 8) (ho : 0 ≤ ow.toInt ∧ ow.toInt < 12) {a : DA} {E : En} (ha : ∀ h', ev a E h' fun x h1 => x = [.ref 166, .int (nI (W_f w)), .int (nI t), .int (nI i), .int (nI kind), .int ow] ∧ h1 = h') {b : DR} (hb : ∀ h', ev b E h' fun x h1 => x = 166 ∧ h1 = h') {c : DI} (hc : ∀ h', ev c E h' fun x h1 => x = chL lt ∧ h1 = h') {P : Int32 → Hp → Prop} (hP : ∀ h', Fr SG h h' → P (b2 ((!(decide (lt = 0) && sp.testBit (askd w i kind ow)) && hs (W_D w (askd w i kind ow)) lt (h.2.1 195)) = true)) h') : ev (kI (rcv 11) F_X11_hasSuch (vI (vI (vR vn b) (kI (rcv 11) F_X11_ruler a)) c)) E h P := by
  have hn := q.1.1
  rw [q_kI, q_vI, q_vI, q_vR, q_vn]
  refine ev_mono (hb h) ?_
  rintro x h1 ⟨rfl, rfl⟩
  rw [q_kI]
  refine ev_mono (ha h1) ?_
  rintro x h2 ⟨rfl, rfl⟩
  refine ⟨by simp [rcv, hn, ly166], ?_⟩
  refine fq_mono (m_ruler q hi hk ho) ?_
  rintro r h3 ⟨rfl, f, -⟩
  refine ⟨_, rfl, ?_⟩
  refine ev_mono (hc h3) ?_
  rintro x h4 ⟨rfl, rfl⟩
  have hn4 : h4.1 = 212 := f.1.trans hn
  refine ⟨by simp [rcv, hn4, ly166], ?_⟩
  have q4 : MX w t h4 := q.fr (f.sub fun a k z => S50_SM z)
  have hl := askd_lt q.wv (kind := kind) (ow := ow) hi
  have e41 : h4.2.1 166 41 = nI sp := (f.2.2 166 41 (by unfold S50; omega)).trans hs1
  have e195 : h4.2.1 195 = h2.2.1 195 := funext fun k => f.2.2 195 k (by unfold S50; omega)
  refine fq_mono (m_such q4.1 hl (q.wv.2.2.2.2.2.2.2.2.2 _ hl) (q4.2.2.2.2.2.2.2.1 _ hl) e41 hs2 hlt) ?_
  rintro r h5 ⟨rfl, g⟩
  rw [e195]
  exact ⟨_, rfl, hP h5 ((f.sub fun a k z => Or.inr (Or.inr z)).trans (g.sub fun a k z => Or.inl z))⟩
theorem m_gives {w : Wd} {t : Nat} {h : Hp} (q : MX w t h) {sp : Nat} (hs1 : h.2.1 166 41 = nI sp) (hs2 : sp < 64) {i left kind lt : Nat} (hi : i < W_n w) (hl : left ≤ i) (hk : kind < 9) (hlt : lt < 8) (e1 : h.2.1 198 i = b2 (W_R w left 0 = 3 ∨ W_R w left 0 = 4)) (e2 : h.2.1 199 i = W_R w i 3 - W_R w left 3) (e3 : h.2.1 200 i = nI (i - left + 1)) : fq F_X11_gives [.ref 166, .int (nI (W_f w)), .int (nI t), .int (nI i), .int (nI kind), .int (chL lt), .int (frm (W_R w) (W_fo w) left)] h fun r h' => r = some (.int (b2 (gvs w sp i left (h.2.1 196 i) kind lt = true))) ∧ Fr SG h h' := by
  have hn := q.1.1
  have hm := q.1.2.2
  have n20 := q.wv.1
  have i22 : i < 22 := by omega
  have hv := frm_ok q.wv (i := left) (by omega)
  unfold F_X11_gives
  refine f_mkE _ rfl (by simp [argE, Value.category]) ?_
  refine w_fz fun B hB C hC => ?_
  simp only [f_mkF, w_sI, w_sR, w_sL, w_sC, w_sk, w_sbr, w_sco, w_rV, w_rI, w_rR, w_rL, w_dI, w_sO, w_sq, w_si, w_pI, w_pZ, w_pR, w_pU, w_qI, w_qB, w_qZ, w_qU, w_qR, w_kV, q_icst, q_lcst, q_xR, q_ldI, q_ldR, q_ldL, q_bn, q_un, q_dv, q_fI, q_fR, q_aI, q_aR, q_aN, q_tn, q_cmp, q_cmz, q_cnt, q_ctt, q_cand, q_cor, q_vn, q_vI, q_vR, q_vL, q_kI, q_kR, q_kL, q_ckI, envN, argE, List.flatMap_cons, List.flatMap_nil, Value.category, junk, oadd, osub, omul, oand, oor, oxor, odiv, orem, oshl, oshr, oushr, omax, omin]
  simp (disch := first | omega | simp) [rk_i, rk_b, rk_o, st1, kill, Value.category, rcv, nog, inI_b, nI_clamp, nI_ltI, nI_leI, nI_eq, nI_9, nI_6, nI_22, nI_12, nI_180, nI_add, nI_1, hn, ly166, hm 44, hm 45, hm 46, mp, ly198, ly199, ly200, i22, e1, e2, e3]
  refine fq_mono (m_feels q hi hl 0 (W_R w i 3 - W_R w left 3)) ?_
  rintro r h1 ⟨rfl, f1, f2⟩
  simp
  subst hB hC
  have q1 : MX w t h1 := q.fr (f1.sub fun a k z => Or.inr (Or.inl z))
  have e41 : h1.2.1 166 41 = nI sp := (f1.2.2 166 41 (by omega)).trans hs1
  have hal := askd_lt q.wv (kind := kind) (ow := frm (W_R w) (W_fo w) left) hi
  rw [w_rI]
  refine m_asks q1 e41 hs2 (i := i) (kind := kind) (lt := lt) (ow := frm (W_R w) (W_fo w) left) hi hk hlt hv (fun h' => ?_) (fun h' => ?_) (fun h' => ?_) fun h2 g => ?_
  · simp only [f_mkF, w_sI, w_sR, w_sL, w_sC, w_sk, w_sbr, w_sco, w_rV, w_rI, w_rR, w_rL, w_dI, w_sO, w_sq, w_si, w_pI, w_pZ, w_pR, w_pU, w_qI, w_qB, w_qZ, w_qU, w_qR, w_kV, q_icst, q_lcst, q_xR, q_ldI, q_ldR, q_ldL, q_bn, q_un, q_dv, q_fI, q_fR, q_aI, q_aR, q_aN, q_tn, q_cmp, q_cmz, q_cnt, q_ctt, q_cand, q_cor, q_vn, q_vI, q_vR, q_vL, q_kI, q_kR, q_kL, q_ckI, envN, argE, List.flatMap_cons, List.flatMap_nil, Value.category, junk, oadd, osub, omul, oand, oor, oxor, odiv, orem, oshl, oshr, oushr, omax, omin]; simp [rk_i, rk_b, rk_o, st1, kill, Value.category, rcv, nog]
  · simp only [f_mkF, w_sI, w_sR, w_sL, w_sC, w_sk, w_sbr, w_sco, w_rV, w_rI, w_rR, w_rL, w_dI, w_sO, w_sq, w_si, w_pI, w_pZ, w_pR, w_pU, w_qI, w_qB, w_qZ, w_qU, w_qR, w_kV, q_icst, q_lcst, q_xR, q_ldI, q_ldR, q_ldL, q_bn, q_un, q_dv, q_fI, q_fR, q_aI, q_aR, q_aN, q_tn, q_cmp, q_cmz, q_cnt, q_ctt, q_cand, q_cor, q_vn, q_vI, q_vR, q_vL, q_kI, q_kR, q_kL, q_ckI, envN, argE, List.flatMap_cons, List.flatMap_nil, Value.category, junk, oadd, osub, omul, oand, oor, oxor, odiv, orem, oshl, oshr, oushr, omax, omin]; simp [rk_i, rk_b, rk_o, st1, kill, Value.category, rcv, nog]
  · simp only [f_mkF, w_sI, w_sR, w_sL, w_sC, w_sk, w_sbr, w_sco, w_rV, w_rI, w_rR, w_rL, w_dI, w_sO, w_sq, w_si, w_pI, w_pZ, w_pR, w_pU, w_qI, w_qB, w_qZ, w_qU, w_qR, w_kV, q_icst, q_lcst, q_xR, q_ldI, q_ldR, q_ldL, q_bn, q_un, q_dv, q_fI, q_fR, q_aI, q_aR, q_aN, q_tn, q_cmp, q_cmz, q_cnt, q_ctt, q_cand, q_cor, q_vn, q_vI, q_vR, q_vL, q_kI, q_kR, q_kL, q_ckI, envN, argE, List.flatMap_cons, List.flatMap_nil, Value.category, junk, oadd, osub, omul, oand, oor, oxor, odiv, orem, oshl, oshr, oushr, omax, omin]; simp [rk_i, rk_b, rk_o, st1, kill, Value.category, rcv, nog]
  · refine Or.inr ⟨rfl, by rw [rk_b]; simp [b2_ok], ?_, (f1.sub fun a k z => Or.inr (Or.inl z)).trans g⟩
    unfold gvs
    rw [hs_cong (q.wv.2.2.2.2.2.2.2.2.2 _ hal) f2]
