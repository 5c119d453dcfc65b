/-! passing, the reference's -/
theorem w_sqN {a b : Sm} {E : En} {h : Hp} {Q : Nat → Value → En → Hp → Prop} (H : wp a E h fun o _ E1 h1 => o = 0 ∧ wp b E1 h1 Q) : wp (sq a b) E h Q := by
  rw [w_sq]
  exact wp_mono H fun o v E1 h1 z => ⟨fun _ => z.2, fun z2 => absurd z.1 z2⟩
def VP (h : Hp) (t kind to land month price signs lo hi : Int32) : Prop := (0 ≤ t ∧ t < h.2.1 166 2) ∧ (0 ≤ kind ∧ kind ≤ 7) ∧ (0 ≤ to ∧ to < h.2.1 166 1) ∧ (0 ≤ land ∧ land ≤ 5) ∧ (0 ≤ month ∧ month ≤ h.2.1 166 0) ∧ (0 ≤ price ∧ price ≤ (if kind = 0 then 1000000 else 0)) ∧ (0 ≤ signs ∧ signs ≤ 7) ∧ (0 ≤ lo ∧ lo ≤ hi ∧ hi ≤ 2)
/-- the rows when one is put in -/
def insR (R : Nat → Nat → Int32) (at' : Nat) (new : Nat → Int32) (i k : Nat) : Int32 := if i < at' then R i k else if i = at' then new k else R (i - 1) k
theorem e_m_pass0 {h : Hp} (hp : Ip h) (h2 : (h.2.1 166 2).toInt ≤ 4) (t kind to land month price signs lo hi : Int32) (hc : ¬ VP h t kind to land month price signs lo hi) : F_X11_passing [.ref 166, .int t, .int kind, .int to, .int land, .int month, .int price, .int signs, .int lo, .int hi] h = some (some (.int (-1)), h) := by
  have hn := hp.1
  rw [← fq_eq]
  unfold F_X11_passing
  rw [f_mkF]
  refine ⟨by simp [argE, Value.category], ?_⟩
  refine w_sq.mpr ((w_siT ?_).mpr ?_)
  · simp only [f_mkF, w_sI, w_sR, w_sL, w_sC, w_sk, w_sbr, w_sco, w_rV, w_rI, w_rR, w_rL, w_dI, w_sO, w_sq, w_si, w_pI, w_pZ, w_pR, w_pU, w_qI, w_qB, w_qZ, w_qU, w_qR, w_kV, q_icst, q_lcst, q_xR, q_ldI, q_ldR, q_ldL, q_bn, q_un, q_dv, q_fI, q_fR, q_aI, q_aR, q_aN, q_tn, q_cmp, q_cmz, q_cnt, q_ctt, q_cand, q_cor, q_vn, q_vI, q_vR, q_vL, q_kI, q_kR, q_kL, q_ckI, envN, argE, List.flatMap_cons, List.flatMap_nil, Value.category, junk, oadd, osub, omul, oand, oor, oxor, odiv, orem, oshl, oshr, oushr, omax, omin]
    simp [rk_i, rk_b, rk_o, st1, kill, Value.category, rcv, nog, hn, ly166, fq_of (e_m_isThing _ _ hn), fq_of (e_m_in _ _ _ _), fq_of (e_m_isPerson _ _ hn), fq_of (e_m_isLand _ _), fq_of (e_m_isMind _ _ _), b2_0, zne]
    unfold VP at hc
    grind
  · simp only [f_mkF, w_sI, w_sR, w_sL, w_sC, w_sk, w_sbr, w_sco, w_rV, w_rI, w_rR, w_rL, w_dI, w_sO, w_sq, w_si, w_pI, w_pZ, w_pR, w_pU, w_qI, w_qB, w_qZ, w_qU, w_qR, w_kV, q_icst, q_lcst, q_xR, q_ldI, q_ldR, q_ldL, q_bn, q_un, q_dv, q_fI, q_fR, q_aI, q_aR, q_aN, q_tn, q_cmp, q_cmz, q_cnt, q_ctt, q_cand, q_cor, q_vn, q_vI, q_vR, q_vL, q_kI, q_kR, q_kL, q_ckI, envN, argE, List.flatMap_cons, List.flatMap_nil, Value.category, junk, oadd, osub, omul, oand, oor, oxor, odiv, orem, oshl, oshr, oushr, omax, omin]
    simp [rk_i, rk_b, rk_o, st1, kill, Value.category, rcv, nog]
theorem e_m_pass1 {h : Hp} (hp : Ip h) {t n : Nat} (ht : t < 4) (hn20 : n ≤ 20) (hN : h.2.1 172 t = nI n) (kind to land month price signs lo hi : Int32) (hc : VP h (nI t) kind to land month price signs lo hi) (h20 : n = 20) : F_X11_passing [.ref 166, .int (nI t), .int kind, .int to, .int land, .int month, .int price, .int signs, .int lo, .int hi] h = some (some (.int (-1)), h) := by
  have hnn := hp.1
  have hm := hp.2.2
  subst h20
  have k20 : (20 : Int32) = nI 20 := rfl
  rw [← k20] at hN
  have i1 : inI (nI t) 4 = true := by rw [inI_b (by omega)]; simp [ht]
  rw [← fq_eq]
  unfold F_X11_passing
  rw [f_mkF]
  refine ⟨by simp [argE, Value.category], ?_⟩
  obtain ⟨v1, v2, v3, v4, v5, v6, v7, v8⟩ := hc
  refine w_sq.mpr ((w_siT ?_).mpr ?_)
  · simp only [f_mkF, w_sI, w_sR, w_sL, w_sC, w_sk, w_sbr, w_sco, w_rV, w_rI, w_rR, w_rL, w_dI, w_sO, w_sq, w_si, w_pI, w_pZ, w_pR, w_pU, w_qI, w_qB, w_qZ, w_qU, w_qR, w_kV, q_icst, q_lcst, q_xR, q_ldI, q_ldR, q_ldL, q_bn, q_un, q_dv, q_fI, q_fR, q_aI, q_aR, q_aN, q_tn, q_cmp, q_cmz, q_cnt, q_ctt, q_cand, q_cor, q_vn, q_vI, q_vR, q_vL, q_kI, q_kR, q_kL, q_ckI, envN, argE, List.flatMap_cons, List.flatMap_nil, Value.category, junk, oadd, osub, omul, oand, oor, oxor, odiv, orem, oshl, oshr, oushr, omax, omin]
    simp [rk_i, rk_b, rk_o, st1, kill, Value.category, rcv, nog, hnn, ly166, ly172, hm 8, mp, fq_of (e_m_isThing _ _ hnn), fq_of (e_m_in _ _ _ _), fq_of (e_m_isPerson _ _ hnn), fq_of (e_m_isLand _ _), fq_of (e_m_isMind _ _ _), b2_0, zne, v1, v2, v3, v4, v5, v7, v8, i1, nI_clamp (show t < 2 ^ 31 by omega), hN]
  · simp only [f_mkF, w_sI, w_sR, w_sL, w_sC, w_sk, w_sbr, w_sco, w_rV, w_rI, w_rR, w_rL, w_dI, w_sO, w_sq, w_si, w_pI, w_pZ, w_pR, w_pU, w_qI, w_qB, w_qZ, w_qU, w_qR, w_kV, q_icst, q_lcst, q_xR, q_ldI, q_ldR, q_ldL, q_bn, q_un, q_dv, q_fI, q_fR, q_aI, q_aR, q_aN, q_tn, q_cmp, q_cmz, q_cnt, q_ctt, q_cand, q_cor, q_vn, q_vI, q_vR, q_vL, q_kI, q_kR, q_kL, q_ckI, envN, argE, List.flatMap_cons, List.flatMap_nil, Value.category, junk, oadd, osub, omul, oand, oor, oxor, odiv, orem, oshl, oshr, oushr, omax, omin]
    simp [rk_i, rk_b, rk_o, st1, kill, Value.category, rcv, nog]
theorem e_m_pass2 {h : Hp} (hp : Ip h) {t n : Nat} (ht : t < 4) (hn20 : n < 20) (hN : h.2.1 172 t = nI n) (kind to land month price signs lo hi : Int32) (hc : VP h (nI t) kind to land month price signs lo hi) (hs : ∀ i, i + 1 < n → (mrow h t i 3).toInt ≤ (mrow h t (i + 1) 3).toInt) (P : Option Value → Hp → Prop) (hP1 : ¬ (to ≠ frm (mrow h t) (h.2.1 170 t) (plc (mrow h t) month n) ∧ (plc (mrow h t) month n < n → mrow h t (plc (mrow h t) month n) 1 ≠ to)) → P (some (.int (-1))) h) (hP2 : (to ≠ frm (mrow h t) (h.2.1 170 t) (plc (mrow h t) month n) ∧ (plc (mrow h t) month n < n → mrow h t (plc (mrow h t) month n) 1 ≠ to)) → ∀ h', h'.1 = h.1 → h'.2.2 = h.2.2 → h'.2.1 172 t = nI (n + 1) → (∀ i k, i ≤ n → k < 8 → mrow h' t i k = insR (mrow h t) (plc (mrow h t) month n) (r8 kind to land month price signs lo hi) i k) → (∀ a j, ¬ (173 ≤ a ∧ a < 181 ∧ 22 * t ≤ j ∧ j < 22 * t + 22) → ¬ (a = 172 ∧ j = t) → h'.2.1 a j = h.2.1 a j) → P (some (.int (nI (plc (mrow h t) month n)))) h') : fq F_X11_passing [.ref 166, .int (nI t), .int kind, .int to, .int land, .int month, .int price, .int signs, .int lo, .int hi] h P := by
  have hnn := hp.1
  have hm := hp.2.2
  have hpl := plc_le (mrow h t) month n
  have k20 : (20 : Int32) = nI 20 := rfl
  have hne : ¬ nI n = 20 := by
    rw [k20, nI_eq (by omega) (by omega)]
    omega
  have hlo : ∀ i, i < plc (mrow h t) month n → mrow h t i 3 ≤ month := fun i hi => plc_lo2 hs hi
  have hhi : plc (mrow h t) month n < n → month < mrow h t (plc (mrow h t) month n) 3 := fun hi => plc_hi (Nat.le_refl _) hi
  generalize plc (mrow h t) month n = p at *
  have i1 : inI (nI t) 4 = true := by rw [inI_b (by omega)]; simp [ht]
  unfold F_X11_passing
  rw [f_mkF]
  refine ⟨by simp [argE, Value.category], ?_⟩
  obtain ⟨v1, v2, v3, v4, v5, v6, v7, v8⟩ := hc
  refine w_sq.mpr ((w_siF ?_).mpr (w_sk2.mpr ?_))
  · simp only [f_mkF, w_sI, w_sR, w_sL, w_sC, w_sk, w_sbr, w_sco, w_rV, w_rI, w_rR, w_rL, w_dI, w_sO, w_sq, w_si, w_pI, w_pZ, w_pR, w_pU, w_qI, w_qB, w_qZ, w_qU, w_qR, w_kV, q_icst, q_lcst, q_xR, q_ldI, q_ldR, q_ldL, q_bn, q_un, q_dv, q_fI, q_fR, q_aI, q_aR, q_aN, q_tn, q_cmp, q_cmz, q_cnt, q_ctt, q_cand, q_cor, q_vn, q_vI, q_vR, q_vL, q_kI, q_kR, q_kL, q_ckI, envN, argE, List.flatMap_cons, List.flatMap_nil, Value.category, junk, oadd, osub, omul, oand, oor, oxor, odiv, orem, oshl, oshr, oushr, omax, omin]
    simp [rk_i, rk_b, rk_o, st1, kill, Value.category, rcv, nog, hnn, ly166, ly172, hm 8, mp, fq_of (e_m_isThing _ _ hnn), fq_of (e_m_in _ _ _ _), fq_of (e_m_isPerson _ _ hnn), fq_of (e_m_isLand _ _), fq_of (e_m_isMind _ _ _), b2_0, zne, v1, v2, v3, v4, v5, v7, v8, i1, nI_clamp (show t < 2 ^ 31 by omega), hN, hne]
    grind
  · rw [show envN 12 [Value.ref 166, Value.int (nI t), Value.int kind, Value.int to, Value.int land, Value.int month, Value.int price, Value.int signs, Value.int lo, Value.int hi] = [Value.ref 166, Value.int (nI t), Value.int kind, Value.int to, Value.int land, Value.int month, Value.int price, Value.int signs, Value.int lo, Value.int hi, junk, junk] from rfl]
    refine w_sqN ?_
    simp only [w_sI, q_icst]
    refine ⟨trivial, ?_⟩
    refine w_sqN (wp_mono (w_lp (Q := fun o v E1 h1 => o = 0 ∧ E1 = [Value.ref 166, Value.int (nI t), Value.int kind, Value.int to, Value.int land, Value.int month, Value.int price, Value.int signs, Value.int lo, Value.int hi, .int (nI p), junk] ∧ h1 = h) (fun k E h' => h' = h ∧ ∃ j, j ≤ p ∧ k = p - j ∧ E = [Value.ref 166, Value.int (nI t), Value.int kind, Value.int to, Value.int land, Value.int month, Value.int price, Value.int signs, Value.int lo, Value.int hi, .int (nI j), junk]) ?_ p _ _ ⟨rfl, 0, by omega, rfl, rfl⟩) ?_)
    · rintro k E h' ⟨rfl, j, hj, rfl, rfl⟩
      simp only [f_mkF, w_sI, w_sR, w_sL, w_sC, w_sk, w_sbr, w_sco, w_rV, w_rI, w_rR, w_rL, w_dI, w_sO, w_sq, w_si, w_pI, w_pZ, w_pR, w_pU, w_qI, w_qB, w_qZ, w_qU, w_qR, w_kV, q_icst, q_lcst, q_xR, q_ldI, q_ldR, q_ldL, q_bn, q_un, q_dv, q_fI, q_fR, q_aI, q_aR, q_aN, q_tn, q_cmp, q_cmz, q_cnt, q_ctt, q_cand, q_cor, q_vn, q_vI, q_vR, q_vL, q_kI, q_kR, q_kL, q_ckI, envN, argE, List.flatMap_cons, List.flatMap_nil, Value.category, junk, oadd, osub, omul, oand, oor, oxor, odiv, orem, oshl, oshr, oushr, omax, omin]
      have d2 : 22 * t + j < 88 := by omega
      by_cases hjp : j < p
      · have d1 := hlo j hjp
        have d3 : j < n := by omega
        have d4 : h'.2.1 176 (22 * t + j) ≤ month := d1
        simp (disch := first | omega | simp) [rk_i, rk_b, rk_o, st1, kill, Value.category, rcv, nog, hnn, ly166, ly172, ly176, hm 8, hm 12, mp, i1, inI_b, nI_clamp, nI_ltI, nI_leI, nI_eq, nI_9, nI_6, nI_22, nI_12, nI_180, nI_add, nI_1, hN, d2, d3, d4, ogt]
        refine ⟨ht, ⟨fun z => absurd d4 (Int32.not_le.mpr z), p - (j + 1), by omega, j + 1, by omega, rfl, rfl⟩, fun _ => by omega⟩
      · have : j = p := by omega
        subst this
        by_cases d3 : j < n
        · have d4 : month < h'.2.1 176 (22 * t + j) := hhi d3
          have d5 : ¬ h'.2.1 176 (22 * t + j) ≤ month := Int32.not_le.mpr d4
          simp (disch := first | omega | simp) [rk_i, rk_b, rk_o, st1, kill, Value.category, rcv, nog, hnn, ly166, ly172, ly176, hm 8, hm 12, mp, i1, inI_b, nI_clamp, nI_ltI, nI_leI, nI_eq, nI_9, nI_6, nI_22, nI_12, nI_180, nI_add, nI_1, hN, d2, d3, d4, d5, ogt]
          exact ht
        · simp (disch := first | omega | simp) [rk_i, rk_b, rk_o, st1, kill, Value.category, rcv, nog, hnn, ly166, ly172, ly176, hm 8, hm 12, mp, i1, inI_b, nI_clamp, nI_ltI, nI_leI, nI_eq, nI_9, nI_6, nI_22, nI_12, nI_180, nI_add, nI_1, hN, d2, d3, ogt]
          exact ht
    · rintro o v E1 h1 ⟨rfl, rfl, rfl⟩
      refine ⟨rfl, ?_⟩
      have c1 : ev (cor (cmp oeq (kI (rcv 11) F_X11_fromOf (vI (vI (vR vn (ldR 0)) (ldI 1)) (ldI 10))) (ldI 3)) (cand (cnt (cmp oge (ldI 10) (aI 13 (fR 11 8 (ldR 0)) (ldI 1)))) (cnt (cmp one (aI 13 (fR 11 10 (ldR 0)) (bn oadd (bn omul (icst 22) (ldI 1)) (ldI 10))) (ldI 3))))) [Value.ref 166, Value.int (nI t), Value.int kind, Value.int to, Value.int land, Value.int month, Value.int price, Value.int signs, Value.int lo, Value.int hi, .int (nI p), junk] h1 fun b h' => (b = decide (¬ (to ≠ frm (mrow h1 t) (h1.2.1 170 t) p ∧ (p < n → mrow h1 t p 1 ≠ to)))) ∧ h' = h1 := by
        simp only [f_mkF, w_sI, w_sR, w_sL, w_sC, w_sk, w_sbr, w_sco, w_rV, w_rI, w_rR, w_rL, w_dI, w_sO, w_sq, w_si, w_pI, w_pZ, w_pR, w_pU, w_qI, w_qB, w_qZ, w_qU, w_qR, w_kV, q_icst, q_lcst, q_xR, q_ldI, q_ldR, q_ldL, q_bn, q_un, q_dv, q_fI, q_fR, q_aI, q_aR, q_aN, q_tn, q_cmp, q_cmz, q_cnt, q_ctt, q_cand, q_cor, q_vn, q_vI, q_vR, q_vL, q_kI, q_kR, q_kL, q_ckI, envN, argE, List.flatMap_cons, List.flatMap_nil, Value.category, junk, oadd, osub, omul, oand, oor, oxor, odiv, orem, oshl, oshr, oushr, omax, omin]
        have d2 : 22 * t + p < 88 := by omega
        simp (disch := first | omega | simp) [rk_i, rk_b, rk_o, st1, kill, Value.category, rcv, nog, hnn, ly166, ly172, ly174, hm 8, hm 10, mp, i1, inI_b, nI_clamp, nI_ltI, nI_leI, nI_eq, nI_9, nI_6, nI_22, nI_12, nI_180, nI_add, nI_1, hN, d2, fq_of (e_m_from hp ht (by omega : p ≤ 22)), oge, one]
        have e : mrow h1 t p 1 = h1.2.1 174 (22 * t + p) := rfl
        rw [e]
        clear hP1 hP2 hlo hhi hs
        grind
      by_cases hr : to ≠ frm (mrow h1 t) (h1.2.1 170 t) p ∧ (p < n → mrow h1 t p 1 ≠ to)
      · refine w_sq.mpr ((w_siF (ev_mono c1 fun b h' z => ⟨by rw [z.1]; exact decide_eq_false (fun z2 => z2 hr), z.2⟩)).mpr (w_sk2.mpr ?_))
        have hP := hP2 hr
        clear hP1 hP2 hr c1 hlo hhi hs
        refine w_sqN (w_sqN ?_)
        simp only [w_sI, f_mkF, w_sI, w_sR, w_sL, w_sC, w_sk, w_sbr, w_sco, w_rV, w_rI, w_rR, w_rL, w_dI, w_sO, w_sq, w_si, w_pI, w_pZ, w_pR, w_pU, w_qI, w_qB, w_qZ, w_qU, w_qR, w_kV, q_icst, q_lcst, q_xR, q_ldI, q_ldR, q_ldL, q_bn, q_un, q_dv, q_fI, q_fR, q_aI, q_aR, q_aN, q_tn, q_cmp, q_cmz, q_cnt, q_ctt, q_cand, q_cor, q_vn, q_vI, q_vR, q_vL, q_kI, q_kR, q_kL, q_ckI, envN, argE, List.flatMap_cons, List.flatMap_nil, Value.category, junk, oadd, osub, omul, oand, oor, oxor, odiv, orem, oshl, oshr, oushr, omax, omin]
        simp (disch := first | omega | simp) [rk_i, rk_b, rk_o, st1, kill, Value.category, rcv, nog, hnn, ly166, ly172, hm 8, mp, i1, inI_b, nI_clamp, nI_ltI, nI_leI, nI_eq, nI_9, nI_6, nI_22, nI_12, nI_180, nI_add, nI_1, hN]
        refine ⟨ht, ?_⟩
        refine wp_mono (w_lp (Q := fun o v E1 h2 => o = 0 ∧ E1 = [Value.ref 166, Value.int (nI t), Value.int kind, Value.int to, Value.int land, Value.int month, Value.int price, Value.int signs, Value.int lo, Value.int hi, .int (nI p), .int (nI p)] ∧ h2.1 = h1.1 ∧ h2.2.2 = h1.2.2 ∧ (∀ i k, i ≤ n → k < 8 → i ≠ p → mrow h2 t i k = insR (mrow h1 t) p (r8 kind to land month price signs lo hi) i k) ∧ ∀ a j, ¬ (173 ≤ a ∧ a < 181 ∧ 22 * t ≤ j ∧ j < 22 * t + 22) → h2.2.1 a j = h1.2.1 a j) (fun k E h2 => ∃ j, p ≤ j ∧ j ≤ n ∧ k = j ∧ E = [Value.ref 166, Value.int (nI t), Value.int kind, Value.int to, Value.int land, Value.int month, Value.int price, Value.int signs, Value.int lo, Value.int hi, .int (nI p), .int (nI j)] ∧ h2.1 = h1.1 ∧ h2.2.2 = h1.2.2 ∧ (∀ i k, i ≤ n → k < 8 → mrow h2 t i k = if i ≤ j then mrow h1 t i k else mrow h1 t (i - 1) k) ∧ ∀ a j, ¬ (173 ≤ a ∧ a < 181 ∧ 22 * t ≤ j ∧ j < 22 * t + 22) → h2.2.1 a j = h1.2.1 a j) ?_ n _ _ ⟨n, by omega, by omega, rfl, rfl, rfl, rfl, fun i k hi hk => by rw [if_pos hi], fun _ _ _ => rfl⟩) ?_
        · rintro k E h2 ⟨j, hj1, hj2, rfl, rfl, e1, e2, e3, e4⟩
          have i2 : Ip h2 := Ip_c e1 e2 hp
          simp only [f_mkF, w_sI, w_sR, w_sL, w_sC, w_sk, w_sbr, w_sco, w_rV, w_rI, w_rR, w_rL, w_dI, w_sO, w_sq, w_si, w_pI, w_pZ, w_pR, w_pU, w_qI, w_qB, w_qZ, w_qU, w_qR, w_kV, q_icst, q_lcst, q_xR, q_ldI, q_ldR, q_ldL, q_bn, q_un, q_dv, q_fI, q_fR, q_aI, q_aR, q_aN, q_tn, q_cmp, q_cmz, q_cnt, q_ctt, q_cand, q_cor, q_vn, q_vI, q_vR, q_vL, q_kI, q_kR, q_kL, q_ckI, envN, argE, List.flatMap_cons, List.flatMap_nil, Value.category, junk, oadd, osub, omul, oand, oor, oxor, odiv, orem, oshl, oshr, oushr, omax, omin]
          by_cases hjp : k = p
          · subst hjp
            simp (disch := first | omega | simp) [rk_i, rk_b, rk_o, st1, kill, Value.category, rcv, nog, inI_b, nI_clamp, nI_ltI, nI_leI, nI_eq, nI_9, nI_6, nI_22, nI_12, nI_180, nI_add, nI_1, ole]
            refine ⟨e1, e2, fun i x hi hx hik => ?_, fun a j hj => e4 a j (by omega)⟩
            rw [e3 i x hi hx]
            unfold insR
            grind
          · match k, hjp, hj1, hj2 with
            | 0, hjp, hj1, hj2 => omega
            | k + 1, hjp, hj1, hj2 =>
              have f1 : ¬ k + 1 ≤ p := by omega
              have f2 : 166 < h2.1 := by rw [e1, hnn]; decide
              simp (disch := first | omega | simp) [rk_i, rk_b, rk_o, st1, kill, Value.category, rcv, nog, inI_b, nI_clamp, nI_ltI, nI_leI, nI_eq, nI_9, nI_6, nI_22, nI_12, nI_180, nI_add, nI_1, ole, f1, f2, ly166, nI_pred2, nI_m1]
              intro _
              refine fq_mono (e_m_moves i2 (x := 22 * t + k) (y := 22 * t + (k + 1)) (by omega) (by omega) (by omega)) ?_
              rintro r h3 ⟨rfl, g1, g2, g3, g4⟩
              simp
              refine ⟨k, by omega, k, by omega, by omega, rfl, rfl, g1.trans e1, g2.trans e2, fun i x hi hx => ?_, fun a j hj => ?_⟩
              · by_cases hik : i = k + 1
                · subst hik
                  rw [if_neg (by omega)]
                  have z1 := g3 x hx
                  have z2 := e3 k x (by omega) hx
                  rw [if_pos (by omega)] at z2
                  exact z1.trans z2
                · have z1 : mrow h3 t i x = mrow h2 t i x := g4 _ _ (by omega)
                  rw [z1, e3 i x hi hx]
                  grind
              · rw [g4 a j (by omega)]
                exact e4 a j (by omega)
        · rintro o v2 E1 h2 ⟨rfl, rfl, e1, e2, e3, e4⟩
          have i2 : Ip h2 := Ip_c e1 e2 hp
          have f2 : 166 < h2.1 := by rw [e1, hnn]; decide
          have hm2 := i2.2.2
          have hN2 : h2.2.1 172 t = nI n := by rw [e4 _ _ (by omega)]; exact hN
          simp only [f_mkF, w_sI, w_sR, w_sL, w_sC, w_sk, w_sbr, w_sco, w_rV, w_rI, w_rR, w_rL, w_dI, w_sO, w_sq, w_si, w_pI, w_pZ, w_pR, w_pU, w_qI, w_qB, w_qZ, w_qU, w_qR, w_kV, q_icst, q_lcst, q_xR, q_ldI, q_ldR, q_ldL, q_bn, q_un, q_dv, q_fI, q_fR, q_aI, q_aR, q_aN, q_tn, q_cmp, q_cmz, q_cnt, q_ctt, q_cand, q_cor, q_vn, q_vI, q_vR, q_vL, q_kI, q_kR, q_kL, q_ckI, envN, argE, List.flatMap_cons, List.flatMap_nil, Value.category, junk, oadd, osub, omul, oand, oor, oxor, odiv, orem, oshl, oshr, oushr, omax, omin]
          simp (disch := first | omega | simp) [rk_i, rk_b, rk_o, st1, kill, Value.category, rcv, nog, inI_b, nI_clamp, nI_ltI, nI_leI, nI_eq, nI_9, nI_6, nI_22, nI_12, nI_180, nI_add, nI_1, f2, ly166]
          refine fq_mono (e_m_puts i2 (y := 22 * t + p) (by omega) kind to land month price signs lo hi) ?_
          rintro r h3 ⟨rfl, g1, g2, g3, g4⟩
          have i3 : Ip h3 := Ip_c g1 g2 i2
          have hm3 := i3.2.2
          have hN3 : h3.2.1 172 t = nI n := by rw [g4 _ _ (by omega)]; exact hN2
          simp (disch := first | omega | simp) [i3.1, hm3 8, mp, ly166, ly172, i1, inI_b, nI_clamp, nI_ltI, nI_leI, nI_eq, nI_9, nI_6, nI_22, nI_12, nI_180, nI_add, nI_1, hN3, rk_i]
          refine ⟨ht, ?_⟩
          refine hP _ (g1.trans e1) (g2.trans e2) ?_ (fun i x hi hx => ?_) (fun a j ha hj => ?_)
          · rw [wI_i, if_pos ⟨rfl, rfl⟩]
          · have z0 : mrow (wI h3 172 t (nI (n + 1))) t i x = mrow h3 t i x := by
              unfold mrow
              rw [wI_i, if_neg (by omega)]
            rw [z0]
            by_cases hip : i = p
            · subst hip
              have z1 := g3 x hx
              unfold insR
              rw [if_neg (by omega), if_pos rfl]
              exact z1
            · have z1 : mrow h3 t i x = mrow h2 t i x := g4 _ _ (by omega)
              rw [z1]
              exact e3 i x hi hx hip
          · rw [wI_i, if_neg hj, g4 a j (by omega)]
            exact e4 a j ha
      · refine w_sq.mpr ((w_siT (ev_mono c1 fun b h' z => ⟨by rw [z.1]; exact decide_eq_true hr, z.2⟩)).mpr ?_)
        simp only [f_mkF, w_sI, w_sR, w_sL, w_sC, w_sk, w_sbr, w_sco, w_rV, w_rI, w_rR, w_rL, w_dI, w_sO, w_sq, w_si, w_pI, w_pZ, w_pR, w_pU, w_qI, w_qB, w_qZ, w_qU, w_qR, w_kV, q_icst, q_lcst, q_xR, q_ldI, q_ldR, q_ldL, q_bn, q_un, q_dv, q_fI, q_fR, q_aI, q_aR, q_aN, q_tn, q_cmp, q_cmz, q_cnt, q_ctt, q_cand, q_cor, q_vn, q_vI, q_vR, q_vL, q_kI, q_kR, q_kL, q_ckI, envN, argE, List.flatMap_cons, List.flatMap_nil, Value.category, junk, oadd, osub, omul, oand, oor, oxor, odiv, orem, oshl, oshr, oushr, omax, omin]
        simp [rk_i, rk_b, rk_o, st1, kill, Value.category, rcv, nog]
        exact hP1 hr
