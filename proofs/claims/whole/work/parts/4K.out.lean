/-! out -/
/-- what was given for passing k -/
def gvq (w : Wd) (P : Nat → Int32) (k : Nat) : Int32 := if frA w ≤ k then gft w P (W_n w - 1 - k) else 0
def lss (w : Wd) (P : Nat → Int32) (p : Int32) : Nat → Int32
  | 0 => 0
  | i + 1 => lss w P p i + (if W_R w i 1 = p then W_R w i 4 - gvq w P i else 0) - (if frm (W_R w) (W_fo w) i = p then W_R w i 4 - gvq w P i else 0)
def bk0 (w : Wd) : Int32 := if mde w = 1 then W_R w (W_n w - 1) 4 else 0
def outv (w : Wd) (P : Nat → Int32) (p : Int32) : Int32 := lss w P p (W_n w) + (if whz w 0 = p then bk0 w else 0) - (if frm (W_R w) (W_fo w) (W_n w) = p then bk0 w else 0) + (if W_fo w = p then W_wo w else 0) - (if whz w 0 = p then W_wo w else 0)
theorem omin_ok {x y : Int32} (hx : 0 ≤ x.toInt) (hy : 0 ≤ y.toInt) : 0 ≤ (omin x y).toInt ∧ (omin x y).toInt ≤ y.toInt := by
  unfold omin
  by_cases h : y < x
  · rw [if_pos h]; omega
  · rw [if_neg h]
    have := Int32.le_iff_toInt_le.mp (Int32.not_lt.mp h)
    omega
theorem sub_ok {x y : Int32} {M : Nat} (hy : 0 ≤ y.toInt) (hyx : y.toInt ≤ x.toInt) (hx : x.toInt ≤ M) (hM : M < 2 ^ 30) : (x - y).toInt = x.toInt - y.toInt := by
  obtain ⟨a, rfl, z2, -⟩ := ofN (x := x) (a := 0) (b := M) (by omega) hx
  obtain ⟨b, rfl, z3, -⟩ := ofN (x := y) (a := 0) (b := M) hy (by omega)
  have ha : a ≤ M := by omega
  have hb : b ≤ M := by omega
  rw [nI_toInt (by omega), nI_toInt (by omega)] at hyx
  rw [nI_subc (by omega), nI_toInt (by omega), nI_toInt (by omega), nI_toInt (by omega)]
  omega
theorem prs_ok {w : Wd} (hw : WV w) {P : Nat → Int32} (hP : ∀ p, 0 ≤ (P p).toInt ∧ (P p).toInt ≤ 1000000) : ∀ c, c ≤ W_n w → ∀ p, 0 ≤ (prs w P c p).toInt ∧ (prs w P c p).toInt ≤ 1000000 := by
  intro c
  induction c with
  | zero => intro _ p; exact hP p
  | succ c ih =>
    intro hc p
    unfold prs
    have h1 := ih (by omega) p
    have h2 := (hw.2.2.1 (W_n w - 1 - c) (by omega)).2.2.2.2.1
    have h3 := omin_ok h2.1 h1.1
    split
    · rw [sub_ok (M := 1000000) h3.1 h3.2 (by omega) (by omega)]
      omega
    · exact h1
theorem gft_ok {w : Wd} (hw : WV w) {P : Nat → Int32} (hP : ∀ p, 0 ≤ (P p).toInt ∧ (P p).toInt ≤ 1000000) {c : Nat} (hc : c < W_n w) : 0 ≤ (gft w P c).toInt := by
  have h1 := prs_ok hw hP c (by omega) (frm (W_R w) (W_fo w) (W_n w - 1 - c)).toNatClampNeg
  have h2 := (hw.2.2.1 (W_n w - 1 - c) (by omega)).2.2.2.2.1
  exact (omin_ok h2.1 h1.1).1
theorem omax_p {x : Int32} (h : 0 ≤ x.toInt) : omax x 0 = x := by
  unfold omax
  have z : (0 : Int32) ≤ x := Int32.le_iff_toInt_le.mpr h
  by_cases h2 : x < 0
  · exact (Int32.lt_irrefl (Int32.lt_of_lt_of_le h2 z)).elim
  · rw [if_neg h2]
theorem bck_m {w : Wd} (hw : WV w) : omax (bck w) 0 = bk0 w ∧ (0 < bck w ∨ bk0 w = 0) ∧ (0 < bck w → bck w = bk0 w) := by
  unfold bck bk0
  have hm : mde w = 0 ∨ mde w = 1 ∨ mde w = 2 := by
    unfold mde
    split
    · simp
    · split <;> simp
  rcases hm with e | e | e
  · rw [e]
    show omax (-2) 0 = 0 ∧ ((0 : Int32) < -2 ∨ (0 : Int32) = 0) ∧ ((0 : Int32) < -2 → (-2 : Int32) = 0)
    decide
  · rw [e]
    simp only [if_true, if_neg (show ¬ (1 : Nat) = 0 by decide)]
    have hn : W_n w ≠ 0 := fun z => by rw [mde_z z] at e; cases e
    have v := (hw.2.2.1 (W_n w - 1) (by omega)).2.2.2.2.1
    refine ⟨omax_p v.1, ?_, by first | exact fun _ => rfl | exact fun _ => trivial⟩
    by_cases z : W_R w (W_n w - 1) 4 = 0
    · exact Or.inr z
    · refine Or.inl (Int32.lt_iff_toInt_lt.mpr ?_)
      have : (W_R w (W_n w - 1) 4).toInt ≠ 0 := fun y => z (Int32.toInt_inj.mp y)
      have z0 : (0 : Int32).toInt = 0 := rfl
      omega
  · rw [e]
    show omax 0 0 = 0 ∧ ((0 : Int32) < 0 ∨ (0 : Int32) = 0) ∧ ((0 : Int32) < 0 → (0 : Int32) = 0)
    decide
theorem x_loss {w : Wd} {T : Nat} {ra : Nat → Nat} {h : Hp} (q : CX w T ra h) (hX : XR w 0 (lows w) (W_n w) h) {P : Nat → Int32} (hP : ∀ p, 0 ≤ (P p).toInt ∧ (P p).toInt ≤ 1000000) (ar : AR w P h) (p : Int32) : F_X0_lossOf [.ref 162, .int p] h = some (some (.int (outv w P p)), h) := by
  obtain ⟨hn, a1, a2, a3, a4, a5, a6, a7⟩ := q.hd
  have n20 := q.wv.1
  have c0 : h.2.2 162 0 = some 147 := q.1.2.1.at 78 rfl
  have c2 : h.2.2 162 2 = some 164 := q.1.2.1.at 80 rfl
  have nbn := stt_nb w 0 (lows w) (W_n w)
  have eo := x_now q nbn.1 (hX.1 _ (Nat.le_refl _))
  have eh := x_hold q
  have hwe : own w (stt w 0 (lows w) (W_n w)) (W_n w) = whz w 0 := rfl
  rw [hwe] at eo
  obtain ⟨q4, q5, q6⟩ := q.2.2.2.1
  obtain ⟨bm1, bm2, bm3⟩ := bck_m q.wv
  rw [← fq_eq]
  unfold F_X0_lossOf
  refine f_mkE [.ref 162, .int p, junk, junk, junk, junk] rfl (by simp [argE, Value.category]) ?_
  (refine w_fz fun B hB C hC => ?_); (simp only [f_mkF, w_sI, w_sR, w_sL, w_sC, w_sk, w_sbr, w_sco, w_rV, w_rI, w_rR, w_rL, w_dI, w_sO, w_sq, w_si, w_pI, w_pZ, w_pR, w_pU, w_qI, w_qB, w_qZ, w_qU, w_qR, w_kV, q_icst, q_lcst, q_xR, q_ldI, q_ldR, q_ldL, q_bn, q_un, q_dv, q_fI, q_fR, q_aI, q_aR, q_aN, q_tn, q_cmp, q_cmz, q_cnt, q_ctt, q_cand, q_cor, q_vn, q_vI, q_vR, q_vL, q_kI, q_kR, q_kL, q_ckI, envN, argE, List.flatMap_cons, List.flatMap_nil, Value.category, junk, oadd, osub, omul, oand, oor, oxor, odiv, orem, oshl, oshr, oushr, omax, omin]); (simp (disch := first | omega | simp) [rk_i, rk_b, rk_o, st1, kill, Value.category, rcv, nog, inI_b, nI_clamp, nI_ltI, nI_leI, nI_eq, nI_9, nI_6, nI_22, nI_12, nI_180, nI_add, nI_1, hn, ly162, ly147, c0, a1]); (subst hB hC)
  refine w_sqI (E' := [.ref 162, .int p, .ref T, .int 0, junk, junk]) 0 (by simp only [f_mkF, w_sI, w_sR, w_sL, w_sC, w_sk, w_sbr, w_sco, w_rV, w_rI, w_rR, w_rL, w_dI, w_sO, w_sq, w_si, w_pI, w_pZ, w_pR, w_pU, w_qI, w_qB, w_qZ, w_qU, w_qR, w_kV, q_icst, q_lcst, q_xR, q_ldI, q_ldR, q_ldL, q_bn, q_un, q_dv, q_fI, q_fR, q_aI, q_aR, q_aN, q_tn, q_cmp, q_cmz, q_cnt, q_ctt, q_cand, q_cor, q_vn, q_vI, q_vR, q_vL, q_kI, q_kR, q_kL, q_ckI, envN, argE, List.flatMap_cons, List.flatMap_nil, Value.category, junk, oadd, osub, omul, oand, oor, oxor, odiv, orem, oshl, oshr, oushr, omax, omin]; simp) rfl ?_
  refine w_sqS (fun E1 h1 => h1 = h ∧ ∃ x y, E1 = [.ref 162, .int p, .ref T, .int (lss w P p (W_n w)), x, y] ∧ x.category = 1 ∧ y.category = 1) ?_ ?_
  · refine w_sqI (E' := [.ref 162, .int p, .ref T, .int 0, .int (nI 0), junk]) (nI 0) (by simp only [f_mkF, w_sI, w_sR, w_sL, w_sC, w_sk, w_sbr, w_sco, w_rV, w_rI, w_rR, w_rL, w_dI, w_sO, w_sq, w_si, w_pI, w_pZ, w_pR, w_pU, w_qI, w_qB, w_qZ, w_qU, w_qR, w_kV, q_icst, q_lcst, q_xR, q_ldI, q_ldR, q_ldL, q_bn, q_un, q_dv, q_fI, q_fR, q_aI, q_aR, q_aN, q_tn, q_cmp, q_cmz, q_cnt, q_ctt, q_cand, q_cor, q_vn, q_vI, q_vR, q_vL, q_kI, q_kR, q_kL, q_ckI, envN, argE, List.flatMap_cons, List.flatMap_nil, Value.category, junk, oadd, osub, omul, oand, oor, oxor, odiv, orem, oshl, oshr, oushr, omax, omin]; simp [nI_0]) rfl ?_
    refine w_lp (fun k E h' => h' = h ∧ ∃ j v5, k = W_n w - j ∧ j ≤ W_n w ∧ E = [.ref 162, .int p, .ref T, .int (lss w P p j), .int (nI j), v5] ∧ v5.category = 1) ?_ (W_n w) _ _ ⟨rfl, 0, junk, rfl, by omega, rfl, rfl⟩
    rintro k E h' ⟨rfl, j, v5, rfl, hj, rfl, c5⟩
    by_cases hjn : j < W_n w
    · obtain ⟨i20, b1, b2', b3, b4⟩ := q.row hjn
      have b44 := b4 4 (by omega)
      have b41 := b4 1 (by omega)
      have gm : omax (h'.2.1 164 j) 0 = gvq w P j := by
        rw [(ar.1 j hjn).2]
        unfold gvq
        by_cases z : frA w ≤ j
        · rw [if_pos z, if_pos z]
          exact omax_p (gft_ok q.wv hP (by omega))
        · rw [if_neg z, if_neg z]; rfl
      refine ev_T ?_ ⟨fun z => (by cases z), fun _ => ?_⟩
      · simp only [f_mkF, w_sI, w_sR, w_sL, w_sC, w_sk, w_sbr, w_sco, w_rV, w_rI, w_rR, w_rL, w_dI, w_sO, w_sq, w_si, w_pI, w_pZ, w_pR, w_pU, w_qI, w_qB, w_qZ, w_qU, w_qR, w_kV, q_icst, q_lcst, q_xR, q_ldI, q_ldR, q_ldL, q_bn, q_un, q_dv, q_fI, q_fR, q_aI, q_aR, q_aN, q_tn, q_cmp, q_cmz, q_cnt, q_ctt, q_cand, q_cor, q_vn, q_vI, q_vR, q_vL, q_kI, q_kR, q_kL, q_ckI, envN, argE, List.flatMap_cons, List.flatMap_nil, Value.category, junk, oadd, osub, omul, oand, oor, oxor, odiv, orem, oshl, oshr, oushr, omax, omin]
        simp (disch := first | omega | simp) [rk_i, rk_b, rk_o, st1, kill, Value.category, rcv, nog, inI_b, nI_clamp, nI_ltI, nI_leI, nI_eq, nI_9, nI_6, nI_22, nI_12, nI_180, nI_add, nI_1, hn, a2, a4, a7, hjn]
      refine w_sqI (E' := [.ref 162, .int p, .ref T, .int (lss w P p j), .int (nI j), .int (W_R w j 4 - gvq w P j)]) (W_R w j 4 - gvq w P j) ?_ (by simp [st1, kill, Value.category]) ?_
      · rw [← gm]
        simp only [f_mkF, w_sI, w_sR, w_sL, w_sC, w_sk, w_sbr, w_sco, w_rV, w_rI, w_rR, w_rL, w_dI, w_sO, w_sq, w_si, w_pI, w_pZ, w_pR, w_pU, w_qI, w_qB, w_qZ, w_qU, w_qR, w_kV, q_icst, q_lcst, q_xR, q_ldI, q_ldR, q_ldL, q_bn, q_un, q_dv, q_fI, q_fR, q_aI, q_aR, q_aN, q_tn, q_cmp, q_cmz, q_cnt, q_ctt, q_cand, q_cor, q_vn, q_vI, q_vR, q_vL, q_kI, q_kR, q_kL, q_ckI, envN, argE, List.flatMap_cons, List.flatMap_nil, Value.category, junk, oadd, osub, omul, oand, oor, oxor, odiv, orem, oshl, oshr, oushr, omax, omin]
        simp (disch := first | omega | simp) [rk_i, rk_b, rk_o, st1, kill, Value.category, rcv, nog, inI_b, nI_clamp, nI_ltI, nI_leI, nI_eq, nI_9, nI_6, nI_22, nI_12, nI_180, nI_add, nI_1, hn, ly162, ly164, c2, a2, a3, a4, a5, a6, b1, b2', b3, b44, i20]
      refine w_sqS (fun E1 h1 => h1 = h' ∧ E1 = [.ref 162, .int p, .ref T, .int (lss w P p j + (if W_R w j 1 = p then W_R w j 4 - gvq w P j else 0)), .int (nI j), .int (W_R w j 4 - gvq w P j)]) ?_ ?_
      · by_cases hz : W_R w j 1 = p
        · refine (w_siT ?_).mpr (w_sIe _ (by simp only [f_mkF, w_sI, w_sR, w_sL, w_sC, w_sk, w_sbr, w_sco, w_rV, w_rI, w_rR, w_rL, w_dI, w_sO, w_sq, w_si, w_pI, w_pZ, w_pR, w_pU, w_qI, w_qB, w_qZ, w_qU, w_qR, w_kV, q_icst, q_lcst, q_xR, q_ldI, q_ldR, q_ldL, q_bn, q_un, q_dv, q_fI, q_fR, q_aI, q_aR, q_aN, q_tn, q_cmp, q_cmz, q_cnt, q_ctt, q_cand, q_cor, q_vn, q_vI, q_vR, q_vL, q_kI, q_kR, q_kL, q_ckI, envN, argE, List.flatMap_cons, List.flatMap_nil, Value.category, junk, oadd, osub, omul, oand, oor, oxor, odiv, orem, oshl, oshr, oushr, omax, omin]; simp; rfl) rfl ⟨rfl, rfl, ?_⟩)
          · simp only [f_mkF, w_sI, w_sR, w_sL, w_sC, w_sk, w_sbr, w_sco, w_rV, w_rI, w_rR, w_rL, w_dI, w_sO, w_sq, w_si, w_pI, w_pZ, w_pR, w_pU, w_qI, w_qB, w_qZ, w_qU, w_qR, w_kV, q_icst, q_lcst, q_xR, q_ldI, q_ldR, q_ldL, q_bn, q_un, q_dv, q_fI, q_fR, q_aI, q_aR, q_aN, q_tn, q_cmp, q_cmz, q_cnt, q_ctt, q_cand, q_cor, q_vn, q_vI, q_vR, q_vL, q_kI, q_kR, q_kL, q_ckI, envN, argE, List.flatMap_cons, List.flatMap_nil, Value.category, junk, oadd, osub, omul, oand, oor, oxor, odiv, orem, oshl, oshr, oushr, omax, omin]
            simp (disch := first | omega | simp) [rk_i, rk_b, rk_o, st1, kill, Value.category, rcv, nog, inI_b, nI_clamp, nI_ltI, nI_leI, nI_eq, nI_9, nI_6, nI_22, nI_12, nI_180, nI_add, nI_1, hn, a2, a3, a4, a5, a6, b1, b2', b3, b41, i20, hz]
          · rw [if_pos hz]; rfl
        · refine (w_siF ?_).mpr (w_sk.mpr ⟨rfl, rfl, ?_⟩)
          · simp only [f_mkF, w_sI, w_sR, w_sL, w_sC, w_sk, w_sbr, w_sco, w_rV, w_rI, w_rR, w_rL, w_dI, w_sO, w_sq, w_si, w_pI, w_pZ, w_pR, w_pU, w_qI, w_qB, w_qZ, w_qU, w_qR, w_kV, q_icst, q_lcst, q_xR, q_ldI, q_ldR, q_ldL, q_bn, q_un, q_dv, q_fI, q_fR, q_aI, q_aR, q_aN, q_tn, q_cmp, q_cmz, q_cnt, q_ctt, q_cand, q_cor, q_vn, q_vI, q_vR, q_vL, q_kI, q_kR, q_kL, q_ckI, envN, argE, List.flatMap_cons, List.flatMap_nil, Value.category, junk, oadd, osub, omul, oand, oor, oxor, odiv, orem, oshl, oshr, oushr, omax, omin]
            simp (disch := first | omega | simp) [rk_i, rk_b, rk_o, st1, kill, Value.category, rcv, nog, inI_b, nI_clamp, nI_ltI, nI_leI, nI_eq, nI_9, nI_6, nI_22, nI_12, nI_180, nI_add, nI_1, hn, a2, a3, a4, a5, a6, b1, b2', b3, b41, i20, hz]
          · rw [if_neg hz]; simp
      rintro E1 h1 ⟨rfl, rfl⟩
      have hgo : ∀ x, x = lss w P p (j + 1) → wp (sC 4 1) [.ref 162, .int p, .ref T, .int x, .int (nI j), .int (W_R w j 4 - gvq w P j)] h1 fun o2 _ E2 h3 => o2 = 0 ∧ ∃ k2, k2 < W_n w - j ∧ h3 = h1 ∧ ∃ j v5, k2 = W_n w - j ∧ j ≤ W_n w ∧ E2 = [.ref 162, .int p, .ref T, .int (lss w P p j), .int (nI j), v5] ∧ v5.category = 1 := fun x hx => w_sCe (nI j) (nI (j + 1)) rfl (nI_1 _) rfl ⟨rfl, W_n w - (j + 1), by omega, rfl, j + 1, _, rfl, hjn, by subst hx; rfl, rfl⟩
      by_cases hz : frm (W_R w) (W_fo w) j = p
      · refine (w_siT ?_).mpr (w_sIe _ (by simp only [f_mkF, w_sI, w_sR, w_sL, w_sC, w_sk, w_sbr, w_sco, w_rV, w_rI, w_rR, w_rL, w_dI, w_sO, w_sq, w_si, w_pI, w_pZ, w_pR, w_pU, w_qI, w_qB, w_qZ, w_qU, w_qR, w_kV, q_icst, q_lcst, q_xR, q_ldI, q_ldR, q_ldL, q_bn, q_un, q_dv, q_fI, q_fR, q_aI, q_aR, q_aN, q_tn, q_cmp, q_cmz, q_cnt, q_ctt, q_cand, q_cor, q_vn, q_vI, q_vR, q_vL, q_kI, q_kR, q_kL, q_ckI, envN, argE, List.flatMap_cons, List.flatMap_nil, Value.category, junk, oadd, osub, omul, oand, oor, oxor, odiv, orem, oshl, oshr, oushr, omax, omin]; simp; rfl) rfl ⟨fun _ => hgo _ ?_, (fun z => by cases z), fun z => absurd rfl z⟩)
        · simp only [f_mkF, w_sI, w_sR, w_sL, w_sC, w_sk, w_sbr, w_sco, w_rV, w_rI, w_rR, w_rL, w_dI, w_sO, w_sq, w_si, w_pI, w_pZ, w_pR, w_pU, w_qI, w_qB, w_qZ, w_qU, w_qR, w_kV, q_icst, q_lcst, q_xR, q_ldI, q_ldR, q_ldL, q_bn, q_un, q_dv, q_fI, q_fR, q_aI, q_aR, q_aN, q_tn, q_cmp, q_cmz, q_cnt, q_ctt, q_cand, q_cor, q_vn, q_vI, q_vR, q_vL, q_kI, q_kR, q_kL, q_ckI, envN, argE, List.flatMap_cons, List.flatMap_nil, Value.category, junk, oadd, osub, omul, oand, oor, oxor, odiv, orem, oshl, oshr, oushr, omax, omin]
          simp (disch := first | omega | simp) [rk_i, rk_b, rk_o, st1, kill, Value.category, rcv, nog, inI_b, nI_clamp, nI_ltI, nI_leI, nI_eq, nI_9, nI_6, nI_22, nI_12, nI_180, nI_add, nI_1, hn, a2, a4, fq_of (q.fw (i := j) (by omega)), hz]
        · show _ = lss w P p j + _ - _
          rw [if_pos hz]
      · refine (w_siF ?_).mpr (w_sk.mpr ⟨fun _ => hgo _ ?_, (fun z => by cases z), fun z => absurd rfl z⟩)
        · simp only [f_mkF, w_sI, w_sR, w_sL, w_sC, w_sk, w_sbr, w_sco, w_rV, w_rI, w_rR, w_rL, w_dI, w_sO, w_sq, w_si, w_pI, w_pZ, w_pR, w_pU, w_qI, w_qB, w_qZ, w_qU, w_qR, w_kV, q_icst, q_lcst, q_xR, q_ldI, q_ldR, q_ldL, q_bn, q_un, q_dv, q_fI, q_fR, q_aI, q_aR, q_aN, q_tn, q_cmp, q_cmz, q_cnt, q_ctt, q_cand, q_cor, q_vn, q_vI, q_vR, q_vL, q_kI, q_kR, q_kL, q_ckI, envN, argE, List.flatMap_cons, List.flatMap_nil, Value.category, junk, oadd, osub, omul, oand, oor, oxor, odiv, orem, oshl, oshr, oushr, omax, omin]
          simp (disch := first | omega | simp) [rk_i, rk_b, rk_o, st1, kill, Value.category, rcv, nog, inI_b, nI_clamp, nI_ltI, nI_leI, nI_eq, nI_9, nI_6, nI_22, nI_12, nI_180, nI_add, nI_1, hn, a2, a4, fq_of (q.fw (i := j) (by omega)), hz]
        · show _ = lss w P p j + _ - _
          rw [if_neg hz]
          simp
    · have hjj : j = W_n w := by omega
      subst hjj
      refine ev_F ?_ ⟨fun _ => ⟨rfl, rfl, _, _, rfl, rfl, c5⟩, fun z => (by cases z)⟩
      simp only [f_mkF, w_sI, w_sR, w_sL, w_sC, w_sk, w_sbr, w_sco, w_rV, w_rI, w_rR, w_rL, w_dI, w_sO, w_sq, w_si, w_pI, w_pZ, w_pR, w_pU, w_qI, w_qB, w_qZ, w_qU, w_qR, w_kV, q_icst, q_lcst, q_xR, q_ldI, q_ldR, q_ldL, q_bn, q_un, q_dv, q_fI, q_fR, q_aI, q_aR, q_aN, q_tn, q_cmp, q_cmz, q_cnt, q_ctt, q_cand, q_cor, q_vn, q_vI, q_vR, q_vL, q_kI, q_kR, q_kL, q_ckI, envN, argE, List.flatMap_cons, List.flatMap_nil, Value.category, junk, oadd, osub, omul, oand, oor, oxor, odiv, orem, oshl, oshr, oushr, omax, omin]
      simp (disch := first | omega | simp) [rk_i, rk_b, rk_o, st1, kill, Value.category, rcv, nog, inI_b, nI_clamp, nI_ltI, nI_leI, nI_eq, nI_9, nI_6, nI_22, nI_12, nI_180, nI_add, nI_1, hn, a2, a4, a7]
  rintro E1 h1 ⟨rfl, x, y, rfl, cx, cy⟩
  have hst : ∀ (c : DC) (b : Bool) (e : DI) (v acc acc' : Int32) (rest : Sm) (Q : Nat → Value → En → Hp → Prop), (ev c [.ref 162, .int p, .ref T, .int acc, x, y] h1 fun t h2 => t = b ∧ h2 = h1) → (b = true → ev e [.ref 162, .int p, .ref T, .int acc, x, y] h1 fun t h2 => t = v ∧ h2 = h1) → acc' = (if b = true then v else acc) → wp rest [.ref 162, .int p, .ref T, .int acc', x, y] h1 Q → wp (sq (si c (sI 3 e) sk) rest) [.ref 162, .int p, .ref T, .int acc, x, y] h1 Q := by
    intro c b e v acc acc' rest Q hc he hv hr
    refine w_sq.mpr (w_siN b hc (fun hb => ?_) (fun hb => ?_))
    · rw [if_pos hb] at hv
      refine w_sIe v (he hb) rfl ⟨fun _ => ?_, fun z => absurd rfl z⟩
      rw [hv] at hr
      exact hr
    · rw [if_neg (by rw [hb]; simp)] at hv
      rw [hv] at hr
      exact w_sk2.mpr hr
  refine hst _ (decide (W_fo w = p)) _ (lss w P p (W_n w) + W_wo w) _ _ _ _ ?_ ?_ rfl ?_
  · simp only [f_mkF, w_sI, w_sR, w_sL, w_sC, w_sk, w_sbr, w_sco, w_rV, w_rI, w_rR, w_rL, w_dI, w_sO, w_sq, w_si, w_pI, w_pZ, w_pR, w_pU, w_qI, w_qB, w_qZ, w_qU, w_qR, w_kV, q_icst, q_lcst, q_xR, q_ldI, q_ldR, q_ldL, q_bn, q_un, q_dv, q_fI, q_fR, q_aI, q_aR, q_aN, q_tn, q_cmp, q_cmz, q_cnt, q_ctt, q_cand, q_cor, q_vn, q_vI, q_vR, q_vL, q_kI, q_kR, q_kL, q_ckI, envN, argE, List.flatMap_cons, List.flatMap_nil, Value.category, junk, oadd, osub, omul, oand, oor, oxor, odiv, orem, oshl, oshr, oushr, omax, omin]
    simp (disch := first | omega | simp) [rk_i, rk_b, rk_o, st1, kill, Value.category, rcv, nog, hn, a2, a4, q5]
    try grind
  · intro _
    simp only [f_mkF, w_sI, w_sR, w_sL, w_sC, w_sk, w_sbr, w_sco, w_rV, w_rI, w_rR, w_rL, w_dI, w_sO, w_sq, w_si, w_pI, w_pZ, w_pR, w_pU, w_qI, w_qB, w_qZ, w_qU, w_qR, w_kV, q_icst, q_lcst, q_xR, q_ldI, q_ldR, q_ldL, q_bn, q_un, q_dv, q_fI, q_fR, q_aI, q_aR, q_aN, q_tn, q_cmp, q_cmz, q_cnt, q_ctt, q_cand, q_cor, q_vn, q_vI, q_vR, q_vL, q_kI, q_kR, q_kL, q_ckI, envN, argE, List.flatMap_cons, List.flatMap_nil, Value.category, junk, oadd, osub, omul, oand, oor, oxor, odiv, orem, oshl, oshr, oushr, omax, omin]
    simp (disch := first | omega | simp) [rk_i, rk_b, rk_o, st1, kill, Value.category, rcv, nog, hn, a2, a4, q4]
  refine hst _ (decide (whz w 0 = p)) _ ((if decide (W_fo w = p) = true then lss w P p (W_n w) + W_wo w else lss w P p (W_n w)) + (bk0 w - W_wo w)) _ _ _ _ ?_ ?_ rfl ?_
  · simp only [f_mkF, w_sI, w_sR, w_sL, w_sC, w_sk, w_sbr, w_sco, w_rV, w_rI, w_rR, w_rL, w_dI, w_sO, w_sq, w_si, w_pI, w_pZ, w_pR, w_pU, w_qI, w_qB, w_qZ, w_qU, w_qR, w_kV, q_icst, q_lcst, q_xR, q_ldI, q_ldR, q_ldL, q_bn, q_un, q_dv, q_fI, q_fR, q_aI, q_aR, q_aN, q_tn, q_cmp, q_cmz, q_cnt, q_ctt, q_cand, q_cor, q_vn, q_vI, q_vR, q_vL, q_kI, q_kR, q_kL, q_ckI, envN, argE, List.flatMap_cons, List.flatMap_nil, Value.category, junk, oadd, osub, omul, oand, oor, oxor, odiv, orem, oshl, oshr, oushr, omax, omin]
    simp (disch := first | omega | simp) [rk_i, rk_b, rk_o, st1, kill, Value.category, rcv, nog, hn, ly162, ly147, c0, fq_of eo]
    try grind
  · intro _
    rw [← bm1, ← ar.2]
    simp only [f_mkF, w_sI, w_sR, w_sL, w_sC, w_sk, w_sbr, w_sco, w_rV, w_rI, w_rR, w_rL, w_dI, w_sO, w_sq, w_si, w_pI, w_pZ, w_pR, w_pU, w_qI, w_qB, w_qZ, w_qU, w_qR, w_kV, q_icst, q_lcst, q_xR, q_ldI, q_ldR, q_ldL, q_bn, q_un, q_dv, q_fI, q_fR, q_aI, q_aR, q_aN, q_tn, q_cmp, q_cmz, q_cnt, q_ctt, q_cand, q_cor, q_vn, q_vI, q_vR, q_vL, q_kI, q_kR, q_kL, q_ckI, envN, argE, List.flatMap_cons, List.flatMap_nil, Value.category, junk, oadd, osub, omul, oand, oor, oxor, odiv, orem, oshl, oshr, oushr, omax, omin]
    simp (disch := first | omega | simp) [rk_i, rk_b, rk_o, st1, kill, Value.category, rcv, nog, hn, ly162, a2, a4, q4]
  refine hst _ (decide (frm (W_R w) (W_fo w) (W_n w) = p)) _ ((if decide (whz w 0 = p) = true then (if decide (W_fo w = p) = true then lss w P p (W_n w) + W_wo w else lss w P p (W_n w)) + (bk0 w - W_wo w) else (if decide (W_fo w = p) = true then lss w P p (W_n w) + W_wo w else lss w P p (W_n w))) - bk0 w) _ _ _ _ ?_ ?_ rfl ?_
  · simp only [f_mkF, w_sI, w_sR, w_sL, w_sC, w_sk, w_sbr, w_sco, w_rV, w_rI, w_rR, w_rL, w_dI, w_sO, w_sq, w_si, w_pI, w_pZ, w_pR, w_pU, w_qI, w_qB, w_qZ, w_qU, w_qR, w_kV, q_icst, q_lcst, q_xR, q_ldI, q_ldR, q_ldL, q_bn, q_un, q_dv, q_fI, q_fR, q_aI, q_aR, q_aN, q_tn, q_cmp, q_cmz, q_cnt, q_ctt, q_cand, q_cor, q_vn, q_vI, q_vR, q_vL, q_kI, q_kR, q_kL, q_ckI, envN, argE, List.flatMap_cons, List.flatMap_nil, Value.category, junk, oadd, osub, omul, oand, oor, oxor, odiv, orem, oshl, oshr, oushr, omax, omin]
    simp (disch := first | omega | simp) [rk_i, rk_b, rk_o, st1, kill, Value.category, rcv, nog, hn, a2, a4, fq_of eh]
    try grind
  · intro _
    rw [← bm1, ← ar.2]
    simp only [f_mkF, w_sI, w_sR, w_sL, w_sC, w_sk, w_sbr, w_sco, w_rV, w_rI, w_rR, w_rL, w_dI, w_sO, w_sq, w_si, w_pI, w_pZ, w_pR, w_pU, w_qI, w_qB, w_qZ, w_qU, w_qR, w_kV, q_icst, q_lcst, q_xR, q_ldI, q_ldR, q_ldL, q_bn, q_un, q_dv, q_fI, q_fR, q_aI, q_aR, q_aN, q_tn, q_cmp, q_cmz, q_cnt, q_ctt, q_cand, q_cor, q_vn, q_vI, q_vR, q_vL, q_kI, q_kR, q_kL, q_ckI, envN, argE, List.flatMap_cons, List.flatMap_nil, Value.category, junk, oadd, osub, omul, oand, oor, oxor, odiv, orem, oshl, oshr, oushr, omax, omin]
    simp (disch := first | omega | simp) [rk_i, rk_b, rk_o, st1, kill, Value.category, rcv, nog, hn, ly162, a2, a4, q4]
  simp only [f_mkF, w_sI, w_sR, w_sL, w_sC, w_sk, w_sbr, w_sco, w_rV, w_rI, w_rR, w_rL, w_dI, w_sO, w_sq, w_si, w_pI, w_pZ, w_pR, w_pU, w_qI, w_qB, w_qZ, w_qU, w_qR, w_kV, q_icst, q_lcst, q_xR, q_ldI, q_ldR, q_ldL, q_bn, q_un, q_dv, q_fI, q_fR, q_aI, q_aR, q_aN, q_tn, q_cmp, q_cmz, q_cnt, q_ctt, q_cand, q_cor, q_vn, q_vI, q_vR, q_vL, q_kI, q_kR, q_kL, q_ckI, envN, argE, List.flatMap_cons, List.flatMap_nil, Value.category, junk, oadd, osub, omul, oand, oor, oxor, odiv, orem, oshl, oshr, oushr, omax, omin]
  simp [rk_i, rk_b, rk_o, st1, kill, Value.category, rcv, nog]
  unfold outv
  grind
