/-! passing, the reference's -/
theorem w_sqN {a b : Sm} {E : En} {h : Hp} {Q : Nat → Value → En → Hp → Prop} (H : wp a E h fun o _ E1 h1 => o = 0 ∧ wp b E1 h1 Q) : wp (sq a b) E h Q := by
  rw [w_sq]
  exact wp_mono H fun o v E1 h1 z => ⟨fun _ => z.2, fun z2 => absurd z.1 z2⟩
def VP (h : Hp) (t kind to land month price signs lo hi : Int32) : Prop := (0 ≤ t ∧ t < h.2.1 166 2) ∧ (0 ≤ kind ∧ kind ≤ 7) ∧ (0 ≤ to ∧ to < h.2.1 166 1) ∧ (0 ≤ land ∧ land ≤ 5) ∧ (0 ≤ month ∧ month ≤ h.2.1 166 0) ∧ (0 ≤ price ∧ price ≤ (if kind = 0 then 1000000 else 0)) ∧ (0 ≤ signs ∧ signs ≤ 7) ∧ (0 ≤ lo ∧ lo ≤ hi ∧ hi ≤ 2)
/-- the rows when one is put in -/
def insR (R : Nat → Nat → Int32) (at' : Nat) (new : Nat → Int32) (i k : Nat) : Int32 := if i < at' then R i k else if i = at' then new k else R (i - 1) k
theorem e_m_pass0 {h : Hp} (hp : Ip h) (h2 : (h.2.1 166 2).toInt ≤ 4) (t kind to land month price signs lo hi : Int32) (hc : ¬ VP h t kind to land month price signs lo hi) : F_X11_passing [.ref 166, .int t, .int kind, .int to, .int land, .int month, .int price, .int signs, .int lo, .int hi] h = some (some (.int (-1)), h) := by
  have hn := hp.1
  rw [← fq_eq]
  unfold F_X11_passing
  rw [f_mkF]
  refine ⟨by simp [argE, Value.category], ?_⟩
  refine w_sq.mpr ((w_siT ?_).mpr ?_)
  · simp only [f_mkF, w_sI, w_sR, w_sL, w_sC, w_sk, w_sbr, w_sco, w_rV, w_rI, w_rR, w_rL, w_dI, w_sO, w_sq, w_si, w_pI, w_pZ, w_pR, w_pU, w_qI, w_qB, w_qZ, w_qU, w_qR, w_kV, q_icst, q_lcst, q_xR, q_ldI, q_ldR, q_ldL, q_bn, q_un, q_dv, q_fI, q_fR, q_aI, q_aR, q_aN, q_tn, q_cmp, q_cmz, q_cnt, q_ctt, q_cand, q_cor, q_vn, q_vI, q_vR, q_vL, q_kI, q_kR, q_kL, q_ckI, envN, argE, List.flatMap_cons, List.flatMap_nil, Value.category, junk, oadd, osub, omul, oand, oor, oxor, odiv, orem, oshl, oshr, oushr, omax, omin]
    simp [rk_i, rk_b, rk_o, st1, kill, Value.category, rcv, nog, hn, ly166, fq_of (e_m_isThing _ _ hn), fq_of (e_m_in _ _ _ _), fq_of (e_m_isPerson _ _ hn), fq_of (e_m_isLand _ _), fq_of (e_m_isMind _ _ _), b2_0, zne]
    unfold VP at hc
    grind
  · simp only [f_mkF, w_sI, w_sR, w_sL, w_sC, w_sk, w_sbr, w_sco, w_rV, w_rI, w_rR, w_rL, w_dI, w_sO, w_sq, w_si, w_pI, w_pZ, w_pR, w_pU, w_qI, w_qB, w_qZ, w_qU, w_qR, w_kV, q_icst, q_lcst, q_xR, q_ldI, q_ldR, q_ldL, q_bn, q_un, q_dv, q_fI, q_fR, q_aI, q_aR, q_aN, q_tn, q_cmp, q_cmz, q_cnt, q_ctt, q_cand, q_cor, q_vn, q_vI, q_vR, q_vL, q_kI, q_kR, q_kL, q_ckI, envN, argE, List.flatMap_cons, List.flatMap_nil, Value.category, junk, oadd, osub, omul, oand, oor, oxor, odiv, orem, oshl, oshr, oushr, omax, omin]
    simp [rk_i, rk_b, rk_o, st1, kill, Value.category, rcv, nog]
