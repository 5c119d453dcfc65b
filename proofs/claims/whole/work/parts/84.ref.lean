/-! the reference reads: steps of a sum -/
theorem w_unr {c : DC} {b s : Sm} {E : En} {h : Hp} {Q : Nat → Value → En → Hp → Prop} (H : ev c E h fun t h1 => (t = false → Q 0 .null E h1) ∧ (t = true → wp b E h1 fun o v E1 h2 => ((o = 0 ∨ o = 4) → wp s E1 h2 fun o2 _ E2 h3 => o2 = 0 ∧ wp (lp c b s) E2 h3 Q) ∧ (o = 3 → Q 0 .null E1 h2) ∧ (o ≠ 0 → o ≠ 4 → o ≠ 3 → Q o v E1 h2))) : wp (lp c b s) E h Q := by
  obtain ⟨t, h1, e1, hf, ht⟩ := H
  cases t with
  | false => exact ⟨_, _, _, _, by rw [lp_eq, e1]; rfl, hf rfl⟩
  | true =>
    obtain ⟨o, v, E1, h2, e2, q1, q2, q3⟩ := ht rfl
    by_cases c1 : o = 0 ∨ o = 4
    · obtain ⟨o2, v2, E2, h3, e3, rfl, o4, v4, E4, h4, e4, q4⟩ := q1 c1
      refine ⟨o4, v4, E4, h4, ?_, q4⟩
      rw [lp_eq, e1]
      simp only [Option.bind_some, if_true, e2]
      rw [if_pos c1, e3]
      simp only [Option.bind_some, if_true]
      exact e4
    · by_cases c3 : o = 3
      · refine ⟨_, _, _, _, ?_, q2 c3⟩
        rw [lp_eq, e1]
        simp only [Option.bind_some, if_true, e2]
        rw [if_neg c1, if_pos c3]
      · refine ⟨_, _, _, _, ?_, q3 (fun z => c1 (Or.inl z)) (fun z => c1 (Or.inr z)) c3⟩
        rw [lp_eq, e1]
        simp only [Option.bind_some, if_true, e2]
        rw [if_neg c1, if_neg c3]
noncomputable def LBS : Sm := (sq (sI 2 (kI nog F_X11_sumSign (vI (vn) (kI (rcv 11) F_X11_here (vR vn (ldR 0)))))) (si (cnt (cmp oeq (ldI 2) (icst (-1)))) (sq (kV (rcv 11) F_X11_closesSums (vI (vR vn (ldR 0)) (tn (cnt (cmp oge (ldI 2) (icst 4))) (icst 1) (icst 0)))) (sq (qI 13 (fR 11 30 (ldR 0)) (fI 11 26 (ldR 0)) (bn omul (icst 1048576) (ldI 2))) (sq (pI 11 26 (ldR 0) (bn oadd (fI 11 26 (ldR 0)) (icst 1))) (sq (pI 11 21 (ldR 0) (bn oadd (fI 11 21 (ldR 0)) (icst 1))) (si (cnt (cmz zne (kI (rcv 11) F_X11_readsFactor (vR vn (ldR 0))))) (rI (icst 0)) sk))))) (si (cand (cnt (cmp one (kI (rcv 11) F_X11_here (vR vn (ldR 0))) (icst 93))) (cnt (cmz zeq (kI (rcv 11) F_X11_hasOpenSum (vI (vR vn (ldR 0)) (ldI 1)))))) (sq (kV (rcv 11) F_X11_closesSums (vI (vR vn (ldR 0)) (icst 1))) (sq (pI 11 26 (ldR 0) (bn osub (fI 11 26 (ldR 0)) (icst 1))) (sq (pI 11 24 (ldR 0) (bn osub (fI 11 24 (ldR 0)) (icst 1))) (pI 11 21 (ldR 0) (bn oadd (fI 11 21 (ldR 0)) (icst 1)))))) (sq (si (cnt (cmz zeq (kI (rcv 11) F_X11_hasOpenSum (vI (vR vn (ldR 0)) (ldI 1))))) (rI (kI (rcv 11) F_X11_wrong (vI (vI (vR vn (ldR 0)) (icst 1)) (fI 11 21 (ldR 0))))) sk) (sq (kV (rcv 11) F_X11_closesSums (vI (vR vn (ldR 0)) (icst 1))) (rI (icst 1)))))))
noncomputable def LHS : Sm := lp ctt LBS sk
theorem RS_eq : F_X11_readsSum = mkF 3 (some .boolean) (sq (sI 1 (fI 11 26 (ldR 0))) (sq (si (cnt (cmz zne (kI (rcv 11) F_X11_readsFactor (vR vn (ldR 0))))) (rI (icst 0)) sk) LHS)) := rfl
def Wr (Q : Value → Hp → Prop) (base : Nat) (h : Hp) : Prop := ∀ v2 : Value, v2.category = 1 → wp LHS [.ref 166, .int (nI base), v2] h fun o v _ h' => o = 2 ∧ Q v h'
def RK (Q : Value → Hp → Prop) (base : Nat) (h : Hp) : Prop := fq F_X11_readsFactor [.ref 166] h fun r h' => (r = some (.int 1) ∧ Wr Q base h') ∨ (r = some (.int 0) ∧ Q (.int 0) h')
def GD (s : Nat → Nat) (e : Nat) (h0 h : Hp) (p o : Nat) (st L : List Pr2) : Prop := MR s e h ∧ MS h p o st L ∧ Fr SMr h0 h ∧ p ≤ e ∧ st.length ≤ p ∧ L.length ≤ p
def EF (Q : Value → Hp → Prop) (h0 : Hp) (f : Nat) : Prop := ∀ h', Fr SMr h0 h' → h'.2.1 166 23 = -(nI f) → Q (.int 0) h'
def rfc (x : Cd) : Pr2 := (x.1, if x.1 ≤ 1 then x.2.1 else if 11 ≤ x.1 then x.2.2.2 else 0)
section SUMS
variable {s : Nat → Nat} {e : Nat} {h0 : Hp} {Q : Value → Hp → Prop}
theorem W_unr {base : Nat} {h : Hp} (H : ∀ v2 : Value, v2.category = 1 → wp LBS [.ref 166, .int (nI base), v2] h fun o v E1 h2 => (o = 0 ∧ (∃ v2 : Value, v2.category = 1 ∧ E1 = [.ref 166, .int (nI base), v2]) ∧ Wr Q base h2) ∨ (o = 2 ∧ Q v h2)) : Wr Q base h := by
  intro v2 c2
  unfold LHS
  refine w_unr ?_
  rw [q_ctt]
  refine ⟨(fun z => by cases z), fun _ => wp_mono (H v2 c2) ?_⟩
  rintro o v E1 h2 (⟨rfl, ⟨v3, c3, rfl⟩, w⟩ | ⟨rfl, z⟩)
  · exact ⟨fun _ => w_sk.mpr ⟨rfl, w v3 c3⟩, (fun z => by cases z), fun z => absurd rfl z⟩
  · exact ⟨(fun z => by rcases z with z | z <;> cases z), (fun z => by cases z), fun _ _ _ => ⟨rfl, z⟩⟩
theorem W_op {base : Nat} {h : Hp} {p o : Nat} {σ pend L : List Pr2} (g : GD s e h0 h p o (σ ++ pend) L) (hop : opP (s p) ≠ 0) (hc : ∀ x, x ∈ pend → cloM (decide (opP (s p) < 4)) x.1 = true) (hσ : stopM (cloM (decide (opP (s p) < 4))) σ) (hlen : L.length + pend.length ≤ p) (hk : ∀ h1, GD s e h0 h1 (p + 1) o (σ ++ [(opP (s p), 0)]) (L ++ ops pend) → RK Q base h1) : Wr Q base h := by
  obtain ⟨q, m, fr, hpe, hst, hL⟩ := g
  have hs := q.2.2.2.2.2.1
  have hz := q.2.2.2.2.2.2
  have h160 := q.2.2.2.1
  have hn := q.1
  have hm := q.2.1
  have e1 := m_here q m.1 hpe
  have e2 := m_sign (p := p) hs hz h
  have hlt : p < e := lt_e hz fun z => by rw [z] at hop; exact hop rfl
  have op6 : opP (s p) ≤ 6 := by
    have : ∀ c, c < 256 → opP c ≤ 6 ∧ (opP c = 0 ∨ 2 ≤ opP c) := by decide +kernel
    exact (this _ (hs p)).1
  rw [if_neg hop] at e2
  refine W_unr fun v2 c2 => ?_
  unfold LBS
  generalize hO : opP (s p) = O at *
  have nO : ¬ nI O = -1 := fun z => by
    have y : (-1 : Int32) < 0 := by decide
    rw [← z] at y
    exact absurd y (Int32.not_lt.mpr (nI_0le (by omega)))
  refine w_sqI (E' := [.ref 166, .int (nI base), .int (nI O)]) (nI O) (by simp only [f_mkF, w_sI, w_sR, w_sL, w_sC, w_sk, w_sbr, w_sco, w_rV, w_rI, w_rR, w_rL, w_dI, w_sO, w_sq, w_si, w_pI, w_pZ, w_pR, w_pU, w_qI, w_qB, w_qZ, w_qU, w_qR, w_kV, q_icst, q_lcst, q_xR, q_ldI, q_ldR, q_ldL, q_bn, q_un, q_dv, q_fI, q_fR, q_aI, q_aR, q_aN, q_tn, q_cmp, q_cmz, q_cnt, q_ctt, q_cand, q_cor, q_vn, q_vI, q_vR, q_vL, q_kI, q_kR, q_kL, q_ckI, envN, argE, List.flatMap_cons, List.flatMap_nil, Value.category, junk, oadd, osub, omul, oand, oor, oxor, odiv, orem, oshl, oshr, oushr, omax, omin]; simp (disch := first | omega | simp) [rk_i, rk_b, rk_o, st1, kill, Value.category, rcv, nog, hn, ly166, fq_of e1, fq_of e2]) rfl ?_
  refine (w_siT (by simp only [f_mkF, w_sI, w_sR, w_sL, w_sC, w_sk, w_sbr, w_sco, w_rV, w_rI, w_rR, w_rL, w_dI, w_sO, w_sq, w_si, w_pI, w_pZ, w_pR, w_pU, w_qI, w_qB, w_qZ, w_qU, w_qR, w_kV, q_icst, q_lcst, q_xR, q_ldI, q_ldR, q_ldL, q_bn, q_un, q_dv, q_fI, q_fR, q_aI, q_aR, q_aN, q_tn, q_cmp, q_cmz, q_cnt, q_ctt, q_cand, q_cor, q_vn, q_vI, q_vR, q_vL, q_kI, q_kR, q_kL, q_ckI, envN, argE, List.flatMap_cons, List.flatMap_nil, Value.category, junk, oadd, osub, omul, oand, oor, oxor, odiv, orem, oshl, oshr, oushr, omax, omin]; simp (disch := first | omega | simp) [rk_i, rk_b, rk_o, st1, kill, Value.category, rcv, nog, nO])).mpr ?_
  have all4 : ev (tn (cnt (cmp oge (ldI 2) (icst 4))) (icst 1) (icst 0)) [.ref 166, .int (nI base), .int (nI O)] h fun x h1 => x = b2 (decide (O < 4) = true) ∧ h1 = h := by
    rw [q_tn]
    have k4 : (4 : Int32) = nI 4 := rfl
    by_cases c4 : O < 4
    · refine ev_T (by simp only [f_mkF, w_sI, w_sR, w_sL, w_sC, w_sk, w_sbr, w_sco, w_rV, w_rI, w_rR, w_rL, w_dI, w_sO, w_sq, w_si, w_pI, w_pZ, w_pR, w_pU, w_qI, w_qB, w_qZ, w_qU, w_qR, w_kV, q_icst, q_lcst, q_xR, q_ldI, q_ldR, q_ldL, q_bn, q_un, q_dv, q_fI, q_fR, q_aI, q_aR, q_aN, q_tn, q_cmp, q_cmz, q_cnt, q_ctt, q_cand, q_cor, q_vn, q_vI, q_vR, q_vL, q_kI, q_kR, q_kL, q_ckI, envN, argE, List.flatMap_cons, List.flatMap_nil, Value.category, junk, oadd, osub, omul, oand, oor, oxor, odiv, orem, oshl, oshr, oushr, omax, omin]; simp (disch := first | omega | simp) [rk_i, rk_b, rk_o, st1, kill, Value.category, rcv, nog, inI_b, nI_clamp, nI_ltI, nI_leI, nI_eq, nI_9, nI_6, nI_22, nI_12, nI_180, nI_add, nI_1, k4, c4]) ⟨fun _ => ?_, fun z => by cases z⟩
      rw [q_icst, b2_1.mpr (by simp [c4])]; exact ⟨rfl, rfl⟩
    · have c4' : 4 ≤ O := by omega
      refine ev_F (by simp only [f_mkF, w_sI, w_sR, w_sL, w_sC, w_sk, w_sbr, w_sco, w_rV, w_rI, w_rR, w_rL, w_dI, w_sO, w_sq, w_si, w_pI, w_pZ, w_pR, w_pU, w_qI, w_qB, w_qZ, w_qU, w_qR, w_kV, q_icst, q_lcst, q_xR, q_ldI, q_ldR, q_ldL, q_bn, q_un, q_dv, q_fI, q_fR, q_aI, q_aR, q_aN, q_tn, q_cmp, q_cmz, q_cnt, q_ctt, q_cand, q_cor, q_vn, q_vI, q_vR, q_vL, q_kI, q_kR, q_kL, q_ckI, envN, argE, List.flatMap_cons, List.flatMap_nil, Value.category, junk, oadd, osub, omul, oand, oor, oxor, odiv, orem, oshl, oshr, oushr, omax, omin]; simp (disch := first | omega | simp) [rk_i, rk_b, rk_o, st1, kill, Value.category, rcv, nog, inI_b, nI_clamp, nI_ltI, nI_leI, nI_eq, nI_9, nI_6, nI_22, nI_12, nI_180, nI_add, nI_1, k4, c4, c4']) ⟨(fun z => by cases z), fun _ => ?_⟩
      rw [q_icst, b2_0.mpr (by simp; omega)]; exact ⟨rfl, rfl⟩
  have l1 : (σ ++ pend).length < 180 := by omega
  refine w_sqS (fun E1 h1 => E1 = [.ref 166, .int (nI base), .int (nI O)] ∧ Fr SMr h h1 ∧ MS h1 p o σ (L ++ ops pend)) ?_ ?_
  · refine w_kVe [.ref 166, .int (b2 (decide (O < 4) = true))] ?_ (by simp [rcv, hn, ly166]) (fq_mono (m_closes hn hm m (decide (O < 4)) l1 (by omega) hc hσ) (by rintro r h1 ⟨rfl, z⟩; exact ⟨rfl, rfl, rfl, z⟩))
    rw [q_vI, q_vR, q_vn, q_ldR]
    refine ⟨166, rfl, ?_⟩
    refine ev_mono all4 ?_
    rintro x h1 ⟨rfl, rfl⟩
    exact ⟨rfl, rfl⟩
  rintro E1 h1 ⟨rfl, f1, m1⟩
  have q1 := q.c f1
  have hn1 := q1.1
  have hm1 := q1.2.1
  have p30 : h1.2.2 166 30 = some 185 := hm1 30
  have lσ : σ.length < 180 := by simp at l1; omega
  obtain ⟨t1, t2, t3, t4, t5, t6, t7, t8⟩ := m1
  have ev0 : 1048576 * nI O = nI (enc2 (O, 0)) := by
    rw [show (1048576 : Int32) = nI 1048576 from rfl, nI_mul]; rfl
  refine w_sqN (w_qIe 185 σ.length (nI (enc2 (O, 0))) (by simp only [f_mkF, w_sI, w_sR, w_sL, w_sC, w_sk, w_sbr, w_sco, w_rV, w_rI, w_rR, w_rL, w_dI, w_sO, w_sq, w_si, w_pI, w_pZ, w_pR, w_pU, w_qI, w_qB, w_qZ, w_qU, w_qR, w_kV, q_icst, q_lcst, q_xR, q_ldI, q_ldR, q_ldL, q_bn, q_un, q_dv, q_fI, q_fR, q_aI, q_aR, q_aN, q_tn, q_cmp, q_cmz, q_cnt, q_ctt, q_cand, q_cor, q_vn, q_vI, q_vR, q_vL, q_kI, q_kR, q_kL, q_ckI, envN, argE, List.flatMap_cons, List.flatMap_nil, Value.category, junk, oadd, osub, omul, oand, oor, oxor, odiv, orem, oshl, oshr, oushr, omax, omin]; simp (disch := first | omega | simp) [rk_i, rk_b, rk_o, st1, kill, Value.category, rcv, nog, hn1, ly166, p30]) (ev_fM hn1 rfl t3) (by simp only [f_mkF, w_sI, w_sR, w_sL, w_sC, w_sk, w_sbr, w_sco, w_rV, w_rI, w_rR, w_rL, w_dI, w_sO, w_sq, w_si, w_pI, w_pZ, w_pR, w_pU, w_qI, w_qB, w_qZ, w_qU, w_qR, w_kV, q_icst, q_lcst, q_xR, q_ldI, q_ldR, q_ldL, q_bn, q_un, q_dv, q_fI, q_fR, q_aI, q_aR, q_aN, q_tn, q_cmp, q_cmz, q_cnt, q_ctt, q_cand, q_cor, q_vn, q_vI, q_vR, q_vL, q_kI, q_kR, q_kL, q_ckI, envN, argE, List.flatMap_cons, List.flatMap_nil, Value.category, junk, oadd, osub, omul, oand, oor, oxor, odiv, orem, oshl, oshr, oushr, omax, omin]; simp (disch := first | omega | simp) [rk_i, rk_b, rk_o, st1, kill, Value.category, rcv, nog, ev0]) (by omega) ly185 lσ (by omega) ⟨rfl, ?_⟩)
  refine w_sqN (w_pMe (nI (σ.length + 1)) hn1 rfl (ev_bc (ev_fM hn1 rfl (by rw [wI_i, if_neg (by omega)]; exact t3)) (nI_1 _)) ⟨rfl, ?_⟩)
  refine w_sqN (w_pMe (nI (p + 1)) hn1 rfl (ev_bc (ev_fM hn1 rfl (by rw [wI_i, if_neg (by omega), wI_i, if_neg (by omega)]; exact t1)) (nI_1 _)) ⟨rfl, ?_⟩)
  have fr2 : Fr SMr h1 (wI (wI (wI h1 185 σ.length (nI (enc2 (O, 0)))) 166 26 (nI (σ.length + 1))) 166 21 (nI (p + 1))) := (((Fr.refl h1).w (by unfold SMr; omega)).w (by unfold SMr; omega)).w (by unfold SMr; omega)
  have ms : MS (wI (wI (wI h1 185 σ.length (nI (enc2 (O, 0)))) 166 26 (nI (σ.length + 1))) 166 21 (nI (p + 1))) (p + 1) o (σ ++ [(O, 0)]) (L ++ ops pend) := by
    refine ⟨by simp [wI_i], by simp [wI_i, t2], by simp [wI_i], by simp [wI_i, t4], t5.app (fun i hi => ?_) ?_, t6.c (fun i _ => by simp [wI_i]), t7.app (inr.one ⟨by simp only; omega, by simp⟩), t8⟩
    · rw [wI_i, if_neg (by omega), wI_i, if_neg (by omega), wI_i, if_neg (by omega)]
    · rw [wI_i, if_neg (by omega), wI_i, if_neg (by omega), wI_i, if_pos ⟨rfl, rfl⟩]
  have r1 := hk _ ⟨q1.c fr2, ms, fr.trans (f1.trans fr2), by omega, by simp at hst ⊢; omega, by rw [List.length_append, ops_l]; omega⟩
  generalize wI (wI (wI h1 185 σ.length (nI (enc2 (O, 0)))) 166 26 (nI (σ.length + 1))) 166 21 (nI (p + 1)) = h2 at *
  have hn2 : h2.1 = 212 := fr2.1.trans hn1
  obtain ⟨r, h3, e3, z⟩ := r1
  rcases z with ⟨rfl, z⟩ | ⟨rfl, z⟩
  · refine w_siC false h3 (by simp only [f_mkF, w_sI, w_sR, w_sL, w_sC, w_sk, w_sbr, w_sco, w_rV, w_rI, w_rR, w_rL, w_dI, w_sO, w_sq, w_si, w_pI, w_pZ, w_pR, w_pU, w_qI, w_qB, w_qZ, w_qU, w_qR, w_kV, q_icst, q_lcst, q_xR, q_ldI, q_ldR, q_ldL, q_bn, q_un, q_dv, q_fI, q_fR, q_aI, q_aR, q_aN, q_tn, q_cmp, q_cmz, q_cnt, q_ctt, q_cand, q_cor, q_vn, q_vI, q_vR, q_vL, q_kI, q_kR, q_kL, q_ckI, envN, argE, List.flatMap_cons, List.flatMap_nil, Value.category, junk, oadd, osub, omul, oand, oor, oxor, odiv, orem, oshl, oshr, oushr, omax, omin]; simp (disch := first | omega | simp) [rk_i, rk_b, rk_o, st1, kill, Value.category, rcv, nog, hn2, ly166, fq_of e3]) (fun z => by cases z) fun _ => ?_
    rw [w_sk]
    exact Or.inl ⟨rfl, ⟨_, rfl, rfl⟩, z⟩
  · refine w_siC true h3 (by simp only [f_mkF, w_sI, w_sR, w_sL, w_sC, w_sk, w_sbr, w_sco, w_rV, w_rI, w_rR, w_rL, w_dI, w_sO, w_sq, w_si, w_pI, w_pZ, w_pR, w_pU, w_qI, w_qB, w_qZ, w_qU, w_qR, w_kV, q_icst, q_lcst, q_xR, q_ldI, q_ldR, q_ldL, q_bn, q_un, q_dv, q_fI, q_fR, q_aI, q_aR, q_aN, q_tn, q_cmp, q_cmz, q_cnt, q_ctt, q_cand, q_cor, q_vn, q_vI, q_vR, q_vL, q_kI, q_kR, q_kL, q_ckI, envN, argE, List.flatMap_cons, List.flatMap_nil, Value.category, junk, oadd, osub, omul, oand, oor, oxor, odiv, orem, oshl, oshr, oushr, omax, omin]; simp (disch := first | omega | simp) [rk_i, rk_b, rk_o, st1, kill, Value.category, rcv, nog, hn2, ly166, fq_of e3]) (fun _ => ?_) fun z => by cases z
    rw [w_rI, q_icst]
    exact Or.inr ⟨rfl, z⟩
/-- what a sum's end does: three ways -/
theorem W_end {h : Hp} {p o : Nat} {β τ L : List Pr2} (g : GD s e h0 h p o (β ++ τ) L) (hop : opP (s p) = 0)
    (k1 : s p = 93 → τ.any (fun x => x.1 == 14) = true → ∃ σ pend, β ++ τ = σ ++ [(14, 0)] ++ pend ∧ (∀ x, x ∈ pend → cloM true x.1 = true) ∧ L.length + pend.length ≤ p ∧ 1 ≤ o ∧ ∀ h1, GD s e h0 h1 (p + 1) (o - 1) σ (L ++ ops pend) → Wr Q β.length h1)
    (k2 : ¬ s p = 93 → τ.any (fun x => x.1 == 14) = true → EF Q h0 (1000 + p))
    (k3 : τ.any (fun x => x.1 == 14) = false → (∀ x, x ∈ τ → cloM true x.1 = true) ∧ stopM (cloM true) β ∧ L.length + τ.length ≤ p ∧ ∀ h1, GD s e h0 h1 p o β (L ++ ops τ) → Q (.int 1) h1) : Wr Q β.length h := by
  obtain ⟨q, m, fr, hpe, hst, hL⟩ := g
  have hs := q.2.2.2.2.2.1
  have hz := q.2.2.2.2.2.2
  have h160 := q.2.2.2.1
  have hn := q.1
  have hm := q.2.1
  have e1 := m_here q m.1 hpe
  have e2 := m_sign (p := p) hs hz h
  have l1 : (β ++ τ).length < 180 := by omega
  have e4 := m_has hn hm m l1
  have n93 : hvM s e p = 93 ↔ s p = 93 := hvM_e (c := 93) hs hz (by omega)
  rw [if_pos hop] at e2
  refine W_unr fun v2 c2 => ?_
  unfold LBS
  refine w_sqI (E' := [.ref 166, .int (nI β.length), .int (-1)]) (-1) (by simp only [f_mkF, w_sI, w_sR, w_sL, w_sC, w_sk, w_sbr, w_sco, w_rV, w_rI, w_rR, w_rL, w_dI, w_sO, w_sq, w_si, w_pI, w_pZ, w_pR, w_pU, w_qI, w_qB, w_qZ, w_qU, w_qR, w_kV, q_icst, q_lcst, q_xR, q_ldI, q_ldR, q_ldL, q_bn, q_un, q_dv, q_fI, q_fR, q_aI, q_aR, q_aN, q_tn, q_cmp, q_cmz, q_cnt, q_ctt, q_cand, q_cor, q_vn, q_vI, q_vR, q_vL, q_kI, q_kR, q_kL, q_ckI, envN, argE, List.flatMap_cons, List.flatMap_nil, Value.category, junk, oadd, osub, omul, oand, oor, oxor, odiv, orem, oshl, oshr, oushr, omax, omin]; simp (disch := first | omega | simp) [rk_i, rk_b, rk_o, st1, kill, Value.category, rcv, nog, hn, ly166, fq_of e1, fq_of e2]) rfl ?_
  refine (w_siF (by simp only [f_mkF, w_sI, w_sR, w_sL, w_sC, w_sk, w_sbr, w_sco, w_rV, w_rI, w_rR, w_rL, w_dI, w_sO, w_sq, w_si, w_pI, w_pZ, w_pR, w_pU, w_qI, w_qB, w_qZ, w_qU, w_qR, w_kV, q_icst, q_lcst, q_xR, q_ldI, q_ldR, q_ldL, q_bn, q_un, q_dv, q_fI, q_fR, q_aI, q_aR, q_aN, q_tn, q_cmp, q_cmz, q_cnt, q_ctt, q_cand, q_cor, q_vn, q_vI, q_vR, q_vL, q_kI, q_kR, q_kL, q_ckI, envN, argE, List.flatMap_cons, List.flatMap_nil, Value.category, junk, oadd, osub, omul, oand, oor, oxor, odiv, orem, oshl, oshr, oushr, omax, omin]; simp (disch := first | omega | simp) [rk_i, rk_b, rk_o, st1, kill, Value.category, rcv, nog])).mpr ?_
  have o1 : b2 ((true : Bool) = true) = 1 := by decide
  have cn : ev (cand (cnt (cmp one (kI (rcv 11) F_X11_here (vR vn (ldR 0))) (icst 93))) (cnt (cmz zeq (kI (rcv 11) F_X11_hasOpenSum (vI (vR vn (ldR 0)) (ldI 1)))))) [.ref 166, .int (nI β.length), .int (-1)] h fun t h1 => t = ((!(one (hvM s e p) 93)) && (!(zeq (b2 (τ.any (fun x => x.1 == 14) = true))))) ∧ h1 = h := by
    refine ev_and _ _ (ev_not (ev_cmpc (ev_k0 hn rfl e1))) fun _ => ev_not (ev_cmzc ?_)
    simp only [f_mkF, w_sI, w_sR, w_sL, w_sC, w_sk, w_sbr, w_sco, w_rV, w_rI, w_rR, w_rL, w_dI, w_sO, w_sq, w_si, w_pI, w_pZ, w_pR, w_pU, w_qI, w_qB, w_qZ, w_qU, w_qR, w_kV, q_icst, q_lcst, q_xR, q_ldI, q_ldR, q_ldL, q_bn, q_un, q_dv, q_fI, q_fR, q_aI, q_aR, q_aN, q_tn, q_cmp, q_cmz, q_cnt, q_ctt, q_cand, q_cor, q_vn, q_vI, q_vR, q_vL, q_kI, q_kR, q_kL, q_ckI, envN, argE, List.flatMap_cons, List.flatMap_nil, Value.category, junk, oadd, osub, omul, oand, oor, oxor, odiv, orem, oshl, oshr, oushr, omax, omin]
    simp (disch := first | omega | simp) [rk_i, rk_b, rk_o, st1, kill, Value.category, rcv, nog, hn, ly166, fq_of e4]
  cases ha : τ.any (fun x => x.1 == 14) with
  | true =>
    rw [ha, b2_1.mpr rfl] at e4
    rw [ha, b2_1.mpr rfl] at cn
    by_cases c93 : s p = 93
    · have n93' := n93.mpr c93
      rw [n93'] at cn
      refine (w_siT (ev_eqt cn (by decide))).mpr ?_
      obtain ⟨σ, pend, x1, x2, x3, x4, x5⟩ := k1 c93 ha
      have hlt : p < e := lt_e hz (by omega)
      rw [x1] at m l1 hst
      have stp : stopM (cloM true) (σ ++ [(14, 0)]) := by
        intro l x z
        have := List.append_inj' z rfl
        have hx : (14, 0) = x := by simpa using this.2
        rw [← hx]; rfl
      have cl := m_closes hn hm m true l1 (by omega) x2 stp
      rw [o1] at cl
      refine w_sqS (fun E1 h1 => E1 = [.ref 166, .int (nI β.length), .int (-1)] ∧ Fr SMr h h1 ∧ MS h1 p o (σ ++ [(14, 0)]) (L ++ ops pend)) (w_kVe [.ref 166, .int 1] (by simp only [f_mkF, w_sI, w_sR, w_sL, w_sC, w_sk, w_sbr, w_sco, w_rV, w_rI, w_rR, w_rL, w_dI, w_sO, w_sq, w_si, w_pI, w_pZ, w_pR, w_pU, w_qI, w_qB, w_qZ, w_qU, w_qR, w_kV, q_icst, q_lcst, q_xR, q_ldI, q_ldR, q_ldL, q_bn, q_un, q_dv, q_fI, q_fR, q_aI, q_aR, q_aN, q_tn, q_cmp, q_cmz, q_cnt, q_ctt, q_cand, q_cor, q_vn, q_vI, q_vR, q_vL, q_kI, q_kR, q_kL, q_ckI, envN, argE, List.flatMap_cons, List.flatMap_nil, Value.category, junk, oadd, osub, omul, oand, oor, oxor, odiv, orem, oshl, oshr, oushr, omax, omin]; simp) (by simp [rcv, hn, ly166]) (fq_mono cl (by rintro r h1 ⟨rfl, z⟩; exact ⟨rfl, rfl, rfl, z⟩))) ?_
      rintro E1 h1 ⟨rfl, f1, m1⟩
      have q1 := q.c f1
      have hn1 := q1.1
      obtain ⟨o', rfl⟩ : ∃ o', o = o' + 1 := ⟨o - 1, by omega⟩
      have w3 : h1.2.1 166 26 = nI (σ.length + 1) := by rw [m1.2.2.1]; simp
      have lst : σ.length + 1 + pend.length ≤ p := by simp at hst; omega
      refine w_sqN (w_pMe (nI σ.length) hn1 rfl (ev_bc (ev_fM hn1 rfl w3) (nI_pred _)) ⟨rfl, ?_⟩)
      refine w_sqN (w_pMe (nI o') hn1 rfl (ev_bc (ev_fM hn1 rfl (by rw [wI_i, if_neg (by omega)]; exact m1.2.1)) (nI_pred _)) ⟨rfl, ?_⟩)
      refine w_pMe (nI (p + 1)) hn1 rfl (ev_bc (ev_fM hn1 rfl (by rw [wI_i, if_neg (by omega), wI_i, if_neg (by omega)]; exact m1.1)) (nI_1 _)) (Or.inl ⟨rfl, ⟨_, rfl, rfl⟩, x5 _ ?_⟩)
      have fr2 : Fr SMr h1 (wI (wI (wI h1 166 26 (nI σ.length)) 166 24 (nI o')) 166 21 (nI (p + 1))) := (((Fr.refl h1).w (by unfold SMr; omega)).w (by unfold SMr; omega)).w (by unfold SMr; omega)
      refine ⟨q1.c fr2, ?_, fr.trans (f1.trans fr2), by omega, by omega, by rw [List.length_append, ops_l]; omega⟩
      obtain ⟨t1, t2, t3, t4, t5, t6, t7, t8⟩ := m1
      exact ⟨by simp [wI_i], by simp [wI_i], by simp [wI_i], by simp [wI_i, t4], t5.pre (fun i _ => by simp [wI_i]), t6.c (fun i _ => by simp [wI_i]), t7.pre, t8⟩
    · have c0 : ((!(one (hvM s e p) 93)) && (!(zeq 1))) = false := by
        have : ¬ hvM s e p = 93 := fun z => c93 (n93.mp z)
        simp [one, this]
      refine (w_siF (ev_eqt cn c0)).mpr ?_
      have e5 : F_X11_wrong [.ref 166, .int 1, .int (nI p)] h = _ := m_wrong hn 1 p
      have mp := m.1
      refine w_sq.mpr ((w_siT (by simp only [f_mkF, w_sI, w_sR, w_sL, w_sC, w_sk, w_sbr, w_sco, w_rV, w_rI, w_rR, w_rL, w_dI, w_sO, w_sq, w_si, w_pI, w_pZ, w_pR, w_pU, w_qI, w_qB, w_qZ, w_qU, w_qR, w_kV, q_icst, q_lcst, q_xR, q_ldI, q_ldR, q_ldL, q_bn, q_un, q_dv, q_fI, q_fR, q_aI, q_aR, q_aN, q_tn, q_cmp, q_cmz, q_cnt, q_ctt, q_cand, q_cor, q_vn, q_vI, q_vR, q_vL, q_kI, q_kR, q_kL, q_ckI, envN, argE, List.flatMap_cons, List.flatMap_nil, Value.category, junk, oadd, osub, omul, oand, oor, oxor, odiv, orem, oshl, oshr, oushr, omax, omin]; simp (disch := first | omega | simp) [rk_i, rk_b, rk_o, st1, kill, Value.category, rcv, nog, hn, ly166, fq_of e4])).mpr ?_)
      simp only [f_mkF, w_sI, w_sR, w_sL, w_sC, w_sk, w_sbr, w_sco, w_rV, w_rI, w_rR, w_rL, w_dI, w_sO, w_sq, w_si, w_pI, w_pZ, w_pR, w_pU, w_qI, w_qB, w_qZ, w_qU, w_qR, w_kV, q_icst, q_lcst, q_xR, q_ldI, q_ldR, q_ldL, q_bn, q_un, q_dv, q_fI, q_fR, q_aI, q_aR, q_aN, q_tn, q_cmp, q_cmz, q_cnt, q_ctt, q_cand, q_cor, q_vn, q_vI, q_vR, q_vL, q_kI, q_kR, q_kL, q_ckI, envN, argE, List.flatMap_cons, List.flatMap_nil, Value.category, junk, oadd, osub, omul, oand, oor, oxor, odiv, orem, oshl, oshr, oushr, omax, omin]
      simp (disch := first | omega | simp) [rk_i, rk_b, rk_o, st1, kill, Value.category, rcv, nog, hn, ly166, mp, fq_of e5]
      exact k2 c93 ha _ (fr.w (by unfold SMr; omega)) (by rw [wI_i, if_pos ⟨rfl, rfl⟩])
  | false =>
    obtain ⟨x1, x2, x3, x4⟩ := k3 ha
    rw [ha, b2_0.mpr (by simp)] at e4
    rw [ha, b2_0.mpr (by simp)] at cn
    have c0 : ((!(one (hvM s e p) 93)) && (!(zeq 0))) = false := by simp [zeq]
    refine (w_siF (ev_eqt cn c0)).mpr ?_
    refine w_sq.mpr ((w_siF (by simp only [f_mkF, w_sI, w_sR, w_sL, w_sC, w_sk, w_sbr, w_sco, w_rV, w_rI, w_rR, w_rL, w_dI, w_sO, w_sq, w_si, w_pI, w_pZ, w_pR, w_pU, w_qI, w_qB, w_qZ, w_qU, w_qR, w_kV, q_icst, q_lcst, q_xR, q_ldI, q_ldR, q_ldL, q_bn, q_un, q_dv, q_fI, q_fR, q_aI, q_aR, q_aN, q_tn, q_cmp, q_cmz, q_cnt, q_ctt, q_cand, q_cor, q_vn, q_vI, q_vR, q_vL, q_kI, q_kR, q_kL, q_ckI, envN, argE, List.flatMap_cons, List.flatMap_nil, Value.category, junk, oadd, osub, omul, oand, oor, oxor, odiv, orem, oshl, oshr, oushr, omax, omin]; simp (disch := first | omega | simp) [rk_i, rk_b, rk_o, st1, kill, Value.category, rcv, nog, hn, ly166, fq_of e4])).mpr (w_sk2.mpr ?_))
    have cl := m_closes hn hm m true l1 (by omega) x1 x2
    rw [o1] at cl
    refine w_sqS (fun E1 h1 => E1 = [.ref 166, .int (nI β.length), .int (-1)] ∧ Fr SMr h h1 ∧ MS h1 p o β (L ++ ops τ)) (w_kVe [.ref 166, .int 1] (by simp only [f_mkF, w_sI, w_sR, w_sL, w_sC, w_sk, w_sbr, w_sco, w_rV, w_rI, w_rR, w_rL, w_dI, w_sO, w_sq, w_si, w_pI, w_pZ, w_pR, w_pU, w_qI, w_qB, w_qZ, w_qU, w_qR, w_kV, q_icst, q_lcst, q_xR, q_ldI, q_ldR, q_ldL, q_bn, q_un, q_dv, q_fI, q_fR, q_aI, q_aR, q_aN, q_tn, q_cmp, q_cmz, q_cnt, q_ctt, q_cand, q_cor, q_vn, q_vI, q_vR, q_vL, q_kI, q_kR, q_kL, q_ckI, envN, argE, List.flatMap_cons, List.flatMap_nil, Value.category, junk, oadd, osub, omul, oand, oor, oxor, odiv, orem, oshl, oshr, oushr, omax, omin]; simp) (by simp [rcv, hn, ly166]) (fq_mono cl (by rintro r h1 ⟨rfl, z⟩; exact ⟨rfl, rfl, rfl, z⟩))) ?_
    rintro E1 h1 ⟨rfl, f1, m1⟩
    rw [w_rI, q_icst]
    exact Or.inr ⟨rfl, x4 h1 ⟨q.c f1, m1, fr.trans f1, hpe, by simp at hst; omega, by rw [List.length_append, ops_l]; omega⟩⟩
end SUMS
