/-! the class's reader: factors and chains -/
theorem w_siC {c : DC} {a b : Sm} {E : En} {h : Hp} {Q : Nat → Value → En → Hp → Prop} (t : Bool) (h1 : Hp) (hc : ev c E h fun x h2 => x = t ∧ h2 = h1) (hT : t = true → wp a E h1 Q) (hF : t = false → wp b E h1 Q) : wp (si c a b) E h Q := by
  rw [w_si]
  refine ev_mono hc ?_
  rintro x h3 ⟨rfl, rfl⟩
  exact ⟨hT, hF⟩
theorem FL6 (d : Nat) : FL (d + 1) 6 = mkF 3 none (sq (si (cnt (cmz zeq (fI 4 3 (ldR 0)))) (rV) sk) (sq (sI 2 (kI rcx F_J0_indexOf_0f7a4 (vI (vR vn (xR 1003)) (kI (rcv 4) F_X4_sign (vR vn (ldR 0)))))) (sq (si (cnt (cmp one (kI (rcv 4) F_X4_sign (vR vn (ldR 0))) (icst 91))) (si (cnt (cmz zeq (kI (rcv 4) F_X4_opens (vI (vR vn (ldR 0)) (ldI 1))))) (sq (kV (rcv 4) (FL d 4) (vI (vR vn (ldR 0)) (bn oadd (ldI 1) (icst 1)))) (kV (rcv 4) F_X4_expect (vI (vR vn (ldR 0)) (icst 93)))) sk) (si (cnt (cmz zeq (kI nog F_X4_isDigit (vI (vn) (kI (rcv 4) F_X4_sign (vR vn (ldR 0))))))) (kV (rcv 4) F_X4_number (vR vn (ldR 0))) (si (cnt (cmz zlt (ldI 2))) (sq (pU 4 2 oadd (ldR 0) (icst 1)) (dI (kI (rcv 3) F_X3_add (vI (vI (vR vn (fR 4 4 (ldR 0))) (icst 1)) (ldI 2))))) (kV (rcv 4) F_X4_fail (vI (vR vn (ldR 0)) (icst 1)))))) (rV)))) := rfl
theorem FL5 (d : Nat) : FL (d + 1) 5 = mkF 4 none (sq (kV (rcv 4) (FL d 6) (vI (vR vn (ldR 0)) (ldI 1))) (sq (sI 2 (kI (rcv 4) F_X4_sign (vR vn (ldR 0)))) (sq (sq (sI 3 (icst 0)) (lp (cand (cand (cnt (cmp oge (ldI 3) (icst 160))) (cnt (cmz zne (fI 4 3 (ldR 0))))) (cnt (cmz zeq (kI nog F_X4_isOfProduct (vI (vn) (ldI 2)))))) (sq (pU 4 2 oadd (ldR 0) (icst 1)) (sq (kV (rcv 4) (FL d 6) (vI (vR vn (ldR 0)) (ldI 1))) (sq (dI (kI (rcv 3) F_X3_add (vI (vI (vR vn (fR 4 4 (ldR 0))) (ldI 2)) (icst 0)))) (sI 2 (kI (rcv 4) F_X4_sign (vR vn (ldR 0))))))) (sC 3 1))) (rV)))) := rfl
theorem FL4 (d : Nat) : FL (d + 1) 4 = mkF 4 none (sq (kV (rcv 4) (FL d 5) (vI (vR vn (ldR 0)) (ldI 1))) (sq (sI 2 (kI (rcv 4) F_X4_sign (vR vn (ldR 0)))) (sq (sq (sI 3 (icst 0)) (lp (cand (cand (cnt (cmp oge (ldI 3) (icst 160))) (cnt (cmz zne (fI 4 3 (ldR 0))))) (cor (cmp oeq (ldI 2) (icst 43)) (cnt (cmp one (ldI 2) (icst 45))))) (sq (pU 4 2 oadd (ldR 0) (icst 1)) (sq (kV (rcv 4) (FL d 5) (vI (vR vn (ldR 0)) (ldI 1))) (sq (dI (kI (rcv 3) F_X3_add (vI (vI (vR vn (fR 4 4 (ldR 0))) (ldI 2)) (icst 0)))) (sI 2 (kI (rcv 4) F_X4_sign (vR vn (ldR 0))))))) (sC 3 1))) (rV)))) := rfl
theorem FL3 (d : Nat) : FL (d + 1) 3 = mkF 3 none (sq (kV (rcv 4) (FL d 4) (vI (vR vn (ldR 0)) (ldI 1))) (sq (sI 2 (kI (rcv 4) F_X4_sign (vR vn (ldR 0)))) (sq (si (cand (cand (cnt (cmp oeq (ldI 2) (icst 60))) (cnt (cmp oeq (ldI 2) (icst 62)))) (cnt (cmp oeq (ldI 2) (icst 61)))) (kV (rcv 4) F_X4_fail (vI (vR vn (ldR 0)) (icst 1))) sk) (sq (si (cnt (cmz zne (fI 4 3 (ldR 0)))) (sq (pU 4 2 oadd (ldR 0) (icst 1)) (sq (kV (rcv 4) (FL d 4) (vI (vR vn (ldR 0)) (ldI 1))) (dI (kI (rcv 3) F_X3_add (vI (vI (vR vn (fR 4 4 (ldR 0))) (ldI 2)) (icst 0)))))) sk) (rV))))) := rfl
theorem FL2 (d : Nat) : FL (d + 1) 2 = mkF 2 none (sq (si (cnt (cmz zeq (fI 4 3 (ldR 0)))) (rV) sk) (sq (si (cnt (cmp one (kI (rcv 4) F_X4_sign (vR vn (ldR 0))) (icst 33))) (si (cnt (cmz zeq (kI (rcv 4) F_X4_opens (vI (vR vn (ldR 0)) (ldI 1))))) (sq (kV (rcv 4) (FL d 2) (vI (vR vn (ldR 0)) (bn oadd (ldI 1) (icst 1)))) (dI (kI (rcv 3) F_X3_add (vI (vI (vR vn (fR 4 4 (ldR 0))) (icst 2)) (icst 0))))) sk) (si (cnt (cmp one (kI (rcv 4) F_X4_sign (vR vn (ldR 0))) (icst 40))) (si (cnt (cmz zeq (kI (rcv 4) F_X4_opens (vI (vR vn (ldR 0)) (ldI 1))))) (sq (kV (rcv 4) (FL d 0) (vI (vR vn (ldR 0)) (bn oadd (ldI 1) (icst 1)))) (kV (rcv 4) F_X4_expect (vI (vR vn (ldR 0)) (icst 41)))) sk) (kV (rcv 4) (FL d 3) (vI (vR vn (ldR 0)) (ldI 1))))) (rV))) := rfl
def expP (s : Nat → Nat) (sg : Nat) (R : Rd) : Rd := match R with
  | .error f => .error f
  | .ok (p', C) => if s p' = sg then .ok (p' + 1, C) else .error (1000 + p')
/-- after a step, expect: if it fails, or has failed -/
theorem OC_exp {s : Nat → Nat} {e la c : Nat} {h h1 : Hp} {K : Nat} (q : RX s e la h) {R : Rd} (o : OC e la c h K R h1) {sg : Nat} (hsg : 0 < sg ∧ sg < 256) (hG : ∀ p' C, R = .ok (p', C) → p' ≤ e ∧ K + C.length ≤ 160) : fq F_X4_expect [.ref 146, .int (nI sg)] h1 fun r h2 => r = none ∧ OC e la c h K (expP s sg R) h2 := by
  unfold expP
  have hA := q.2.1.2.2
  have hy := law_y hA
  have he := q.2.2.2.1.2
  have hz := q.2.2.2.2.2.2
  have q1 := q.c o.1
  obtain ⟨o0, o1⟩ := o
  cases R with
  | error f =>
    obtain ⟨o2, o3, ⟨p', o4, o5⟩, K', k1, k2, k3⟩ := o1
    have e1 := x_expect q1 o5 o4 hsg.2
    rw [if_neg o3] at e1
    rw [fq_of e1]
    refine ⟨rfl, ?_⟩
    by_cases c1 : s p' = sg
    · rw [if_pos c1]
      have : p' < e := lt_e hz (by omega)
      refine ⟨o0.w (by unfold SCl; omega), ?_, ?_, ⟨p' + 1, by omega, ?_⟩, K', k1, k2, ?_⟩
      · rw [wI_i, if_neg (by omega)]; exact o2
      · rw [wI_i, if_neg (by omega)]; exact o3
      · rw [wI_i, if_pos ⟨rfl, rfl⟩]
      · rw [wI_i, if_neg (by omega)]; exact k3
    · rw [if_neg c1]
      exact ⟨o0, o2, o3, ⟨p', o4, o5⟩, K', k1, k2, k3⟩
  | ok x =>
    obtain ⟨p', C⟩ := x
    obtain ⟨o2, o3, o4, o5⟩ := o1
    obtain ⟨g1, g2⟩ := hG p' C rfl
    have e1 := x_expect q1 o2 g1 hsg.2
    rw [if_pos o3] at e1
    rw [fq_of e1]
    refine ⟨rfl, ?_⟩
    simp only
    by_cases c1 : s p' = sg
    · rw [if_pos c1, if_pos c1]
      have f1 : Fr (SCl la (K + C.length)) h1 (wI h1 146 2 (nI (p' + 1))) := (Fr.refl h1).w (by unfold SCl; omega)
      refine ⟨o0.w (by unfold SCl; omega), ?_, ?_, ?_, o5.c hA f1 (Nat.le_refl _)⟩
      · rw [wI_i, if_pos ⟨rfl, rfl⟩]
      · rw [wI_i, if_neg (by omega)]; exact o3
      · rw [wI_i, if_neg (by omega)]; exact o4
    · rw [if_neg c1, if_neg c1]
      exact OC_fail hA o0 o2 g1 he (w := 1) (by omega) (by omega) o4 (by omega) g2
theorem x_fct {s : Nat → Nat} {e la c d dp : Nat} (I : Nat → Rd) (hI : (dp = 6 ∧ I = fun p => .error (5000 + p)) ∨ (dp < 6 ∧ ∃ F : Nat → Rd, I = (fun p => F (p + 1)) ∧ GO e F ∧ SPd s e la c (FL d 4) (dp + 1) (fun p _ => F p))) : SPd s e la c (FL (d + 1) 6) dp (fun p _ => fctP s I p) := by
  intro h p k q hp hpe hf hK hk
  have hn := q.1
  have hA := q.2.1.2.2
  have r4 := q.2.1.2.1
  have hy := law_y hA
  have yl := hy.1
  have yl2 : la < 212 := by omega
  have he := q.2.2.2.1.2
  have hs := q.2.2.2.2.2.1
  have hz := q.2.2.2.2.2.2
  have e1 := x_sign q hp hpe
  have e2 := x_isD (hs p) h
  have e3 := x_idx (t := 1) (by omega) (hs p) h
  rw [FL6]
  refine f_mkE [.ref 146, .int (nI dp), junk] rfl (by simp [argE, Value.category]) ?_
  refine w_sq.mpr ((w_siF (by simp only [f_mkF, w_sI, w_sR, w_sL, w_sC, w_sk, w_sbr, w_sco, w_rV, w_rI, w_rR, w_rL, w_dI, w_sO, w_sq, w_si, w_pI, w_pZ, w_pR, w_pU, w_qI, w_qB, w_qZ, w_qU, w_qR, w_kV, q_icst, q_lcst, q_xR, q_ldI, q_ldR, q_ldL, q_bn, q_un, q_dv, q_fI, q_fR, q_aI, q_aR, q_aN, q_tn, q_cmp, q_cmz, q_cnt, q_ctt, q_cand, q_cor, q_vn, q_vI, q_vR, q_vL, q_kI, q_kR, q_kL, q_ckI, envN, argE, List.flatMap_cons, List.flatMap_nil, Value.category, junk, oadd, osub, omul, oand, oor, oxor, odiv, orem, oshl, oshr, oushr, omax, omin]; simp (disch := first | omega | simp) [rk_i, rk_b, rk_o, st1, kill, Value.category, rcv, nog, inI_b, nI_clamp, nI_ltI, nI_leI, nI_eq, nI_9, nI_6, nI_22, nI_12, nI_180, nI_add, nI_1, hn, ly146, hf])).mpr (w_sk2.mpr ?_))
  refine w_sqI (E' := [.ref 146, .int (nI dp), .int (ixT 1 (s p))]) (ixT 1 (s p)) (by simp only [f_mkF, w_sI, w_sR, w_sL, w_sC, w_sk, w_sbr, w_sco, w_rV, w_rI, w_rR, w_rL, w_dI, w_sO, w_sq, w_si, w_pI, w_pZ, w_pR, w_pU, w_qI, w_qB, w_qZ, w_qU, w_qR, w_kV, q_icst, q_lcst, q_xR, q_ldI, q_ldR, q_ldL, q_bn, q_un, q_dv, q_fI, q_fR, q_aI, q_aR, q_aN, q_tn, q_cmp, q_cmz, q_cnt, q_ctt, q_cand, q_cor, q_vn, q_vI, q_vR, q_vL, q_kI, q_kR, q_kL, q_ckI, envN, argE, List.flatMap_cons, List.flatMap_nil, Value.category, junk, oadd, osub, omul, oand, oor, oxor, odiv, orem, oshl, oshr, oushr, omax, omin]; simp (disch := first | omega | simp) [rk_i, rk_b, rk_o, st1, kill, Value.category, rcv, nog, hn, ly146, fq_of e1, rcx, fq_of e3]) rfl ?_
  refine w_sqS (fun _ h1 => OC e la c h (k + c) (fctP s I p) h1) ?_ (fun E1 h1 z => by rw [w_rV]; exact Or.inl ⟨rfl, rfl, rfl, z⟩)
  have n91 : nI (s p) = 91 ↔ s p = 91 := nI_eq (a := s p) (b := 91) (by have := hs p; omega) (by omega)
  unfold fctP
  by_cases c1 : s p = 91
  · rw [if_pos c1]
    have hlt : p < e := lt_e hz (by omega)
    have n91' := n91.mpr c1
    refine (w_siT (by simp only [f_mkF, w_sI, w_sR, w_sL, w_sC, w_sk, w_sbr, w_sco, w_rV, w_rI, w_rR, w_rL, w_dI, w_sO, w_sq, w_si, w_pI, w_pZ, w_pR, w_pU, w_qI, w_qB, w_qZ, w_qU, w_qR, w_kV, q_icst, q_lcst, q_xR, q_ldI, q_ldR, q_ldL, q_bn, q_un, q_dv, q_fI, q_fR, q_aI, q_aR, q_aN, q_tn, q_cmp, q_cmz, q_cnt, q_ctt, q_cand, q_cor, q_vn, q_vI, q_vR, q_vL, q_kI, q_kR, q_kL, q_ckI, envN, argE, List.flatMap_cons, List.flatMap_nil, Value.category, junk, oadd, osub, omul, oand, oor, oxor, odiv, orem, oshl, oshr, oushr, omax, omin]; simp (disch := first | omega | simp) [rk_i, rk_b, rk_o, st1, kill, Value.category, rcv, nog, hn, ly146, fq_of e1, n91'])).mpr ?_
    rcases hI with ⟨rfl, rfl⟩ | ⟨hd, F, rfl, hG, hS⟩
    · have e4 := x_opens q hp (d := 6) (by omega)
      rw [if_neg (by omega), if_pos hf] at e4
      refine w_siC false (wI h 146 3 (-1000 * nI 5 - nI p)) (by simp only [f_mkF, w_sI, w_sR, w_sL, w_sC, w_sk, w_sbr, w_sco, w_rV, w_rI, w_rR, w_rL, w_dI, w_sO, w_sq, w_si, w_pI, w_pZ, w_pR, w_pU, w_qI, w_qB, w_qZ, w_qU, w_qR, w_kV, q_icst, q_lcst, q_xR, q_ldI, q_ldR, q_ldL, q_bn, q_un, q_dv, q_fI, q_fR, q_aI, q_aR, q_aN, q_tn, q_cmp, q_cmz, q_cnt, q_ctt, q_cand, q_cor, q_vn, q_vI, q_vR, q_vL, q_kI, q_kR, q_kL, q_ckI, envN, argE, List.flatMap_cons, List.flatMap_nil, Value.category, junk, oadd, osub, omul, oand, oor, oxor, odiv, orem, oshl, oshr, oushr, omax, omin]; simp (disch := first | omega | simp) [rk_i, rk_b, rk_o, st1, kill, Value.category, rcv, nog, hn, ly146, fq_of e4]) (fun z => by cases z) (fun _ => ?_)
      rw [w_sk]
      exact ⟨rfl, OC_fail hA (Fr.refl h) hp hpe he (w := 5) (by omega) (by omega) hK (Nat.le_refl _) (by omega)⟩
    · have e4 := x_opens q hp (d := dp) (by omega)
      rw [if_pos hd] at e4
      refine w_siC true (wI h 146 2 (nI (p + 1))) (by simp only [f_mkF, w_sI, w_sR, w_sL, w_sC, w_sk, w_sbr, w_sco, w_rV, w_rI, w_rR, w_rL, w_dI, w_sO, w_sq, w_si, w_pI, w_pZ, w_pR, w_pU, w_qI, w_qB, w_qZ, w_qU, w_qR, w_kV, q_icst, q_lcst, q_xR, q_ldI, q_ldR, q_ldL, q_bn, q_un, q_dv, q_fI, q_fR, q_aI, q_aR, q_aN, q_tn, q_cmp, q_cmz, q_cnt, q_ctt, q_cand, q_cor, q_vn, q_vI, q_vR, q_vL, q_kI, q_kR, q_kL, q_ckI, envN, argE, List.flatMap_cons, List.flatMap_nil, Value.category, junk, oadd, osub, omul, oand, oor, oxor, odiv, orem, oshl, oshr, oushr, omax, omin]; simp (disch := first | omega | simp) [rk_i, rk_b, rk_o, st1, kill, Value.category, rcv, nog, hn, ly146, fq_of e4]) (fun _ => ?_) (fun z => by cases z)
      have f1 : Fr (SCl la (k + c)) h (wI h 146 2 (nI (p + 1))) := (Fr.refl h).w (by unfold SCl; omega)
      have q1 := q.c f1
      have s1 := hS (wI h 146 2 (nI (p + 1))) (p + 1) k q1 (by rw [wI_i, if_pos ⟨rfl, rfl⟩]) (by omega) (by rw [wI_i, if_neg (by omega)]; exact hf) (by rw [wI_i, if_neg (by omega)]; exact hK) (by omega)
      refine w_sqS (fun E1 h1 => E1 = [.ref 146, .int (nI dp), .int (ixT 1 (s p))] ∧ OC e la c h (k + c) (F (p + 1)) h1) ?_ ?_
      · refine w_kVe [.ref 146, .int (nI (dp + 1))] (by simp only [f_mkF, w_sI, w_sR, w_sL, w_sC, w_sk, w_sbr, w_sco, w_rV, w_rI, w_rR, w_rL, w_dI, w_sO, w_sq, w_si, w_pI, w_pZ, w_pR, w_pU, w_qI, w_qB, w_qZ, w_qU, w_qR, w_kV, q_icst, q_lcst, q_xR, q_ldI, q_ldR, q_ldL, q_bn, q_un, q_dv, q_fI, q_fR, q_aI, q_aR, q_aN, q_tn, q_cmp, q_cmz, q_cnt, q_ctt, q_cand, q_cor, q_vn, q_vI, q_vR, q_vL, q_kI, q_kR, q_kL, q_ckI, envN, argE, List.flatMap_cons, List.flatMap_nil, Value.category, junk, oadd, osub, omul, oand, oor, oxor, odiv, orem, oshl, oshr, oushr, omax, omin]; simp (disch := first | omega | simp) [nI_1]) (by simp [rcv, wI_1, hn, ly146]) (fq_mono s1 ?_)
        rintro r h2 ⟨rfl, z1, z2⟩
        exact ⟨rfl, rfl, rfl, f1.trans z1, z2⟩
      · rintro E1 h1 ⟨rfl, o⟩
        have hn1 : h1.1 = 212 := (q.c o.1).1
        have x1 := OC_exp q o (sg := 93) (by omega) fun p' C z => by have := hG _ _ _ z; omega
        refine w_kVe [.ref 146, .int (nI 93)] (by simp only [f_mkF, w_sI, w_sR, w_sL, w_sC, w_sk, w_sbr, w_sco, w_rV, w_rI, w_rR, w_rL, w_dI, w_sO, w_sq, w_si, w_pI, w_pZ, w_pR, w_pU, w_qI, w_qB, w_qZ, w_qU, w_qR, w_kV, q_icst, q_lcst, q_xR, q_ldI, q_ldR, q_ldL, q_bn, q_un, q_dv, q_fI, q_fR, q_aI, q_aR, q_aN, q_tn, q_cmp, q_cmz, q_cnt, q_ctt, q_cand, q_cor, q_vn, q_vI, q_vR, q_vL, q_kI, q_kR, q_kL, q_ckI, envN, argE, List.flatMap_cons, List.flatMap_nil, Value.category, junk, oadd, osub, omul, oand, oor, oxor, odiv, orem, oshl, oshr, oushr, omax, omin]; simp; rfl) (by simp [rcv, hn1, ly146]) (fq_mono x1 ?_)
        rintro r h2 ⟨rfl, z⟩
        exact ⟨rfl, rfl, z⟩
  · rw [if_neg c1]
    have n91' : ¬ nI (s p) = 91 := fun z => c1 (n91.mp z)
    refine (w_siF (by simp only [f_mkF, w_sI, w_sR, w_sL, w_sC, w_sk, w_sbr, w_sco, w_rV, w_rI, w_rR, w_rL, w_dI, w_sO, w_sq, w_si, w_pI, w_pZ, w_pR, w_pU, w_qI, w_qB, w_qZ, w_qU, w_qR, w_kV, q_icst, q_lcst, q_xR, q_ldI, q_ldR, q_ldL, q_bn, q_un, q_dv, q_fI, q_fR, q_aI, q_aR, q_aN, q_tn, q_cmp, q_cmz, q_cnt, q_ctt, q_cand, q_cor, q_vn, q_vI, q_vR, q_vL, q_kI, q_kR, q_kL, q_ckI, envN, argE, List.flatMap_cons, List.flatMap_nil, Value.category, junk, oadd, osub, omul, oand, oor, oxor, odiv, orem, oshl, oshr, oushr, omax, omin]; simp (disch := first | omega | simp) [rk_i, rk_b, rk_o, st1, kill, Value.category, rcv, nog, hn, ly146, fq_of e1, n91'])).mpr ?_
    by_cases c2 : isD (s p) = true
    · rw [if_pos c2]
      have hlt : p < e := lt_e hz fun z => by rw [z, isD_0] at c2; cases c2
      have b1 : b2 (isD (s p) = true) = 1 := b2_1.mpr c2
      rw [b1] at e2
      refine (w_siT (by simp only [f_mkF, w_sI, w_sR, w_sL, w_sC, w_sk, w_sbr, w_sco, w_rV, w_rI, w_rR, w_rL, w_dI, w_sO, w_sq, w_si, w_pI, w_pZ, w_pR, w_pU, w_qI, w_qB, w_qZ, w_qU, w_qR, w_kV, q_icst, q_lcst, q_xR, q_ldI, q_ldR, q_ldL, q_bn, q_un, q_dv, q_fI, q_fR, q_aI, q_aR, q_aN, q_tn, q_cmp, q_cmz, q_cnt, q_ctt, q_cand, q_cor, q_vn, q_vI, q_vR, q_vL, q_kI, q_kR, q_kL, q_ckI, envN, argE, List.flatMap_cons, List.flatMap_nil, Value.category, junk, oadd, osub, omul, oand, oor, oxor, odiv, orem, oshl, oshr, oushr, omax, omin]; simp (disch := first | omega | simp) [rk_i, rk_b, rk_o, st1, kill, Value.category, rcv, nog, hn, ly146, fq_of e1, fq_of e2])).mpr ?_
      refine w_kVe [.ref 146] (by simp only [f_mkF, w_sI, w_sR, w_sL, w_sC, w_sk, w_sbr, w_sco, w_rV, w_rI, w_rR, w_rL, w_dI, w_sO, w_sq, w_si, w_pI, w_pZ, w_pR, w_pU, w_qI, w_qB, w_qZ, w_qU, w_qR, w_kV, q_icst, q_lcst, q_xR, q_ldI, q_ldR, q_ldL, q_bn, q_un, q_dv, q_fI, q_fR, q_aI, q_aR, q_aN, q_tn, q_cmp, q_cmz, q_cnt, q_ctt, q_cand, q_cor, q_vn, q_vI, q_vR, q_vL, q_kI, q_kR, q_kL, q_ckI, envN, argE, List.flatMap_cons, List.flatMap_nil, Value.category, junk, oadd, osub, omul, oand, oor, oxor, odiv, orem, oshl, oshr, oushr, omax, omin]; simp) (by simp [rcv, hn, ly146]) (fq_mono (x_number (c := c) q hp hlt hf hK hk) ?_)
      rintro r h2 ⟨rfl, z⟩
      exact ⟨rfl, rfl, z⟩
    · rw [if_neg c2]
      have b1 : b2 (isD (s p) = true) = 0 := b2_0.mpr c2
      rw [b1] at e2
      refine (w_siF (by simp only [f_mkF, w_sI, w_sR, w_sL, w_sC, w_sk, w_sbr, w_sco, w_rV, w_rI, w_rR, w_rL, w_dI, w_sO, w_sq, w_si, w_pI, w_pZ, w_pR, w_pU, w_qI, w_qB, w_qZ, w_qU, w_qR, w_kV, q_icst, q_lcst, q_xR, q_ldI, q_ldR, q_ldL, q_bn, q_un, q_dv, q_fI, q_fR, q_aI, q_aR, q_aN, q_tn, q_cmp, q_cmz, q_cnt, q_ctt, q_cand, q_cor, q_vn, q_vI, q_vR, q_vL, q_kI, q_kR, q_kL, q_ckI, envN, argE, List.flatMap_cons, List.flatMap_nil, Value.category, junk, oadd, osub, omul, oand, oor, oxor, odiv, orem, oshl, oshr, oushr, omax, omin]; simp (disch := first | omega | simp) [rk_i, rk_b, rk_o, st1, kill, Value.category, rcv, nog, hn, ly146, fq_of e1, fq_of e2])).mpr ?_
      have lt_l : ltrP (s p) = (txT 1).idxOf (s p) := rfl
      have lt_n : (txT 1).length = 13 := rfl
      by_cases c3 : ltrP (s p) < 13
      · rw [if_pos c3]
        have hlt : p < e := lt_e (p := p) hz fun z => by rw [z] at c3; exact absurd c3 (by decide)
        have i1 : ixT 1 (s p) = nI (ltrP (s p)) := by unfold ixT; rw [← lt_l, lt_n, if_pos c3]
        have i2 : ¬ nI (ltrP (s p)) < 0 := Int32.not_lt.mpr (nI_0le (by omega))
        rw [i1]
        have i3 := nI_0le (a := ltrP (s p)) (by omega)
        refine (w_siT (by simp only [f_mkF, w_sI, w_sR, w_sL, w_sC, w_sk, w_sbr, w_sco, w_rV, w_rI, w_rR, w_rL, w_dI, w_sO, w_sq, w_si, w_pI, w_pZ, w_pR, w_pU, w_qI, w_qB, w_qZ, w_qU, w_qR, w_kV, q_icst, q_lcst, q_xR, q_ldI, q_ldR, q_ldL, q_bn, q_un, q_dv, q_fI, q_fR, q_aI, q_aR, q_aN, q_tn, q_cmp, q_cmz, q_cnt, q_ctt, q_cand, q_cor, q_vn, q_vI, q_vR, q_vL, q_kI, q_kR, q_kL, q_ckI, envN, argE, List.flatMap_cons, List.flatMap_nil, Value.category, junk, oadd, osub, omul, oand, oor, oxor, odiv, orem, oshl, oshr, oushr, omax, omin]; simp (disch := first | omega | simp) [rk_i, rk_b, rk_o, st1, kill, Value.category, rcv, nog, i2, i3])).mpr ?_
        have f1 : Fr (SCl la (k + c)) h (wI h 146 2 (nI (p + 1))) := (Fr.refl h).w (by unfold SCl; omega)
        have q1 := q.c f1
        have a1 := x_addL q1 (K := k + c) (by rw [wI_i, if_neg (by omega)]; exact hK) (by omega) 1 (nI (ltrP (s p)))
        refine w_sqS (fun E1 h1 => E1 = [.ref 146, .int (nI dp), .int (nI (ltrP (s p)))] ∧ h1 = wI h 146 2 (nI (p + 1))) ?_ ?_
        · simp only [f_mkF, w_sI, w_sR, w_sL, w_sC, w_sk, w_sbr, w_sco, w_rV, w_rI, w_rR, w_rL, w_dI, w_sO, w_sq, w_si, w_pI, w_pZ, w_pR, w_pU, w_qI, w_qB, w_qZ, w_qU, w_qR, w_kV, q_icst, q_lcst, q_xR, q_ldI, q_ldR, q_ldL, q_bn, q_un, q_dv, q_fI, q_fR, q_aI, q_aR, q_aN, q_tn, q_cmp, q_cmz, q_cnt, q_ctt, q_cand, q_cor, q_vn, q_vI, q_vR, q_vL, q_kI, q_kR, q_kL, q_ckI, envN, argE, List.flatMap_cons, List.flatMap_nil, Value.category, junk, oadd, osub, omul, oand, oor, oxor, odiv, orem, oshl, oshr, oushr, omax, omin]
          simp (disch := first | omega | simp) [rk_i, rk_b, rk_o, st1, kill, Value.category, rcv, nog, hn, ly146, hp, nI_1]
        · rintro E1 h1 ⟨rfl, rfl⟩
          have r5 : (wI h 146 2 (nI (p + 1))).2.2 146 4 = some la := r4
          simp only [f_mkF, w_sI, w_sR, w_sL, w_sC, w_sk, w_sbr, w_sco, w_rV, w_rI, w_rR, w_rL, w_dI, w_sO, w_sq, w_si, w_pI, w_pZ, w_pR, w_pU, w_qI, w_qB, w_qZ, w_qU, w_qR, w_kV, q_icst, q_lcst, q_xR, q_ldI, q_ldR, q_ldL, q_bn, q_un, q_dv, q_fI, q_fR, q_aI, q_aR, q_aN, q_tn, q_cmp, q_cmz, q_cnt, q_ctt, q_cand, q_cor, q_vn, q_vI, q_vR, q_vL, q_kI, q_kR, q_kL, q_ckI, envN, argE, List.flatMap_cons, List.flatMap_nil, Value.category, junk, oadd, osub, omul, oand, oor, oxor, odiv, orem, oshl, oshr, oushr, omax, omin]
          simp (disch := first | omega | simp) [rk_i, rk_b, rk_o, st1, kill, Value.category, rcv, nog, wI_1, wI_r, nI_1, hn, ly146, r4, yl, yl2, fq_of a1]
          refine ⟨((f1.w (by unfold SCl; omega)).w (by unfold SCl; omega)).w (by unfold SCl; omega), ?_, ?_, ?_, CC.one ?_ (fun _ => ?_) (fun z => by simp at z)⟩
          · rw [wI_i, if_neg (by omega), wI_i, if_neg (by omega), wI_i, if_neg (by omega), wI_i, if_pos ⟨rfl, rfl⟩]
          · rw [wI_i, if_neg (by omega), wI_i, if_neg (by omega), wI_i, if_neg (by omega), wI_i, if_neg (by omega)]; exact hf
          · rw [wI_i, if_pos ⟨rfl, rfl⟩]; rfl
          · rw [wI_i, if_neg (by omega), wI_i, if_neg (by omega), wI_i, if_pos ⟨rfl, rfl⟩]; rfl
          · rw [wI_i, if_neg (by omega), wI_i, if_pos ⟨rfl, rfl⟩]
      · rw [if_neg c3]
        have i1 : ixT 1 (s p) = -1 := by unfold ixT; rw [← lt_l, lt_n, if_neg c3]
        rw [i1]
        refine (w_siF (by simp only [f_mkF, w_sI, w_sR, w_sL, w_sC, w_sk, w_sbr, w_sco, w_rV, w_rI, w_rR, w_rL, w_dI, w_sO, w_sq, w_si, w_pI, w_pZ, w_pR, w_pU, w_qI, w_qB, w_qZ, w_qU, w_qR, w_kV, q_icst, q_lcst, q_xR, q_ldI, q_ldR, q_ldL, q_bn, q_un, q_dv, q_fI, q_fR, q_aI, q_aR, q_aN, q_tn, q_cmp, q_cmz, q_cnt, q_ctt, q_cand, q_cor, q_vn, q_vI, q_vR, q_vL, q_kI, q_kR, q_kL, q_ckI, envN, argE, List.flatMap_cons, List.flatMap_nil, Value.category, junk, oadd, osub, omul, oand, oor, oxor, odiv, orem, oshl, oshr, oushr, omax, omin]; simp (disch := first | omega | simp) [rk_i, rk_b, rk_o, st1, kill, Value.category, rcv, nog])).mpr ?_
        have e4 : F_X4_fail [.ref 146, .int 1] h = _ := x_fail q (w := 1) hp
        rw [if_pos hf] at e4
        simp only [f_mkF, w_sI, w_sR, w_sL, w_sC, w_sk, w_sbr, w_sco, w_rV, w_rI, w_rR, w_rL, w_dI, w_sO, w_sq, w_si, w_pI, w_pZ, w_pR, w_pU, w_qI, w_qB, w_qZ, w_qU, w_qR, w_kV, q_icst, q_lcst, q_xR, q_ldI, q_ldR, q_ldL, q_bn, q_un, q_dv, q_fI, q_fR, q_aI, q_aR, q_aN, q_tn, q_cmp, q_cmz, q_cnt, q_ctt, q_cand, q_cor, q_vn, q_vI, q_vR, q_vL, q_kI, q_kR, q_kL, q_ckI, envN, argE, List.flatMap_cons, List.flatMap_nil, Value.category, junk, oadd, osub, omul, oand, oor, oxor, odiv, orem, oshl, oshr, oushr, omax, omin]
        simp (disch := first | omega | simp) [rk_i, rk_b, rk_o, st1, kill, Value.category, rcv, nog, hn, ly146, fq_of e4]
        exact OC_fail hA (Fr.refl h) hp hpe he (w := 1) (by omega) (by omega) hK (Nat.le_refl _) (by omega)
/-- a chain -/
noncomputable def CBl (G : FN) (cd : DC) : FN := mkF 4 none (sq (kV (rcv 4) G (vI (vR vn (ldR 0)) (ldI 1))) (sq (sI 2 (kI (rcv 4) F_X4_sign (vR vn (ldR 0)))) (sq (sq (sI 3 (icst 0)) (lp (cand (cand (cnt (cmp oge (ldI 3) (icst 160))) (cnt (cmz zne (fI 4 3 (ldR 0))))) cd) (sq (pU 4 2 oadd (ldR 0) (icst 1)) (sq (kV (rcv 4) G (vI (vR vn (ldR 0)) (ldI 1))) (sq (dI (kI (rcv 3) F_X3_add (vI (vI (vR vn (fR 4 4 (ldR 0))) (ldI 2)) (icst 0)))) (sI 2 (kI (rcv 4) F_X4_sign (vR vn (ldR 0))))))) (sC 3 1))) (rV))))
theorem CB5 (d : Nat) : FL (d + 1) 5 = CBl (FL d 6) (cnt (cmz zeq (kI nog F_X4_isOfProduct (vI (vn) (ldI 2))))) := rfl
theorem CB4 (d : Nat) : FL (d + 1) 4 = CBl (FL d 5) (cor (cmp oeq (ldI 2) (icst 43)) (cnt (cmp one (ldI 2) (icst 45)))) := rfl
