/-! the reference reads: numbers, factors -/
theorem numP_v {s : Nat → Nat} : ∀ n p v, (numP s n p v).2 < 10 ^ n * (v + 1) := by
  intro n
  induction n with
  | zero => intro p v; unfold numP; simp
  | succ n ih =>
    intro p v
    unfold numP
    by_cases c : isD (s p) = true
    · rw [if_pos c]
      have h1 := ih (p + 1) (10 * v + (s p - 48))
      have h2 : s p ≤ 57 := by simp [isD] at c; omega
      have h3 : 10 * v + (s p - 48) + 1 ≤ 10 * (v + 1) := by omega
      have h4 : 10 ^ n * (10 * v + (s p - 48) + 1) ≤ 10 ^ n * (10 * (v + 1)) := Nat.mul_le_mul_left _ h3
      have h5 : 10 ^ n * (10 * (v + 1)) = 10 ^ (n + 1) * (v + 1) := by rw [Nat.pow_succ, Nat.mul_assoc]
      omega
    · rw [if_neg c]
      have h1 : 1 ≤ 10 ^ (n + 1) := Nat.one_le_pow _ _ (by omega)
      have h2 : 1 * (v + 1) ≤ 10 ^ (n + 1) * (v + 1) := Nat.mul_le_mul_right _ h1
      simp only
      omega
theorem numP_6 {s : Nat → Nat} (p : Nat) : (numP s 6 p 0).2 < 1000000 := by
  have := numP_v (s := s) 6 p 0
  omega
theorem MS.at {h h' : Hp} {p p' o : Nat} {st L : List Pr2} (m : MS h p o st L) (h1 : h'.2.1 166 21 = nI p') (h2 : h'.2.1 166 24 = h.2.1 166 24) (h3 : h'.2.1 166 26 = h.2.1 166 26) (h4 : h'.2.1 166 25 = h.2.1 166 25) (h5 : ∀ i, h'.2.1 185 i = h.2.1 185 i) (h6 : ∀ i, h'.2.1 184 i = h.2.1 184 i) : MS h' p' o st L := by
  obtain ⟨m1, m2, m3, m4, m5, m6, m7, m8⟩ := m
  exact ⟨h1, h2.trans m2, h3.trans m3, h4.trans m4, m5.c fun i _ => h5 i, m6.c fun i _ => h6 i, m7, m8⟩
theorem m_number {s : Nat → Nat} {e : Nat} {h : Hp} (q : MR s e h) {p o : Nat} {st L : List Pr2} (m : MS h p o st L) (hpe : p ≤ e) : fq F_X11_readsNumber [.ref 166] h fun r h' => Fr SMr h h' ∧ ((isD (s (numP s 6 p 0).1) = true ∧ r = some (.int 0) ∧ h'.2.1 166 23 = -(nI (2000 + (numP s 6 p 0).1))) ∨ (¬ isD (s (numP s 6 p 0).1) = true ∧ r = some (.int 1) ∧ MS h' (numP s 6 p 0).1 o st L ∧ h'.2.1 166 28 = nI (numP s 6 p 0).2)) := by
  have hs := q.2.2.2.2.2.1
  have hz := q.2.2.2.2.2.2
  have he := q.2.2.2.1
  have hn := q.1
  unfold F_X11_readsNumber
  refine f_mkE [.ref 166, junk] rfl (by simp [argE, Value.category]) ?_
  refine w_sqI (E' := [.ref 166, .int (nI p)]) (nI p) (ev_fM hn rfl m.1) rfl ?_
  refine w_sqN (w_pMe 0 hn rfl (by rw [q_icst]; exact ⟨rfl, rfl⟩) ⟨rfl, ?_⟩)
  refine w_sq.mpr ?_
  refine w_lp (fun k E h' => E = [.ref 166, .int (nI p)] ∧ Fr SMr h h' ∧ ∃ n v, k = 7 - n ∧ n ≤ 6 ∧ p + n ≤ e ∧ numP s (6 - n) (p + n) v = numP s 6 p 0 ∧ MS h' (p + n) o st L ∧ h'.2.1 166 28 = nI v) ?_ 7 _ _ ⟨rfl, (Fr.refl h).w (by unfold SMr; omega), 0, 0, rfl, by omega, hpe, rfl, m.at (by simp [wI_i, m.1]) (by simp [wI_i]) (by simp [wI_i]) (by simp [wI_i]) (fun i => by simp [wI_i]) (fun i => by simp [wI_i]), by simp [wI_i]; rfl⟩
  rintro k E h' ⟨rfl, f, n, v, rfl, n6, pe, i1, m1, i2⟩
  have q1 := q.c f
  have hn1 := q1.1
  have e1 := m_isD q1 m1.1 pe
  by_cases cd : isD (s (p + n)) = true
  · rw [b2_1.mpr cd] at e1
    refine ev_T (by simp only [f_mkF, w_sI, w_sR, w_sL, w_sC, w_sk, w_sbr, w_sco, w_rV, w_rI, w_rR, w_rL, w_dI, w_sO, w_sq, w_si, w_pI, w_pZ, w_pR, w_pU, w_qI, w_qB, w_qZ, w_qU, w_qR, w_kV, q_icst, q_lcst, q_xR, q_ldI, q_ldR, q_ldL, q_bn, q_un, q_dv, q_fI, q_fR, q_aI, q_aR, q_aN, q_tn, q_cmp, q_cmz, q_cnt, q_ctt, q_cand, q_cor, q_vn, q_vI, q_vR, q_vL, q_kI, q_kR, q_kL, q_ckI, envN, argE, List.flatMap_cons, List.flatMap_nil, Value.category, junk, oadd, osub, omul, oand, oor, oxor, odiv, orem, oshl, oshr, oushr, omax, omin]; simp (disch := first | omega | simp) [rk_i, rk_b, rk_o, st1, kill, Value.category, rcv, nog, hn1, ly166, fq_of e1]) ⟨(fun z => by cases z), fun _ => ?_⟩
    have d48 : 48 ≤ s (p + n) := by simp [isD] at cd; omega
    have hlt : p + n < e := lt_e hz (by omega)
    by_cases c6 : n = 6
    · subst c6
      have i1' : numP s 6 p 0 = (p + 6, v) := i1.symm
      have e2 : F_X11_wrong [.ref 166, .int 2, .int (nI (p + 6))] h' = _ := m_wrong hn1 2 (p + 6)
      have mp6 := m1.1
      have a6 : nI p + 6 = nI (p + 6) := nI_add p 6
      refine w_sq.mpr ((w_siT (by simp only [f_mkF, w_sI, w_sR, w_sL, w_sC, w_sk, w_sbr, w_sco, w_rV, w_rI, w_rR, w_rL, w_dI, w_sO, w_sq, w_si, w_pI, w_pZ, w_pR, w_pU, w_qI, w_qB, w_qZ, w_qU, w_qR, w_kV, q_icst, q_lcst, q_xR, q_ldI, q_ldR, q_ldL, q_bn, q_un, q_dv, q_fI, q_fR, q_aI, q_aR, q_aN, q_tn, q_cmp, q_cmz, q_cnt, q_ctt, q_cand, q_cor, q_vn, q_vI, q_vR, q_vL, q_kI, q_kR, q_kL, q_ckI, envN, argE, List.flatMap_cons, List.flatMap_nil, Value.category, junk, oadd, osub, omul, oand, oor, oxor, odiv, orem, oshl, oshr, oushr, omax, omin]; simp (disch := first | omega | simp) [rk_i, rk_b, rk_o, st1, kill, Value.category, rcv, nog, hn1, ly166, mp6, a6])).mpr ?_)
      simp only [f_mkF, w_sI, w_sR, w_sL, w_sC, w_sk, w_sbr, w_sco, w_rV, w_rI, w_rR, w_rL, w_dI, w_sO, w_sq, w_si, w_pI, w_pZ, w_pR, w_pU, w_qI, w_qB, w_qZ, w_qU, w_qR, w_kV, q_icst, q_lcst, q_xR, q_ldI, q_ldR, q_ldL, q_bn, q_un, q_dv, q_fI, q_fR, q_aI, q_aR, q_aN, q_tn, q_cmp, q_cmz, q_cnt, q_ctt, q_cand, q_cor, q_vn, q_vI, q_vR, q_vL, q_kI, q_kR, q_kL, q_ckI, envN, argE, List.flatMap_cons, List.flatMap_nil, Value.category, junk, oadd, osub, omul, oand, oor, oxor, odiv, orem, oshl, oshr, oushr, omax, omin]
      simp (disch := first | omega | simp) [rk_i, rk_b, rk_o, st1, kill, Value.category, rcv, nog, hn1, ly166, mp6, fq_of e2]
      refine ⟨f.w (by unfold SMr; omega), by rw [i1']; exact cd, ?_⟩
      rw [wI_i, if_pos ⟨rfl, rfl⟩, i1']
    · have npe : ¬ nI (p + n) = nI p + 6 := fun z => by
        rw [show nI p + 6 = nI (p + 6) from nI_add p 6] at z
        have := (nI_eq (by omega) (by omega)).mp z
        omega
      have mp6 := m1.1
      refine w_sq.mpr ((w_siF (by simp only [f_mkF, w_sI, w_sR, w_sL, w_sC, w_sk, w_sbr, w_sco, w_rV, w_rI, w_rR, w_rL, w_dI, w_sO, w_sq, w_si, w_pI, w_pZ, w_pR, w_pU, w_qI, w_qB, w_qZ, w_qU, w_qR, w_kV, q_icst, q_lcst, q_xR, q_ldI, q_ldR, q_ldL, q_bn, q_un, q_dv, q_fI, q_fR, q_aI, q_aR, q_aN, q_tn, q_cmp, q_cmz, q_cnt, q_ctt, q_cand, q_cor, q_vn, q_vI, q_vR, q_vL, q_kI, q_kR, q_kL, q_ckI, envN, argE, List.flatMap_cons, List.flatMap_nil, Value.category, junk, oadd, osub, omul, oand, oor, oxor, odiv, orem, oshl, oshr, oushr, omax, omin]; simp (disch := first | omega | simp) [rk_i, rk_b, rk_o, st1, kill, Value.category, rcv, nog, hn1, ly166, mp6, npe])).mpr (w_sk2.mpr ?_))
      have hh : F_X11_here [.ref 166] h' = some (some (.int (nI (s (p + n)))), h') := by
        rw [m_here q1 m1.1 pe]; unfold hvM; rw [if_pos hlt]
      refine w_sqN (w_pMe (nI (10 * v + (s (p + n) - 48))) hn1 rfl (by simp only [f_mkF, w_sI, w_sR, w_sL, w_sC, w_sk, w_sbr, w_sco, w_rV, w_rI, w_rR, w_rL, w_dI, w_sO, w_sq, w_si, w_pI, w_pZ, w_pR, w_pU, w_qI, w_qB, w_qZ, w_qU, w_qR, w_kV, q_icst, q_lcst, q_xR, q_ldI, q_ldR, q_ldL, q_bn, q_un, q_dv, q_fI, q_fR, q_aI, q_aR, q_aN, q_tn, q_cmp, q_cmz, q_cnt, q_ctt, q_cand, q_cor, q_vn, q_vI, q_vR, q_vL, q_kI, q_kR, q_kL, q_ckI, envN, argE, List.flatMap_cons, List.flatMap_nil, Value.category, junk, oadd, osub, omul, oand, oor, oxor, odiv, orem, oshl, oshr, oushr, omax, omin]; simp (disch := first | omega | simp) [rk_i, rk_b, rk_o, st1, kill, Value.category, rcv, nog, hn1, ly166, i2, fq_of hh, nI_dig d48]) ⟨rfl, ?_⟩)
      refine w_pMe (nI (p + (n + 1))) hn1 rfl (ev_bc (ev_fM hn1 rfl (by rw [wI_i, if_neg (by omega)]; exact m1.1)) (nI_1 _)) ⟨fun _ => w_sk.mpr ⟨rfl, 7 - (n + 1), by omega, rfl, (f.w (by unfold SMr; omega)).w (by unfold SMr; omega), n + 1, 10 * v + (s (p + n) - 48), rfl, by omega, by omega, ?_, ?_, ?_⟩, (fun z => by cases z), fun z => absurd rfl z⟩
      · rw [← i1, show 6 - n = 6 - (n + 1) + 1 from by omega]
        rw [numP, if_pos cd]
        rfl
      · exact m1.at (by simp [wI_i]) (by simp [wI_i]) (by simp [wI_i]) (by simp [wI_i]) (fun i => by simp [wI_i]) (fun i => by simp [wI_i])
      · simp [wI_i]
  · rw [b2_0.mpr cd] at e1
    refine ev_F (by simp only [f_mkF, w_sI, w_sR, w_sL, w_sC, w_sk, w_sbr, w_sco, w_rV, w_rI, w_rR, w_rL, w_dI, w_sO, w_sq, w_si, w_pI, w_pZ, w_pR, w_pU, w_qI, w_qB, w_qZ, w_qU, w_qR, w_kV, q_icst, q_lcst, q_xR, q_ldI, q_ldR, q_ldL, q_bn, q_un, q_dv, q_fI, q_fR, q_aI, q_aR, q_aN, q_tn, q_cmp, q_cmz, q_cnt, q_ctt, q_cand, q_cor, q_vn, q_vI, q_vR, q_vL, q_kI, q_kR, q_kL, q_ckI, envN, argE, List.flatMap_cons, List.flatMap_nil, Value.category, junk, oadd, osub, omul, oand, oor, oxor, odiv, orem, oshl, oshr, oushr, omax, omin]; simp (disch := first | omega | simp) [rk_i, rk_b, rk_o, st1, kill, Value.category, rcv, nog, hn1, ly166, fq_of e1]) ⟨fun _ => ?_, fun z => by cases z⟩
    have i1' : numP s 6 p 0 = (p + n, v) := by
      rw [← i1]
      cases 6 - n with
      | zero => rfl
      | succ k => rw [numP, if_neg cd]
    rw [i1']
    simp only [f_mkF, w_sI, w_sR, w_sL, w_sC, w_sk, w_sbr, w_sco, w_rV, w_rI, w_rR, w_rL, w_dI, w_sO, w_sq, w_si, w_pI, w_pZ, w_pR, w_pU, w_qI, w_qB, w_qZ, w_qU, w_qR, w_kV, q_icst, q_lcst, q_xR, q_ldI, q_ldR, q_ldL, q_bn, q_un, q_dv, q_fI, q_fR, q_aI, q_aR, q_aN, q_tn, q_cmp, q_cmz, q_cnt, q_ctt, q_cand, q_cor, q_vn, q_vI, q_vR, q_vL, q_kI, q_kR, q_kL, q_ckI, envN, argE, List.flatMap_cons, List.flatMap_nil, Value.category, junk, oadd, osub, omul, oand, oor, oxor, odiv, orem, oshl, oshr, oushr, omax, omin]
    simp (disch := first | omega | simp) [rk_i, rk_b, rk_o, st1, kill, Value.category, rcv, nog, cd]
    exact ⟨f, m1, i2⟩
def bfP (s : Nat → Nat) (p : Nat) : Except Nat (Nat × Nat × Nat) :=
  if isD (s p) = true then (if isD (s (numP s 6 p 0).1) = true then .error (2000 + (numP s 6 p 0).1) else .ok ((numP s 6 p 0).1, 0, (numP s 6 p 0).2))
  else if ltrP (s p) < 13 then .ok (p + 1, 1, ltrP (s p)) else .error (1000 + p)
def RBF (h : Hp) (o : Nat) (st L : List Pr2) (R : Except Nat (Nat × Nat × Nat)) (r : Option Value) (h' : Hp) : Prop := Fr SMr h h' ∧ match R with
  | .error f => r = some (.int 0) ∧ h'.2.1 166 23 = -(nI f)
  | .ok (p', op, v) => r = some (.int 1) ∧ MS h' p' o st (L ++ [(op, v)])
theorem m_rf_base {s : Nat → Nat} {e : Nat} {h : Hp} (q : MR s e h) {p o : Nat} {st L : List Pr2} (m : MS h p o st L) (hpe : p ≤ e) (h91 : ¬ s p = 91) (hL : L.length < 180) : fq F_X11_readsFactor [.ref 166] h fun r h' => RBF h o st L (bfP s p) r h' := by
  have hs := q.2.2.2.2.2.1
  have hz := q.2.2.2.2.2.2
  have he := q.2.2.2.1
  have hn := q.1
  have hm := q.2.1
  have e1 := m_here q m.1 hpe
  have n91 : ¬ hvM s e p = 91 := fun z => h91 ((hvM_e (c := 91) hs hz (by omega)).mp z)
  generalize hV : bfP s p = V
  unfold bfP at hV
  unfold F_X11_readsFactor
  refine f_mkE [.ref 166, junk] rfl (by simp [argE, Value.category]) ?_
  refine w_sqS (fun E1 h1 => E1 = [.ref 166, junk] ∧ h1 = h) ?_ ?_
  · refine w_lp (fun k E h' => E = [.ref 166, junk] ∧ h' = h) ?_ 0 _ _ ⟨rfl, rfl⟩
    rintro k E h' ⟨rfl, rfl⟩
    exact ev_F (by simp only [f_mkF, w_sI, w_sR, w_sL, w_sC, w_sk, w_sbr, w_sco, w_rV, w_rI, w_rR, w_rL, w_dI, w_sO, w_sq, w_si, w_pI, w_pZ, w_pR, w_pU, w_qI, w_qB, w_qZ, w_qU, w_qR, w_kV, q_icst, q_lcst, q_xR, q_ldI, q_ldR, q_ldL, q_bn, q_un, q_dv, q_fI, q_fR, q_aI, q_aR, q_aN, q_tn, q_cmp, q_cmz, q_cnt, q_ctt, q_cand, q_cor, q_vn, q_vI, q_vR, q_vL, q_kI, q_kR, q_kL, q_ckI, envN, argE, List.flatMap_cons, List.flatMap_nil, Value.category, junk, oadd, osub, omul, oand, oor, oxor, odiv, orem, oshl, oshr, oushr, omax, omin]; simp (disch := first | omega | simp) [rk_i, rk_b, rk_o, st1, kill, Value.category, rcv, nog, hn, ly166, fq_of e1, n91]) ⟨fun _ => ⟨rfl, rfl, rfl⟩, fun z => by cases z⟩
  rintro E1 h1 ⟨rfl, rfl⟩
  have e2 := m_isD q m.1 hpe
  by_cases cd : isD (s p) = true
  · rw [if_pos cd] at hV
    rw [b2_1.mpr cd] at e2
    refine w_sq.mpr ((w_siT (by simp only [f_mkF, w_sI, w_sR, w_sL, w_sC, w_sk, w_sbr, w_sco, w_rV, w_rI, w_rR, w_rL, w_dI, w_sO, w_sq, w_si, w_pI, w_pZ, w_pR, w_pU, w_qI, w_qB, w_qZ, w_qU, w_qR, w_kV, q_icst, q_lcst, q_xR, q_ldI, q_ldR, q_ldL, q_bn, q_un, q_dv, q_fI, q_fR, q_aI, q_aR, q_aN, q_tn, q_cmp, q_cmz, q_cnt, q_ctt, q_cand, q_cor, q_vn, q_vI, q_vR, q_vL, q_kI, q_kR, q_kL, q_ckI, envN, argE, List.flatMap_cons, List.flatMap_nil, Value.category, junk, oadd, osub, omul, oand, oor, oxor, odiv, orem, oshl, oshr, oushr, omax, omin]; simp (disch := first | omega | simp) [rk_i, rk_b, rk_o, st1, kill, Value.category, rcv, nog, hn, ly166, fq_of e2])).mpr ?_)
    obtain ⟨r, h2, e3, f2, z⟩ := m_number q m hpe
    have hn2 : h2.1 = 212 := f2.1.trans hn
    have hm2 : PM h2.2.2 := by rw [f2.2.1]; exact hm
    rcases z with ⟨z1, rfl, z3⟩ | ⟨z1, rfl, z3, z4⟩
    · rw [if_pos z1] at hV
      subst hV
      refine w_sq.mpr (w_siC true h2 (by simp only [f_mkF, w_sI, w_sR, w_sL, w_sC, w_sk, w_sbr, w_sco, w_rV, w_rI, w_rR, w_rL, w_dI, w_sO, w_sq, w_si, w_pI, w_pZ, w_pR, w_pU, w_qI, w_qB, w_qZ, w_qU, w_qR, w_kV, q_icst, q_lcst, q_xR, q_ldI, q_ldR, q_ldL, q_bn, q_un, q_dv, q_fI, q_fR, q_aI, q_aR, q_aN, q_tn, q_cmp, q_cmz, q_cnt, q_ctt, q_cand, q_cor, q_vn, q_vI, q_vR, q_vL, q_kI, q_kR, q_kL, q_ckI, envN, argE, List.flatMap_cons, List.flatMap_nil, Value.category, junk, oadd, osub, omul, oand, oor, oxor, odiv, orem, oshl, oshr, oushr, omax, omin]; simp (disch := first | omega | simp) [rk_i, rk_b, rk_o, st1, kill, Value.category, rcv, nog, hn, ly166, fq_of e3]) (fun _ => ?_) fun z => by cases z)
      simp only [f_mkF, w_sI, w_sR, w_sL, w_sC, w_sk, w_sbr, w_sco, w_rV, w_rI, w_rR, w_rL, w_dI, w_sO, w_sq, w_si, w_pI, w_pZ, w_pR, w_pU, w_qI, w_qB, w_qZ, w_qU, w_qR, w_kV, q_icst, q_lcst, q_xR, q_ldI, q_ldR, q_ldL, q_bn, q_un, q_dv, q_fI, q_fR, q_aI, q_aR, q_aN, q_tn, q_cmp, q_cmz, q_cnt, q_ctt, q_cand, q_cor, q_vn, q_vI, q_vR, q_vL, q_kI, q_kR, q_kL, q_ckI, envN, argE, List.flatMap_cons, List.flatMap_nil, Value.category, junk, oadd, osub, omul, oand, oor, oxor, odiv, orem, oshl, oshr, oushr, omax, omin]
      simp [rk_i, rk_b, rk_o, st1, kill, Value.category, rcv, nog]
      exact ⟨f2, rfl, z3⟩
    · rw [if_neg z1] at hV
      subst hV
      refine w_sq.mpr (w_siC false h2 (by simp only [f_mkF, w_sI, w_sR, w_sL, w_sC, w_sk, w_sbr, w_sco, w_rV, w_rI, w_rR, w_rL, w_dI, w_sO, w_sq, w_si, w_pI, w_pZ, w_pR, w_pU, w_qI, w_qB, w_qZ, w_qU, w_qR, w_kV, q_icst, q_lcst, q_xR, q_ldI, q_ldR, q_ldL, q_bn, q_un, q_dv, q_fI, q_fR, q_aI, q_aR, q_aN, q_tn, q_cmp, q_cmz, q_cnt, q_ctt, q_cand, q_cor, q_vn, q_vI, q_vR, q_vL, q_kI, q_kR, q_kL, q_ckI, envN, argE, List.flatMap_cons, List.flatMap_nil, Value.category, junk, oadd, osub, omul, oand, oor, oxor, odiv, orem, oshl, oshr, oushr, omax, omin]; simp (disch := first | omega | simp) [rk_i, rk_b, rk_o, st1, kill, Value.category, rcv, nog, hn, ly166, fq_of e3]) (fun z => by cases z) fun _ => w_sk2.mpr ?_)
      have n6 := numP_6 (s := s) p
      generalize (numP s 6 p 0) = N at *
      refine w_sqS (fun E1 h3 => E1 = [.ref 166, junk] ∧ Fr SMr h2 h3 ∧ MS h3 N.1 o st (L ++ [(0, N.2)])) (w_kVe [.ref 166, .int (nI 0), .int (nI N.2)] (by simp only [f_mkF, w_sI, w_sR, w_sL, w_sC, w_sk, w_sbr, w_sco, w_rV, w_rI, w_rR, w_rL, w_dI, w_sO, w_sq, w_si, w_pI, w_pZ, w_pR, w_pU, w_qI, w_qB, w_qZ, w_qU, w_qR, w_kV, q_icst, q_lcst, q_xR, q_ldI, q_ldR, q_ldL, q_bn, q_un, q_dv, q_fI, q_fR, q_aI, q_aR, q_aN, q_tn, q_cmp, q_cmz, q_cnt, q_ctt, q_cand, q_cor, q_vn, q_vI, q_vR, q_vL, q_kI, q_kR, q_kL, q_ckI, envN, argE, List.flatMap_cons, List.flatMap_nil, Value.category, junk, oadd, osub, omul, oand, oor, oxor, odiv, orem, oshl, oshr, oushr, omax, omin]; simp (disch := first | omega | simp) [rk_i, rk_b, rk_o, st1, kill, Value.category, rcv, nog, hn2, ly166, z4]; rfl) (by simp [rcv, hn2, ly166]) (fq_mono (m_says hn2 hm2 z3 (op := 0) (by omega) (v := N.2) (by omega) hL) (by rintro r h3 ⟨rfl, z⟩; exact ⟨rfl, rfl, rfl, z⟩))) ?_
      rintro E1 h3 ⟨rfl, f3, m3⟩
      simp only [f_mkF, w_sI, w_sR, w_sL, w_sC, w_sk, w_sbr, w_sco, w_rV, w_rI, w_rR, w_rL, w_dI, w_sO, w_sq, w_si, w_pI, w_pZ, w_pR, w_pU, w_qI, w_qB, w_qZ, w_qU, w_qR, w_kV, q_icst, q_lcst, q_xR, q_ldI, q_ldR, q_ldL, q_bn, q_un, q_dv, q_fI, q_fR, q_aI, q_aR, q_aN, q_tn, q_cmp, q_cmz, q_cnt, q_ctt, q_cand, q_cor, q_vn, q_vI, q_vR, q_vL, q_kI, q_kR, q_kL, q_ckI, envN, argE, List.flatMap_cons, List.flatMap_nil, Value.category, junk, oadd, osub, omul, oand, oor, oxor, odiv, orem, oshl, oshr, oushr, omax, omin]
      simp [rk_i, rk_b, rk_o, st1, kill, Value.category, rcv, nog]
      exact ⟨f2.trans f3, rfl, m3⟩
  · rw [if_neg cd] at hV
    rw [b2_0.mpr cd] at e2
    refine w_sq.mpr ((w_siF (by simp only [f_mkF, w_sI, w_sR, w_sL, w_sC, w_sk, w_sbr, w_sco, w_rV, w_rI, w_rR, w_rL, w_dI, w_sO, w_sq, w_si, w_pI, w_pZ, w_pR, w_pU, w_qI, w_qB, w_qZ, w_qU, w_qR, w_kV, q_icst, q_lcst, q_xR, q_ldI, q_ldR, q_ldL, q_bn, q_un, q_dv, q_fI, q_fR, q_aI, q_aR, q_aN, q_tn, q_cmp, q_cmz, q_cnt, q_ctt, q_cand, q_cor, q_vn, q_vI, q_vR, q_vL, q_kI, q_kR, q_kL, q_ckI, envN, argE, List.flatMap_cons, List.flatMap_nil, Value.category, junk, oadd, osub, omul, oand, oor, oxor, odiv, orem, oshl, oshr, oushr, omax, omin]; simp (disch := first | omega | simp) [rk_i, rk_b, rk_o, st1, kill, Value.category, rcv, nog, hn, ly166, fq_of e2])).mpr (w_sk2.mpr ?_))
    have e4 := m_fact (p := p) hs hz h1
    refine w_sqI (E' := [.ref 166, .int (ixT 1 (s p))]) (ixT 1 (s p)) (by simp only [f_mkF, w_sI, w_sR, w_sL, w_sC, w_sk, w_sbr, w_sco, w_rV, w_rI, w_rR, w_rL, w_dI, w_sO, w_sq, w_si, w_pI, w_pZ, w_pR, w_pU, w_qI, w_qB, w_qZ, w_qU, w_qR, w_kV, q_icst, q_lcst, q_xR, q_ldI, q_ldR, q_ldL, q_bn, q_un, q_dv, q_fI, q_fR, q_aI, q_aR, q_aN, q_tn, q_cmp, q_cmz, q_cnt, q_ctt, q_cand, q_cor, q_vn, q_vI, q_vR, q_vL, q_kI, q_kR, q_kL, q_ckI, envN, argE, List.flatMap_cons, List.flatMap_nil, Value.category, junk, oadd, osub, omul, oand, oor, oxor, odiv, orem, oshl, oshr, oushr, omax, omin]; simp (disch := first | omega | simp) [rk_i, rk_b, rk_o, st1, kill, Value.category, rcv, nog, hn, ly166, fq_of e1, fq_of e4]) rfl ?_
    have lt_l : ltrP (s p) = (txT 1).idxOf (s p) := rfl
    have lt_n : (txT 1).length = 13 := rfl
    by_cases c3 : ltrP (s p) < 13
    · rw [if_pos c3] at hV
      subst hV
      have hlt : p < e := lt_e (p := p) hz fun z => by rw [z] at c3; exact absurd c3 (by decide)
      have i1 : ixT 1 (s p) = nI (ltrP (s p)) := by unfold ixT; rw [← lt_l, lt_n, if_pos c3]
      have i2 : ¬ nI (ltrP (s p)) = -1 := fun z => by
        have y : (-1 : Int32) < 0 := by decide
        rw [← z] at y
        exact absurd y (Int32.not_lt.mpr (nI_0le (by omega)))
      rw [i1]
      generalize ltrP (s p) = lt at *
      refine w_sq.mpr ((w_siF (by simp only [f_mkF, w_sI, w_sR, w_sL, w_sC, w_sk, w_sbr, w_sco, w_rV, w_rI, w_rR, w_rL, w_dI, w_sO, w_sq, w_si, w_pI, w_pZ, w_pR, w_pU, w_qI, w_qB, w_qZ, w_qU, w_qR, w_kV, q_icst, q_lcst, q_xR, q_ldI, q_ldR, q_ldL, q_bn, q_un, q_dv, q_fI, q_fR, q_aI, q_aR, q_aN, q_tn, q_cmp, q_cmz, q_cnt, q_ctt, q_cand, q_cor, q_vn, q_vI, q_vR, q_vL, q_kI, q_kR, q_kL, q_ckI, envN, argE, List.flatMap_cons, List.flatMap_nil, Value.category, junk, oadd, osub, omul, oand, oor, oxor, odiv, orem, oshl, oshr, oushr, omax, omin]; simp (disch := first | omega | simp) [rk_i, rk_b, rk_o, st1, kill, Value.category, rcv, nog, i2])).mpr (w_sk2.mpr ?_))
      refine w_sqS (fun E1 h3 => E1 = [.ref 166, .int (nI lt)] ∧ Fr SMr h1 h3 ∧ MS h3 p o st (L ++ [(1, lt)])) (w_kVe [.ref 166, .int (nI 1), .int (nI lt)] (by simp only [f_mkF, w_sI, w_sR, w_sL, w_sC, w_sk, w_sbr, w_sco, w_rV, w_rI, w_rR, w_rL, w_dI, w_sO, w_sq, w_si, w_pI, w_pZ, w_pR, w_pU, w_qI, w_qB, w_qZ, w_qU, w_qR, w_kV, q_icst, q_lcst, q_xR, q_ldI, q_ldR, q_ldL, q_bn, q_un, q_dv, q_fI, q_fR, q_aI, q_aR, q_aN, q_tn, q_cmp, q_cmz, q_cnt, q_ctt, q_cand, q_cor, q_vn, q_vI, q_vR, q_vL, q_kI, q_kR, q_kL, q_ckI, envN, argE, List.flatMap_cons, List.flatMap_nil, Value.category, junk, oadd, osub, omul, oand, oor, oxor, odiv, orem, oshl, oshr, oushr, omax, omin]; simp; rfl) (by simp [rcv, hn, ly166]) (fq_mono (m_says hn hm m (op := 1) (by omega) (v := lt) (by omega) hL) (by rintro r h3 ⟨rfl, z⟩; exact ⟨rfl, rfl, rfl, z⟩))) ?_
      rintro E1 h3 ⟨rfl, f3, m3⟩
      have hn3 : h3.1 = 212 := f3.1.trans hn
      refine w_sqN (w_pMe (nI (p + 1)) hn3 rfl (ev_bc (ev_fM hn3 rfl m3.1) (nI_1 _)) ⟨rfl, ?_⟩)
      simp only [f_mkF, w_sI, w_sR, w_sL, w_sC, w_sk, w_sbr, w_sco, w_rV, w_rI, w_rR, w_rL, w_dI, w_sO, w_sq, w_si, w_pI, w_pZ, w_pR, w_pU, w_qI, w_qB, w_qZ, w_qU, w_qR, w_kV, q_icst, q_lcst, q_xR, q_ldI, q_ldR, q_ldL, q_bn, q_un, q_dv, q_fI, q_fR, q_aI, q_aR, q_aN, q_tn, q_cmp, q_cmz, q_cnt, q_ctt, q_cand, q_cor, q_vn, q_vI, q_vR, q_vL, q_kI, q_kR, q_kL, q_ckI, envN, argE, List.flatMap_cons, List.flatMap_nil, Value.category, junk, oadd, osub, omul, oand, oor, oxor, odiv, orem, oshl, oshr, oushr, omax, omin]
      simp [rk_i, rk_b, rk_o, st1, kill, Value.category, rcv, nog]
      exact ⟨f3.w (by unfold SMr; omega), rfl, m3.at (by simp [wI_i]) (by simp [wI_i]) (by simp [wI_i]) (by simp [wI_i]) (fun i => by simp [wI_i]) (fun i => by simp [wI_i])⟩
    · rw [if_neg c3] at hV
      subst hV
      have i1 : ixT 1 (s p) = -1 := by unfold ixT; rw [← lt_l, lt_n, if_neg c3]
      rw [i1]
      have e5 : F_X11_wrong [.ref 166, .int 1, .int (nI p)] h1 = _ := m_wrong hn 1 p
      have mp := m.1
      refine w_sq.mpr ((w_siT (by simp only [f_mkF, w_sI, w_sR, w_sL, w_sC, w_sk, w_sbr, w_sco, w_rV, w_rI, w_rR, w_rL, w_dI, w_sO, w_sq, w_si, w_pI, w_pZ, w_pR, w_pU, w_qI, w_qB, w_qZ, w_qU, w_qR, w_kV, q_icst, q_lcst, q_xR, q_ldI, q_ldR, q_ldL, q_bn, q_un, q_dv, q_fI, q_fR, q_aI, q_aR, q_aN, q_tn, q_cmp, q_cmz, q_cnt, q_ctt, q_cand, q_cor, q_vn, q_vI, q_vR, q_vL, q_kI, q_kR, q_kL, q_ckI, envN, argE, List.flatMap_cons, List.flatMap_nil, Value.category, junk, oadd, osub, omul, oand, oor, oxor, odiv, orem, oshl, oshr, oushr, omax, omin]; simp (disch := first | omega | simp) [rk_i, rk_b, rk_o, st1, kill, Value.category, rcv, nog])).mpr ?_)
      simp only [f_mkF, w_sI, w_sR, w_sL, w_sC, w_sk, w_sbr, w_sco, w_rV, w_rI, w_rR, w_rL, w_dI, w_sO, w_sq, w_si, w_pI, w_pZ, w_pR, w_pU, w_qI, w_qB, w_qZ, w_qU, w_qR, w_kV, q_icst, q_lcst, q_xR, q_ldI, q_ldR, q_ldL, q_bn, q_un, q_dv, q_fI, q_fR, q_aI, q_aR, q_aN, q_tn, q_cmp, q_cmz, q_cnt, q_ctt, q_cand, q_cor, q_vn, q_vI, q_vR, q_vL, q_kI, q_kR, q_kL, q_ckI, envN, argE, List.flatMap_cons, List.flatMap_nil, Value.category, junk, oadd, osub, omul, oand, oor, oxor, odiv, orem, oshl, oshr, oushr, omax, omin]
      simp (disch := first | omega | simp) [rk_i, rk_b, rk_o, st1, kill, Value.category, rcv, nog, hn, ly166, mp, fq_of e5]
      exact ⟨(Fr.refl h1).w (by unfold SMr; omega), rfl, by rw [wI_i, if_pos ⟨rfl, rfl⟩]⟩
theorem m_rf_deep {s : Nat → Nat} {e : Nat} {h : Hp} (q : MR s e h) {p : Nat} {st L : List Pr2} (m : MS h p 6 st L) (hpe : p ≤ e) (h91 : s p = 91) (hl : st.length < 180) : F_X11_readsFactor [.ref 166] h = some (some (.int 0), wI h 166 23 (-(nI (5000 + p)))) := by
  have hs := q.2.2.2.2.2.1
  have hz := q.2.2.2.2.2.2
  have hn := q.1
  have e1 := m_here q m.1 hpe
  have n91 : hvM s e p = 91 := (hvM_e (c := 91) hs hz (by omega)).mpr h91
  obtain ⟨r, h2, e2, z⟩ := m_opens hn q.2.1 m (w := 14) (by omega) hl (by omega)
  rw [if_pos rfl] at z
  obtain ⟨rfl, rfl⟩ := z
  rw [← fq_eq]
  unfold F_X11_readsFactor
  refine f_mkE [.ref 166, junk] rfl (by simp [argE, Value.category]) ?_
  refine w_sq.mpr ?_
  refine w_lp (fun k E h' => E = [.ref 166, junk] ∧ h' = h) ?_ 0 _ _ ⟨rfl, rfl⟩
  rintro k E h' ⟨rfl, rfl⟩
  have e2' : F_X11_opens [.ref 166, .int 14] h' = _ := e2
  refine ev_T (by simp only [f_mkF, w_sI, w_sR, w_sL, w_sC, w_sk, w_sbr, w_sco, w_rV, w_rI, w_rR, w_rL, w_dI, w_sO, w_sq, w_si, w_pI, w_pZ, w_pR, w_pU, w_qI, w_qB, w_qZ, w_qU, w_qR, w_kV, q_icst, q_lcst, q_xR, q_ldI, q_ldR, q_ldL, q_bn, q_un, q_dv, q_fI, q_fR, q_aI, q_aR, q_aN, q_tn, q_cmp, q_cmz, q_cnt, q_ctt, q_cand, q_cor, q_vn, q_vI, q_vR, q_vL, q_kI, q_kR, q_kL, q_ckI, envN, argE, List.flatMap_cons, List.flatMap_nil, Value.category, junk, oadd, osub, omul, oand, oor, oxor, odiv, orem, oshl, oshr, oushr, omax, omin]; simp (disch := first | omega | simp) [rk_i, rk_b, rk_o, st1, kill, Value.category, rcv, nog, hn, ly166, fq_of e1, n91]) ⟨(fun z => by cases z), fun _ => ?_⟩
  refine w_siC true (wI h' 166 23 (-(nI (5000 + p)))) (by simp only [f_mkF, w_sI, w_sR, w_sL, w_sC, w_sk, w_sbr, w_sco, w_rV, w_rI, w_rR, w_rL, w_dI, w_sO, w_sq, w_si, w_pI, w_pZ, w_pR, w_pU, w_qI, w_qB, w_qZ, w_qU, w_qR, w_kV, q_icst, q_lcst, q_xR, q_ldI, q_ldR, q_ldL, q_bn, q_un, q_dv, q_fI, q_fR, q_aI, q_aR, q_aN, q_tn, q_cmp, q_cmz, q_cnt, q_ctt, q_cand, q_cor, q_vn, q_vI, q_vR, q_vL, q_kI, q_kR, q_kL, q_ckI, envN, argE, List.flatMap_cons, List.flatMap_nil, Value.category, junk, oadd, osub, omul, oand, oor, oxor, odiv, orem, oshl, oshr, oushr, omax, omin]; simp (disch := first | omega | simp) [rk_i, rk_b, rk_o, st1, kill, Value.category, rcv, nog, hn, ly166, fq_of e2']) (fun _ => ?_) fun z => by cases z
  simp only [f_mkF, w_sI, w_sR, w_sL, w_sC, w_sk, w_sbr, w_sco, w_rV, w_rI, w_rR, w_rL, w_dI, w_sO, w_sq, w_si, w_pI, w_pZ, w_pR, w_pU, w_qI, w_qB, w_qZ, w_qU, w_qR, w_kV, q_icst, q_lcst, q_xR, q_ldI, q_ldR, q_ldL, q_bn, q_un, q_dv, q_fI, q_fR, q_aI, q_aR, q_aN, q_tn, q_cmp, q_cmz, q_cnt, q_ctt, q_cand, q_cor, q_vn, q_vI, q_vR, q_vL, q_kI, q_kR, q_kL, q_ckI, envN, argE, List.flatMap_cons, List.flatMap_nil, Value.category, junk, oadd, osub, omul, oand, oor, oxor, odiv, orem, oshl, oshr, oushr, omax, omin]
  simp [rk_i, rk_b, rk_o, st1, kill, Value.category, rcv, nog]
theorem m_rf_open {s : Nat → Nat} {e : Nat} {h : Hp} (q : MR s e h) {p o : Nat} {st L : List Pr2} (m : MS h p o st L) (hpe : p ≤ e) (h91 : s p = 91) (hl : st.length < 180) (ho : o < 6) : ∃ h1, Fr SMr h h1 ∧ MS h1 (p + 1) (o + 1) (st ++ [(14, 0)]) L ∧ F_X11_readsFactor [.ref 166] h = F_X11_readsFactor [.ref 166] h1 := by
  have hs := q.2.2.2.2.2.1
  have hz := q.2.2.2.2.2.2
  have hn := q.1
  have e1 := m_here q m.1 hpe
  have n91 : hvM s e p = 91 := (hvM_e (c := 91) hs hz (by omega)).mpr h91
  obtain ⟨r, h1, e2, z⟩ := m_opens hn q.2.1 m (w := 14) (by omega) hl (by omega)
  rw [if_neg (by omega)] at z
  obtain ⟨rfl, f1, m1⟩ := z
  have e2' : F_X11_opens [.ref 166, .int 14] h = _ := e2
  refine ⟨h1, f1, m1, ?_⟩
  have key : lp (cnt (cmp one (kI (rcv 11) F_X11_here (vR vn (ldR 0))) (icst 91))) (si (cnt (cmz zne (kI (rcv 11) F_X11_opens (vI (vR vn (ldR 0)) (icst 14))))) (rI (icst 0)) sk) sk [.ref 166, junk] h = lp (cnt (cmp one (kI (rcv 11) F_X11_here (vR vn (ldR 0))) (icst 91))) (si (cnt (cmz zne (kI (rcv 11) F_X11_opens (vI (vR vn (ldR 0)) (icst 14))))) (rI (icst 0)) sk) sk [.ref 166, junk] h1 := by
    have c1 : ev (cnt (cmp one (kI (rcv 11) F_X11_here (vR vn (ldR 0))) (icst 91))) [.ref 166, junk] h fun t h2 => t = true ∧ h2 = h := by simp only [f_mkF, w_sI, w_sR, w_sL, w_sC, w_sk, w_sbr, w_sco, w_rV, w_rI, w_rR, w_rL, w_dI, w_sO, w_sq, w_si, w_pI, w_pZ, w_pR, w_pU, w_qI, w_qB, w_qZ, w_qU, w_qR, w_kV, q_icst, q_lcst, q_xR, q_ldI, q_ldR, q_ldL, q_bn, q_un, q_dv, q_fI, q_fR, q_aI, q_aR, q_aN, q_tn, q_cmp, q_cmz, q_cnt, q_ctt, q_cand, q_cor, q_vn, q_vI, q_vR, q_vL, q_kI, q_kR, q_kL, q_ckI, envN, argE, List.flatMap_cons, List.flatMap_nil, Value.category, junk, oadd, osub, omul, oand, oor, oxor, odiv, orem, oshl, oshr, oushr, omax, omin]; simp (disch := first | omega | simp) [rk_i, rk_b, rk_o, st1, kill, Value.category, rcv, nog, hn, ly166, fq_of e1, n91]
    obtain ⟨t, h2, c2, rfl, rfl⟩ := c1
    have c3 : wp (si (cnt (cmz zne (kI (rcv 11) F_X11_opens (vI (vR vn (ldR 0)) (icst 14))))) (rI (icst 0)) sk) [.ref 166, junk] h2 fun o v E h3 => o = 0 ∧ v = .null ∧ E = [.ref 166, junk] ∧ h3 = h1 := by
      refine w_siC false h1 (by simp only [f_mkF, w_sI, w_sR, w_sL, w_sC, w_sk, w_sbr, w_sco, w_rV, w_rI, w_rR, w_rL, w_dI, w_sO, w_sq, w_si, w_pI, w_pZ, w_pR, w_pU, w_qI, w_qB, w_qZ, w_qU, w_qR, w_kV, q_icst, q_lcst, q_xR, q_ldI, q_ldR, q_ldL, q_bn, q_un, q_dv, q_fI, q_fR, q_aI, q_aR, q_aN, q_tn, q_cmp, q_cmz, q_cnt, q_ctt, q_cand, q_cor, q_vn, q_vI, q_vR, q_vL, q_kI, q_kR, q_kL, q_ckI, envN, argE, List.flatMap_cons, List.flatMap_nil, Value.category, junk, oadd, osub, omul, oand, oor, oxor, odiv, orem, oshl, oshr, oushr, omax, omin]; simp (disch := first | omega | simp) [rk_i, rk_b, rk_o, st1, kill, Value.category, rcv, nog, hn, ly166, fq_of e2']) (fun z => by cases z) fun _ => ?_
      rw [w_sk]
      exact ⟨rfl, rfl, rfl, rfl⟩
    obtain ⟨o', v', E', h3, c4, rfl, rfl, rfl, rfl⟩ := c3
    rw [lp_eq, c2]
    simp only [Option.bind_some, if_true, c4]
    rfl
  unfold F_X11_readsFactor mkF
  have k2 : ∀ B : Sm, sq (lp (cnt (cmp one (kI (rcv 11) F_X11_here (vR vn (ldR 0))) (icst 91))) (si (cnt (cmz zne (kI (rcv 11) F_X11_opens (vI (vR vn (ldR 0)) (icst 14))))) (rI (icst 0)) sk) sk) B [.ref 166, junk] h = sq (lp (cnt (cmp one (kI (rcv 11) F_X11_here (vR vn (ldR 0))) (icst 91))) (si (cnt (cmz zne (kI (rcv 11) F_X11_opens (vI (vR vn (ldR 0)) (icst 14))))) (rI (icst 0)) sk) sk) B [.ref 166, junk] h1 := by
    intro B
    unfold sq
    rw [key]
  rw [show envN 2 [Value.ref 166] = [.ref 166, junk] from rfl, k2]
