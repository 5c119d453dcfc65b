/-! the reference reads: clauses -/
def SMc2 (c : Nat) (a k : Nat) : Prop := SMr a k ∨ (a = 166 ∧ k = 27) ∨ ((a = 186 ∨ a = 187 ∨ a = 188) ∧ c ≤ k)
theorem MR.k {s : Nat → Nat} {e c : Nat} {h h' : Hp} (q : MR s e h) (f : Fr (SMc2 c) h h') : MR s e h' := by
  obtain ⟨q1, q2, q3, q4, q5, q6, q7⟩ := q
  obtain ⟨f1, f2, f3⟩ := f
  refine ⟨f1.trans q1, by rw [f2]; exact q2, ?_, q4, fun p hp => ?_, q6, q7⟩
  · rw [f3 _ _ (by unfold SMc2 SMr; omega)]; exact q3
  · rw [f3 _ _ (by unfold SMc2 SMr; omega)]; exact q5 p hp
theorem Fr.mk {c : Nat} {h h' : Hp} (f : Fr SMr h h') : Fr (SMc2 c) h h' := f.sub fun _ _ z => Or.inl z
theorem cl_t : ∀ c, c < 256 → (txT 0).idxOf c < 8 → nI c = chL ((txT 0).idxOf c) := by decide +kernel
theorem cl_i : ∀ c, c < 256 → (decide ((txT 0).idxOf c < 8) = (c == 115 || c == 103 || c == 119 || c == 102 || c == 122 || c == 121 || c == 98 || c == 97)) := by decide +kernel
theorem m_isCl {s : Nat → Nat} {e p : Nat} (hs : ∀ p, s p < 256) (hz : ∀ p, e ≤ p → s p = 0) (h : Hp) : F_X11_isClauseLetter [.int (hvM s e p)] h = some (some (.int (b2 ((txT 0).idxOf (s p) < 8))), h) := by
  have a1 : hvM s e p = 115 ↔ s p = 115 := hvM_e (c := 115) hs hz (by omega)
  have a2 : hvM s e p = 103 ↔ s p = 103 := hvM_e (c := 103) hs hz (by omega)
  have a3 : hvM s e p = 119 ↔ s p = 119 := hvM_e (c := 119) hs hz (by omega)
  have a4 : hvM s e p = 102 ↔ s p = 102 := hvM_e (c := 102) hs hz (by omega)
  have a5 : hvM s e p = 122 ↔ s p = 122 := hvM_e (c := 122) hs hz (by omega)
  have a6 : hvM s e p = 121 ↔ s p = 121 := hvM_e (c := 121) hs hz (by omega)
  have a7 : hvM s e p = 98 ↔ s p = 98 := hvM_e (c := 98) hs hz (by omega)
  have a8 : hvM s e p = 97 ↔ s p = 97 := hvM_e (c := 97) hs hz (by omega)
  have ci := cl_i (s p) (hs p)
  generalize hvM s e p = v at *
  have kk : ev (ldI 0) [.int v] h fun x h1 => x = v ∧ h1 = h := ev_ld rfl
  have cn : ev (cor (cor (cor (cor (cor (cor (cor (cmp oeq (ldI 0) (icst 115)) (cmp oeq (ldI 0) (icst 103))) (cmp oeq (ldI 0) (icst 119))) (cmp oeq (ldI 0) (icst 102))) (cmp oeq (ldI 0) (icst 122))) (cmp oeq (ldI 0) (icst 121))) (cmp oeq (ldI 0) (icst 98))) (cnt (cmp one (ldI 0) (icst 97)))) [.int v] h fun t h1 => t = decide ((txT 0).idxOf (s p) < 8) ∧ h1 = h := by
    refine ev_eqt (ev_or _ _ (ev_or _ _ (ev_or _ _ (ev_or _ _ (ev_or _ _ (ev_or _ _ (ev_or _ _ (ev_cmpc kk) fun _ => ev_cmpc kk) fun _ => ev_cmpc kk) fun _ => ev_cmpc kk) fun _ => ev_cmpc kk) fun _ => ev_cmpc kk) fun _ => ev_cmpc kk) fun _ => ev_not (ev_cmpc kk)) ?_
    rw [ci]
    rw [Bool.eq_iff_iff]
    simp [oeq, one, a1, a2, a3, a4, a5, a6, a7, a8]
  rw [← fq_eq]
  unfold F_X11_isClauseLetter
  refine f_mkE [.int v] rfl (by simp [argE, Value.category]) ?_
  rw [w_rI, q_tn]
  refine ev_mono cn ?_
  rintro t h1 ⟨rfl, rfl⟩
  by_cases c : (txT 0).idxOf (s p) < 8
  · refine ⟨fun _ => ?_, fun z => by simp at z; omega⟩
    rw [q_icst, b2_1.mpr c]
    exact Or.inr ⟨rfl, rfl, rfl, rfl⟩
  · refine ⟨fun z => by simp at z; omega, fun _ => ?_⟩
    rw [q_icst, b2_0.mpr c]
    exact Or.inr ⟨rfl, rfl, rfl, rfl⟩
/-- between two clauses -/
def MCs (s : Nat → Nat) (e : Nat) (h : Hp) (p c : Nat) (L : List Pr2) : Prop := MR s e h ∧ h.2.1 166 21 = nI p ∧ h.2.1 166 25 = nI L.length ∧ ARr (h.2.1 184) L ∧ inr L ∧ h.2.1 166 27 = nI c ∧ p ≤ e ∧ L.length ≤ p
def OM2 (s : Nat → Nat) (e c : Nat) (h : Hp) (L : List Pr2) (R : Except Nat (Nat × Nat × List Cd)) (r : Option Value) (h' : Hp) : Prop := Fr (SMc2 c) h h' ∧ match R with
  | .error f => r = some (.int 0) ∧ h'.2.1 166 23 = -(nI f)
  | .ok (p', lt, C) => r = some (.int 1) ∧ MCs s e h' p' (c + 1) (L ++ C.map rfc) ∧ h'.2.1 186 c = chL lt ∧ h'.2.1 187 c = nI L.length ∧ h'.2.1 188 c = nI (L.length + C.length)
theorem m_clause {s : Nat → Nat} {e c p : Nat} {h : Hp} {L : List Pr2} (g : MCs s e h p c L) (hc12 : c ≤ 12) : fq F_X11_readsClause [.ref 166] h fun v h' => OM2 s e c h L (clsP s c p L.length) v h' := by
  obtain ⟨q, m1, m2, m3, m4, m5, hpe, hL⟩ := g
  have hn := q.1
  have hm := q.2.1
  have hs := q.2.2.2.2.2.1
  have hz := q.2.2.2.2.2.2
  have h160 := q.2.2.2.1
  have hh := m_here q m1 hpe
  have e2 := m_isCl (p := p) hs hz h
  have p31 : h.2.2 166 31 = some 186 := hm 31
  have p32 : h.2.2 166 32 = some 187 := hm 32
  generalize hV : clsP s c p L.length = V
  unfold clsP at hV
  unfold F_X11_readsClause
  refine f_mkE [.ref 166] rfl (by simp [argE, Value.category]) ?_
  have fl : ∀ w, OM2 s e c h L (.error (1000 * w + p)) (some (.int 0)) (wI h 166 23 (-(nI (1000 * w + p)))) := fun w => ⟨(Fr.refl h).w (by unfold SMc2 SMr; omega), rfl, by rw [wI_i, if_pos ⟨rfl, rfl⟩]⟩
  by_cases c3 : (txT 0).idxOf (s p) < 8
  · rw [if_pos c3] at hV
    rw [b2_1.mpr c3] at e2
    have ct := cl_t (s p) (hs p) c3
    have hlt : p < e := lt_e (p := p) hz fun z => by rw [z] at c3; exact absurd c3 (by decide)
    have hh2 : hvM s e p = chL ((txT 0).idxOf (s p)) := by unfold hvM; rw [if_pos hlt, ct]
    generalize (txT 0).idxOf (s p) = lt at *
    rw [hh2] at hh e2
    refine w_sq.mpr ((w_siF (by simp only [f_mkF, w_sI, w_sR, w_sL, w_sC, w_sk, w_sbr, w_sco, w_rV, w_rI, w_rR, w_rL, w_dI, w_sO, w_sq, w_si, w_pI, w_pZ, w_pR, w_pU, w_qI, w_qB, w_qZ, w_qU, w_qR, w_kV, q_icst, q_lcst, q_xR, q_ldI, q_ldR, q_ldL, q_bn, q_un, q_dv, q_fI, q_fR, q_aI, q_aR, q_aN, q_tn, q_cmp, q_cmz, q_cnt, q_ctt, q_cand, q_cor, q_vn, q_vI, q_vR, q_vL, q_kI, q_kR, q_kL, q_ckI, envN, argE, List.flatMap_cons, List.flatMap_nil, Value.category, junk, oadd, osub, omul, oand, oor, oxor, odiv, orem, oshl, oshr, oushr, omax, omin]; simp (disch := first | omega | simp) [rk_i, rk_b, rk_o, st1, kill, Value.category, rcv, nog, hn, ly166, fq_of hh, fq_of e2])).mpr (w_sk2.mpr ?_))
    have n12 : nI c = 12 ↔ c = 12 := nI_eq (a := c) (b := 12) (by omega) (by omega)
    by_cases c4 : c < 12
    · rw [if_pos c4] at hV
      have n12' : ¬ nI c = 12 := fun z => by have := n12.mp z; omega
      refine w_sq.mpr ((w_siF (by simp only [f_mkF, w_sI, w_sR, w_sL, w_sC, w_sk, w_sbr, w_sco, w_rV, w_rI, w_rR, w_rL, w_dI, w_sO, w_sq, w_si, w_pI, w_pZ, w_pR, w_pU, w_qI, w_qB, w_qZ, w_qU, w_qR, w_kV, q_icst, q_lcst, q_xR, q_ldI, q_ldR, q_ldL, q_bn, q_un, q_dv, q_fI, q_fR, q_aI, q_aR, q_aN, q_tn, q_cmp, q_cmz, q_cnt, q_ctt, q_cand, q_cor, q_vn, q_vI, q_vR, q_vL, q_kI, q_kR, q_kL, q_ckI, envN, argE, List.flatMap_cons, List.flatMap_nil, Value.category, junk, oadd, osub, omul, oand, oor, oxor, odiv, orem, oshl, oshr, oushr, omax, omin]; simp (disch := first | omega | simp) [rk_i, rk_b, rk_o, st1, kill, Value.category, rcv, nog, hn, ly166, m5, n12'])).mpr (w_sk2.mpr ?_))
      refine w_sqN (w_qIe 186 c (chL lt) (by simp only [f_mkF, w_sI, w_sR, w_sL, w_sC, w_sk, w_sbr, w_sco, w_rV, w_rI, w_rR, w_rL, w_dI, w_sO, w_sq, w_si, w_pI, w_pZ, w_pR, w_pU, w_qI, w_qB, w_qZ, w_qU, w_qR, w_kV, q_icst, q_lcst, q_xR, q_ldI, q_ldR, q_ldL, q_bn, q_un, q_dv, q_fI, q_fR, q_aI, q_aR, q_aN, q_tn, q_cmp, q_cmz, q_cnt, q_ctt, q_cand, q_cor, q_vn, q_vI, q_vR, q_vL, q_kI, q_kR, q_kL, q_ckI, envN, argE, List.flatMap_cons, List.flatMap_nil, Value.category, junk, oadd, osub, omul, oand, oor, oxor, odiv, orem, oshl, oshr, oushr, omax, omin]; simp (disch := first | omega | simp) [rk_i, rk_b, rk_o, st1, kill, Value.category, rcv, nog, hn, ly166, p31]) (ev_fM hn rfl m5) (ev_k0 hn rfl hh) (by omega) ly186 c4 (by omega) ⟨rfl, ?_⟩)
      refine w_sqN (w_pMe (nI (p + 1)) hn rfl (ev_bc (ev_fM hn rfl (by rw [wI_i, if_neg (by omega)]; exact m1)) (nI_1 _)) ⟨rfl, ?_⟩)
      refine w_sqN (w_qIe 187 c (nI L.length) (by simp only [f_mkF, w_sI, w_sR, w_sL, w_sC, w_sk, w_sbr, w_sco, w_rV, w_rI, w_rR, w_rL, w_dI, w_sO, w_sq, w_si, w_pI, w_pZ, w_pR, w_pU, w_qI, w_qB, w_qZ, w_qU, w_qR, w_kV, q_icst, q_lcst, q_xR, q_ldI, q_ldR, q_ldL, q_bn, q_un, q_dv, q_fI, q_fR, q_aI, q_aR, q_aN, q_tn, q_cmp, q_cmz, q_cnt, q_ctt, q_cand, q_cor, q_vn, q_vI, q_vR, q_vL, q_kI, q_kR, q_kL, q_ckI, envN, argE, List.flatMap_cons, List.flatMap_nil, Value.category, junk, oadd, osub, omul, oand, oor, oxor, odiv, orem, oshl, oshr, oushr, omax, omin]; simp (disch := first | omega | simp) [rk_i, rk_b, rk_o, st1, kill, Value.category, rcv, nog, wI_1, wI_r, hn, ly166, p32]) (ev_fM hn rfl (by rw [wI_i, if_neg (by omega), wI_i, if_neg (by omega)]; exact m5)) (ev_fM hn rfl (by rw [wI_i, if_neg (by omega), wI_i, if_neg (by omega)]; exact m2)) (by show 187 < h.1; omega) ly187 c4 (by omega) ⟨rfl, ?_⟩)
      have f1 : Fr (SMc2 c) h (wI (wI (wI h 186 c (chL lt)) 166 21 (nI (p + 1))) 187 c (nI L.length)) := (((Fr.refl h).w (by unfold SMc2 SMr; omega)).w (by unfold SMc2 SMr; omega)).w (by unfold SMc2 SMr; omega)
      have v1 : (wI (wI (wI h 186 c (chL lt)) 166 21 (nI (p + 1))) 187 c (nI L.length)).2.1 166 21 = nI (p + 1) := by simp [wI_i]
      have v2 : (wI (wI (wI h 186 c (chL lt)) 166 21 (nI (p + 1))) 187 c (nI L.length)).2.1 166 25 = nI L.length := by simp [wI_i, m2]
      have v3 : ARr ((wI (wI (wI h 186 c (chL lt)) 166 21 (nI (p + 1))) 187 c (nI L.length)).2.1 184) L := m3.c fun i _ => by simp [wI_i]
      have v4 : (wI (wI (wI h 186 c (chL lt)) 166 21 (nI (p + 1))) 187 c (nI L.length)).2.1 166 27 = nI c := by simp [wI_i, m5]
      have v5 : (wI (wI (wI h 186 c (chL lt)) 166 21 (nI (p + 1))) 187 c (nI L.length)).2.1 186 c = chL lt := by simp [wI_i]
      have v6 : (wI (wI (wI h 186 c (chL lt)) 166 21 (nI (p + 1))) 187 c (nI L.length)).2.1 187 c = nI L.length := by simp [wI_i]
      generalize wI (wI (wI h 186 c (chL lt)) 166 21 (nI (p + 1))) 187 c (nI L.length) = h1 at *
      have q1 := q.k f1
      have hn1 := q1.1
      obtain ⟨v, h2, e3, f2, z⟩ := m_cond q1 v1 v2 v3 m4 (by omega) (by omega)
      have f2' : Fr (SMc2 c) h h2 := f1.trans f2.mk
      rw [show p + 1 + 1 = p + 2 from rfl] at z
      cases hR : expP s 41 (if s (p + 1) = 40 then cndP s (pceP s 5) (p + 2) L.length else .error (1000 + (p + 1))) with
      | error f =>
        rw [hR] at z hV
        obtain ⟨rfl, z2⟩ := z
        simp only at hV
        subst hV
        refine w_sq.mpr (w_siC true h2 (by simp only [f_mkF, w_sI, w_sR, w_sL, w_sC, w_sk, w_sbr, w_sco, w_rV, w_rI, w_rR, w_rL, w_dI, w_sO, w_sq, w_si, w_pI, w_pZ, w_pR, w_pU, w_qI, w_qB, w_qZ, w_qU, w_qR, w_kV, q_icst, q_lcst, q_xR, q_ldI, q_ldR, q_ldL, q_bn, q_un, q_dv, q_fI, q_fR, q_aI, q_aR, q_aN, q_tn, q_cmp, q_cmz, q_cnt, q_ctt, q_cand, q_cor, q_vn, q_vI, q_vR, q_vL, q_kI, q_kR, q_kL, q_ckI, envN, argE, List.flatMap_cons, List.flatMap_nil, Value.category, junk, oadd, osub, omul, oand, oor, oxor, odiv, orem, oshl, oshr, oushr, omax, omin]; simp (disch := first | omega | simp) [rk_i, rk_b, rk_o, st1, kill, Value.category, rcv, nog, hn1, ly166, fq_of e3]) (fun _ => ?_) fun z => by cases z)
        rw [w_rI, q_icst]
        exact ⟨(fun y => by cases y), fun _ => Or.inr ⟨rfl, rfl, f2', rfl, z2⟩⟩
      | ok x =>
        obtain ⟨p', C⟩ := x
        have xb := expP_b hz hR
        rw [hR] at z hV
        obtain ⟨rfl, q2, ms, -, g4, g5, g6⟩ := z
        simp only at hV
        subst hV
        have hn2 := q2.1
        have p33 : h2.2.2 166 33 = some 188 := q2.2.1 33
        obtain ⟨t1, t2, t3, t4, t5, t6, t7, t8⟩ := ms
        have ll : (L ++ C.map rfc).length = L.length + C.length := by simp
        rw [ll] at t4
        have w27 : h2.2.1 166 27 = nI c := by
          rw [f2.2.2 166 27 (by unfold SMr; omega)]; exact v4
        refine w_sq.mpr (w_siC false h2 (by simp only [f_mkF, w_sI, w_sR, w_sL, w_sC, w_sk, w_sbr, w_sco, w_rV, w_rI, w_rR, w_rL, w_dI, w_sO, w_sq, w_si, w_pI, w_pZ, w_pR, w_pU, w_qI, w_qB, w_qZ, w_qU, w_qR, w_kV, q_icst, q_lcst, q_xR, q_ldI, q_ldR, q_ldL, q_bn, q_un, q_dv, q_fI, q_fR, q_aI, q_aR, q_aN, q_tn, q_cmp, q_cmz, q_cnt, q_ctt, q_cand, q_cor, q_vn, q_vI, q_vR, q_vL, q_kI, q_kR, q_kL, q_ckI, envN, argE, List.flatMap_cons, List.flatMap_nil, Value.category, junk, oadd, osub, omul, oand, oor, oxor, odiv, orem, oshl, oshr, oushr, omax, omin]; simp (disch := first | omega | simp) [rk_i, rk_b, rk_o, st1, kill, Value.category, rcv, nog, hn1, ly166, fq_of e3]) (fun z => by cases z) fun _ => w_sk2.mpr ?_)
        refine w_sqN (w_qIe 188 c (nI (L.length + C.length)) (by simp only [f_mkF, w_sI, w_sR, w_sL, w_sC, w_sk, w_sbr, w_sco, w_rV, w_rI, w_rR, w_rL, w_dI, w_sO, w_sq, w_si, w_pI, w_pZ, w_pR, w_pU, w_qI, w_qB, w_qZ, w_qU, w_qR, w_kV, q_icst, q_lcst, q_xR, q_ldI, q_ldR, q_ldL, q_bn, q_un, q_dv, q_fI, q_fR, q_aI, q_aR, q_aN, q_tn, q_cmp, q_cmz, q_cnt, q_ctt, q_cand, q_cor, q_vn, q_vI, q_vR, q_vL, q_kI, q_kR, q_kL, q_ckI, envN, argE, List.flatMap_cons, List.flatMap_nil, Value.category, junk, oadd, osub, omul, oand, oor, oxor, odiv, orem, oshl, oshr, oushr, omax, omin]; simp (disch := first | omega | simp) [rk_i, rk_b, rk_o, st1, kill, Value.category, rcv, nog, hn2, ly166, p33]) (ev_fM hn2 rfl w27) (ev_fM hn2 rfl t4) (by omega) ly188 c4 (by omega) ⟨rfl, ?_⟩)
        refine w_sqN (w_pMe (nI (c + 1)) hn2 rfl (ev_bc (ev_fM hn2 rfl (by rw [wI_i, if_neg (by omega)]; exact w27)) (nI_1 _)) ⟨rfl, ?_⟩)
        rw [w_rI, q_icst]
        have f3 : Fr (SMc2 c) h2 (wI (wI h2 188 c (nI (L.length + C.length))) 166 27 (nI (c + 1))) := ((Fr.refl h2).w (by unfold SMc2 SMr; omega)).w (by unfold SMc2 SMr; omega)
        refine Or.inr ⟨rfl, rfl, f2'.trans f3, rfl, ⟨q2.k f3, by simp [wI_i, t1], by rw [ll]; simp [wI_i, t4], t6.c (fun i _ => by simp [wI_i]), t8, by simp [wI_i], g4, by omega⟩, ?_, ?_, ?_⟩
        · rw [wI_i, if_neg (by omega), wI_i, if_neg (by omega), f2.2.2 186 c (by unfold SMr; omega)]; exact v5
        · rw [wI_i, if_neg (by omega), wI_i, if_neg (by omega), f2.2.2 187 c (by unfold SMr; omega)]; exact v6
        · simp [wI_i]
    · rw [if_neg c4] at hV
      subst hV
      have n12' := n12.mpr (by omega)
      refine w_sq.mpr ((w_siT (by simp only [f_mkF, w_sI, w_sR, w_sL, w_sC, w_sk, w_sbr, w_sco, w_rV, w_rI, w_rR, w_rL, w_dI, w_sO, w_sq, w_si, w_pI, w_pZ, w_pR, w_pU, w_qI, w_qB, w_qZ, w_qU, w_qR, w_kV, q_icst, q_lcst, q_xR, q_ldI, q_ldR, q_ldL, q_bn, q_un, q_dv, q_fI, q_fR, q_aI, q_aR, q_aN, q_tn, q_cmp, q_cmz, q_cnt, q_ctt, q_cand, q_cor, q_vn, q_vI, q_vR, q_vL, q_kI, q_kR, q_kL, q_ckI, envN, argE, List.flatMap_cons, List.flatMap_nil, Value.category, junk, oadd, osub, omul, oand, oor, oxor, odiv, orem, oshl, oshr, oushr, omax, omin]; simp (disch := first | omega | simp) [rk_i, rk_b, rk_o, st1, kill, Value.category, rcv, nog, hn, ly166, m5, n12'])).mpr ?_)
      have e5 : F_X11_wrong [.ref 166, .int 4, .int (nI p)] h = _ := m_wrong hn 4 p
      simp only [f_mkF, w_sI, w_sR, w_sL, w_sC, w_sk, w_sbr, w_sco, w_rV, w_rI, w_rR, w_rL, w_dI, w_sO, w_sq, w_si, w_pI, w_pZ, w_pR, w_pU, w_qI, w_qB, w_qZ, w_qU, w_qR, w_kV, q_icst, q_lcst, q_xR, q_ldI, q_ldR, q_ldL, q_bn, q_un, q_dv, q_fI, q_fR, q_aI, q_aR, q_aN, q_tn, q_cmp, q_cmz, q_cnt, q_ctt, q_cand, q_cor, q_vn, q_vI, q_vR, q_vL, q_kI, q_kR, q_kL, q_ckI, envN, argE, List.flatMap_cons, List.flatMap_nil, Value.category, junk, oadd, osub, omul, oand, oor, oxor, odiv, orem, oshl, oshr, oushr, omax, omin]
      simp (disch := first | omega | simp) [rk_i, rk_b, rk_o, st1, kill, Value.category, rcv, nog, hn, ly166, m1, fq_of e5]
      exact fl 4
  · rw [if_neg c3] at hV
    subst hV
    rw [b2_0.mpr c3] at e2
    refine w_sq.mpr ((w_siT (by simp only [f_mkF, w_sI, w_sR, w_sL, w_sC, w_sk, w_sbr, w_sco, w_rV, w_rI, w_rR, w_rL, w_dI, w_sO, w_sq, w_si, w_pI, w_pZ, w_pR, w_pU, w_qI, w_qB, w_qZ, w_qU, w_qR, w_kV, q_icst, q_lcst, q_xR, q_ldI, q_ldR, q_ldL, q_bn, q_un, q_dv, q_fI, q_fR, q_aI, q_aR, q_aN, q_tn, q_cmp, q_cmz, q_cnt, q_ctt, q_cand, q_cor, q_vn, q_vI, q_vR, q_vL, q_kI, q_kR, q_kL, q_ckI, envN, argE, List.flatMap_cons, List.flatMap_nil, Value.category, junk, oadd, osub, omul, oand, oor, oxor, odiv, orem, oshl, oshr, oushr, omax, omin]; simp (disch := first | omega | simp) [rk_i, rk_b, rk_o, st1, kill, Value.category, rcv, nog, hn, ly166, fq_of hh, fq_of e2])).mpr ?_)
    have e5 : F_X11_wrong [.ref 166, .int 1, .int (nI p)] h = _ := m_wrong hn 1 p
    simp only [f_mkF, w_sI, w_sR, w_sL, w_sC, w_sk, w_sbr, w_sco, w_rV, w_rI, w_rR, w_rL, w_dI, w_sO, w_sq, w_si, w_pI, w_pZ, w_pR, w_pU, w_qI, w_qB, w_qZ, w_qU, w_qR, w_kV, q_icst, q_lcst, q_xR, q_ldI, q_ldR, q_ldL, q_bn, q_un, q_dv, q_fI, q_fR, q_aI, q_aR, q_aN, q_tn, q_cmp, q_cmz, q_cnt, q_ctt, q_cand, q_cor, q_vn, q_vI, q_vR, q_vL, q_kI, q_kR, q_kL, q_ckI, envN, argE, List.flatMap_cons, List.flatMap_nil, Value.category, junk, oadd, osub, omul, oand, oor, oxor, odiv, orem, oshl, oshr, oushr, omax, omin]
    simp (disch := first | omega | simp) [rk_i, rk_b, rk_o, st1, kill, Value.category, rcv, nog, hn, ly166, m1, fq_of e5]
    exact fl 1
