/-! the reference's law -/
theorem m_law {s : Nat → Nat} {h : Hp} (hn : h.1 = 212) (hm : PM h.2.2) {l n tp : Nat} (hl : l < 6) (n1 : 1 ≤ n) (n160 : n ≤ 160) (htp : h.2.1 166 20 = nI tp) (ht2 : n ≤ tp) (ht3 : tp ≤ 200) (hb : ∀ p, p < n → oand (h.2.1 183 p) 255 = nI (s p)) (hs : ∀ p, s p < 256) (hz : ∀ p, n ≤ p → s p = 0) : fq F_X11_law [.ref 166, .int (nI l), .int (nI n)] h fun r h' => r = some (.int (ansP (lawP s n 13 0 0 0))) ∧ h'.2.1 166 20 = 0 ∧ OMl l (lawP s n 13 0 0 0) h h' := by
  generalize hV : lawP s n 13 0 0 0 = V
  unfold F_X11_law
  refine f_mkE [.ref 166, .int (nI l), .int (nI n), junk, junk, junk] rfl (by simp [argE, Value.category]) ?_
  have e1 := e_m_isLand (nI l) h
  rw [b2_1.mpr ⟨nI_0le (by omega), (nI_leI (a := l) (b := 5) (by omega) (by omega)).mpr (by omega)⟩] at e1
  have e2 := e_m_in (nI n) 1 160 h
  rw [b2_1.mpr ⟨nI_1le n1 (by omega), (nI_leI (a := n) (b := 160) (by omega) (by omega)).mpr (by omega)⟩] at e2
  refine w_sq.mpr ((w_siF (by simp only [f_mkF, w_sI, w_sR, w_sL, w_sC, w_sk, w_sbr, w_sco, w_rV, w_rI, w_rR, w_rL, w_dI, w_sO, w_sq, w_si, w_pI, w_pZ, w_pR, w_pU, w_qI, w_qB, w_qZ, w_qU, w_qR, w_kV, q_icst, q_lcst, q_xR, q_ldI, q_ldR, q_ldL, q_bn, q_un, q_dv, q_fI, q_fR, q_aI, q_aR, q_aN, q_tn, q_cmp, q_cmz, q_cnt, q_ctt, q_cand, q_cor, q_vn, q_vI, q_vR, q_vL, q_kI, q_kR, q_kL, q_ckI, envN, argE, List.flatMap_cons, List.flatMap_nil, Value.category, junk, oadd, osub, omul, oand, oor, oxor, odiv, orem, oshl, oshr, oushr, omax, omin]; simp (disch := first | omega | simp) [rk_i, rk_b, rk_o, st1, kill, Value.category, rcv, nog, inI_b, nI_clamp, nI_ltI, nI_leI, nI_eq, nI_9, nI_6, nI_22, nI_12, nI_180, nI_add, nI_1, hn, ly166, fq_of e1, fq_of e2, htp, ht2])).mpr (w_sk2.mpr ?_))
  refine w_sqN (w_pMe 0 hn rfl (by rw [q_icst]; exact ⟨rfl, rfl⟩) ⟨rfl, ?_⟩)
  refine w_sqN (w_pMe (nI n) hn rfl (ev_ld rfl) ⟨rfl, ?_⟩)
  refine w_sqN (w_pMe 0 hn rfl (by rw [q_icst]; exact ⟨rfl, rfl⟩) ⟨rfl, ?_⟩)
  refine w_sqN (w_pMe 0 hn rfl (by rw [q_icst]; exact ⟨rfl, rfl⟩) ⟨rfl, ?_⟩)
  have f0 : Fr SFe h (wI (wI (wI (wI h 166 21 0) 166 22 (nI n)) 166 25 0) 166 27 0) := ((((Fr.refl h).w (by unfold SFe; omega)).w (by unfold SFe; omega)).w (by unfold SFe; omega)).w (by unfold SFe; omega)
  have g0 : MCs s n (wI (wI (wI (wI h 166 21 0) 166 22 (nI n)) 166 25 0) 166 27 0) 0 ([] : List Cl).length [] := ⟨⟨hn, hm, by simp [wI_i], n160, fun p hp => by simpa [wI_i] using hb p hp, hs, hz⟩, by simp [wI_i]; rfl, by simp [wI_i]; rfl, (fun i x z => by simp at z), (fun x z => by simp at z), by simp [wI_i]; rfl, by omega, by simp⟩
  generalize wI (wI (wI (wI h 166 21 0) 166 22 (nI n)) 166 25 0) 166 27 0 = h1 at *
  have hn1 : h1.1 = 212 := f0.1.trans hn
  obtain ⟨r, h2, e3, v, m', rfl, -, z⟩ := m_lawc (h0 := h1) (A := []) (V := V) (Fr.refl h1) (by simp) g0 rfl rfl (fun j x z => by simp at z) (by rw [← hV]; show _ = cmL [] (lawP s n 13 0 0 0); cases lawP s n 13 0 0 0 <;> rfl)
  refine w_sqN (w_sIh (E' := [.ref 166, .int (nI l), .int (nI n), .int v, junk, junk]) v h2 (by simp only [f_mkF, w_sI, w_sR, w_sL, w_sC, w_sk, w_sbr, w_sco, w_rV, w_rI, w_rR, w_rL, w_dI, w_sO, w_sq, w_si, w_pI, w_pZ, w_pR, w_pU, w_qI, w_qB, w_qZ, w_qU, w_qR, w_kV, q_icst, q_lcst, q_xR, q_ldI, q_ldR, q_ldL, q_bn, q_un, q_dv, q_fI, q_fR, q_aI, q_aR, q_aN, q_tn, q_cmp, q_cmz, q_cnt, q_ctt, q_cand, q_cor, q_vn, q_vI, q_vR, q_vL, q_kI, q_kR, q_kL, q_ckI, envN, argE, List.flatMap_cons, List.flatMap_nil, Value.category, junk, oadd, osub, omul, oand, oor, oxor, odiv, orem, oshl, oshr, oushr, omax, omin]; simp (disch := first | omega | simp) [rk_i, rk_b, rk_o, st1, kill, Value.category, rcv, nog, hn1, ly166, fq_of e3]) rfl ⟨rfl, ?_⟩)
  refine w_sqN (wp_mono (m_loopl (l := l) (n := n) z) ?_)
  rintro o vv E3 h3 ⟨rfl, v', rfl, f3, zz⟩
  refine ⟨rfl, ?_⟩
  have hn3 : h3.1 = 212 := f3.1.trans hn1
  have hm3 : PM h3.2.2 := by rw [f3.2.1, f0.2.1]; exact hm
  refine w_sqN (w_pMe 0 hn3 rfl (by rw [q_icst]; exact ⟨rfl, rfl⟩) ⟨rfl, ?_⟩)
  have f4 : Fr SFe h (wI h3 166 20 0) := (f0.trans (f3.sub fun a k z => by unfold SMc2 SMr at z; unfold SFe; omega)).w (by unfold SFe; omega)
  rcases zz with ⟨rfl, A, L, rfl, i1, i2, i3, i4, i5, i6, i7, i8, i9⟩ | ⟨rfl, f, rfl, i2⟩
  · refine w_sq.mpr ((w_siF (by simp only [f_mkF, w_sI, w_sR, w_sL, w_sC, w_sk, w_sbr, w_sco, w_rV, w_rI, w_rR, w_rL, w_dI, w_sO, w_sq, w_si, w_pI, w_pZ, w_pR, w_pU, w_qI, w_qB, w_qZ, w_qU, w_qR, w_kV, q_icst, q_lcst, q_xR, q_ldI, q_ldR, q_ldL, q_bn, q_un, q_dv, q_fI, q_fR, q_aI, q_aR, q_aN, q_tn, q_cmp, q_cmz, q_cnt, q_ctt, q_cand, q_cor, q_vn, q_vI, q_vR, q_vL, q_kI, q_kR, q_kL, q_ckI, envN, argE, List.flatMap_cons, List.flatMap_nil, Value.category, junk, oadd, osub, omul, oand, oor, oxor, odiv, orem, oshl, oshr, oushr, omax, omin]; simp (disch := first | omega | simp) [rk_i, rk_b, rk_o, st1, kill, Value.category, rcv, nog])).mpr (w_sk2.mpr ?_))
    have j1 : (wI h3 166 20 0).2.1 166 25 = nI L.length := by simp [wI_i, i2]
    have j2 : (wI h3 166 20 0).2.1 166 27 = nI A.length := by simp [wI_i, i3]
    have j3 : ARr ((wI h3 166 20 0).2.1 184) L := i4.c fun i _ => by simp [wI_i]
    have j4 : CLM (wI h3 166 20 0) A := fun j x hx => by have := i8 j x hx; simpa [wI_i] using this
    have j5 : (wI h3 166 20 0).2.1 166 20 = 0 := by simp [wI_i]
    generalize wI h3 166 20 0 = h4 at *
    have hn4 : h4.1 = 212 := f4.1.trans hn
    have hm4 : PM h4.2.2 := by rw [f4.2.1]; exact hm
    have p35 : h4.2.2 166 35 = some 190 := hm4 35
    refine w_sqN (w_qIe 190 l (nI A.length) (by simp only [f_mkF, w_sI, w_sR, w_sL, w_sC, w_sk, w_sbr, w_sco, w_rV, w_rI, w_rR, w_rL, w_dI, w_sO, w_sq, w_si, w_pI, w_pZ, w_pR, w_pU, w_qI, w_qB, w_qZ, w_qU, w_qR, w_kV, q_icst, q_lcst, q_xR, q_ldI, q_ldR, q_ldL, q_bn, q_un, q_dv, q_fI, q_fR, q_aI, q_aR, q_aN, q_tn, q_cmp, q_cmz, q_cnt, q_ctt, q_cand, q_cor, q_vn, q_vI, q_vR, q_vL, q_kI, q_kR, q_kL, q_ckI, envN, argE, List.flatMap_cons, List.flatMap_nil, Value.category, junk, oadd, osub, omul, oand, oor, oxor, odiv, orem, oshl, oshr, oushr, omax, omin]; simp (disch := first | omega | simp) [rk_i, rk_b, rk_o, st1, kill, Value.category, rcv, nog, hn4, ly166, p35]) (ev_ld rfl) (ev_fM hn4 rfl j2) (by omega) ly190 hl (by omega) ⟨rfl, ?_⟩)
    sorry
  · have v23 : (wI h3 166 20 0).2.1 166 23 = -(nI f) := by simp [wI_i, i2]
    have v20 : (wI h3 166 20 0).2.1 166 20 = 0 := by simp [wI_i]
    generalize wI h3 166 20 0 = h4 at *
    have hn4 : h4.1 = 212 := f4.1.trans hn
    simp only [f_mkF, w_sI, w_sR, w_sL, w_sC, w_sk, w_sbr, w_sco, w_rV, w_rI, w_rR, w_rL, w_dI, w_sO, w_sq, w_si, w_pI, w_pZ, w_pR, w_pU, w_qI, w_qB, w_qZ, w_qU, w_qR, w_kV, q_icst, q_lcst, q_xR, q_ldI, q_ldR, q_ldL, q_bn, q_un, q_dv, q_fI, q_fR, q_aI, q_aR, q_aN, q_tn, q_cmp, q_cmz, q_cnt, q_ctt, q_cand, q_cor, q_vn, q_vI, q_vR, q_vL, q_kI, q_kR, q_kL, q_ckI, envN, argE, List.flatMap_cons, List.flatMap_nil, Value.category, junk, oadd, osub, omul, oand, oor, oxor, odiv, orem, oshl, oshr, oushr, omax, omin]
    simp (disch := first | omega | simp) [rk_i, rk_b, rk_o, st1, kill, Value.category, rcv, nog, hn4, ly166, v23]
    exact ⟨rfl, v20, f4⟩
