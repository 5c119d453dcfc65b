/-! the reference's law -/
theorem m_law {s : Nat → Nat} {h : Hp} (hn : h.1 = 212) (hm : PM h.2.2) {l n tp : Nat} (hl : l < 6) (n1 : 1 ≤ n) (n160 : n ≤ 160) (htp : h.2.1 166 20 = nI tp) (ht2 : n ≤ tp) (ht3 : tp ≤ 200) (hb : ∀ p, p < n → oand (h.2.1 183 p) 255 = nI (s p)) (hs : ∀ p, s p < 256) (hz : ∀ p, n ≤ p → s p = 0) : fq F_X11_law [.ref 166, .int (nI l), .int (nI n)] h fun r h' => r = some (.int (ansP (lawP s n 13 0 0 0))) ∧ h'.2.1 166 20 = 0 ∧ OMl l (lawP s n 13 0 0 0) h h' := by
  generalize hV : lawP s n 13 0 0 0 = V
  unfold F_X11_law
  refine f_mkE [.ref 166, .int (nI l), .int (nI n), junk, junk, junk] rfl (by simp [argE, Value.category]) ?_
  have e1 := e_m_isLand (nI l) h
  rw [b2_1.mpr ⟨nI_0le (by omega), (nI_leI (a := l) (b := 5) (by omega) (by omega)).mpr (by omega)⟩] at e1
  have e2 := e_m_in (nI n) 1 160 h
  rw [b2_1.mpr ⟨nI_1le n1 (by omega), (nI_leI (a := n) (b := 160) (by omega) (by omega)).mpr (by omega)⟩] at e2
  refine w_sq.mpr ((w_siF (by simp only [f_mkF, w_sI, w_sR, w_sL, w_sC, w_sk, w_sbr, w_sco, w_rV, w_rI, w_rR, w_rL, w_dI, w_sO, w_sq, w_si, w_pI, w_pZ, w_pR, w_pU, w_qI, w_qB, w_qZ, w_qU, w_qR, w_kV, q_icst, q_lcst, q_xR, q_ldI, q_ldR, q_ldL, q_bn, q_un, q_dv, q_fI, q_fR, q_aI, q_aR, q_aN, q_tn, q_cmp, q_cmz, q_cnt, q_ctt, q_cand, q_cor, q_vn, q_vI, q_vR, q_vL, q_kI, q_kR, q_kL, q_ckI, envN, argE, List.flatMap_cons, List.flatMap_nil, Value.category, junk, oadd, osub, omul, oand, oor, oxor, odiv, orem, oshl, oshr, oushr, omax, omin]; simp (disch := first | omega | simp) [rk_i, rk_b, rk_o, st1, kill, Value.category, rcv, nog, inI_b, nI_clamp, nI_ltI, nI_leI, nI_eq, nI_9, nI_6, nI_22, nI_12, nI_180, nI_add, nI_1, hn, ly166, fq_of e1, fq_of e2, htp, ht2])).mpr (w_sk2.mpr ?_))
  refine w_sqN (w_pMe 0 hn rfl (by rw [q_icst]; exact ⟨rfl, rfl⟩) ⟨rfl, ?_⟩)
  refine w_sqN (w_pMe (nI n) hn rfl (ev_ld rfl) ⟨rfl, ?_⟩)
  refine w_sqN (w_pMe 0 hn rfl (by rw [q_icst]; exact ⟨rfl, rfl⟩) ⟨rfl, ?_⟩)
  refine w_sqN (w_pMe 0 hn rfl (by rw [q_icst]; exact ⟨rfl, rfl⟩) ⟨rfl, ?_⟩)
  have f0 : Fr SFe h (wI (wI (wI (wI h 166 21 0) 166 22 (nI n)) 166 25 0) 166 27 0) := ((((Fr.refl h).w (by unfold SFe; omega)).w (by unfold SFe; omega)).w (by unfold SFe; omega)).w (by unfold SFe; omega)
  have g0 : MCs s n (wI (wI (wI (wI h 166 21 0) 166 22 (nI n)) 166 25 0) 166 27 0) 0 ([] : List Cl).length [] := ⟨⟨hn, hm, by simp [wI_i], n160, fun p hp => by simpa [wI_i] using hb p hp, hs, hz⟩, by simp [wI_i]; rfl, by simp [wI_i]; rfl, (fun i x z => by simp at z), (fun x z => by simp at z), by simp [wI_i]; rfl, by omega, by simp⟩
  generalize wI (wI (wI (wI h 166 21 0) 166 22 (nI n)) 166 25 0) 166 27 0 = h1 at *
  have hn1 : h1.1 = 212 := f0.1.trans hn
  obtain ⟨r, h2, e3, v, m', rfl, -, z⟩ := m_lawc (h0 := h1) (A := []) (V := V) (Fr.refl h1) (by simp) g0 rfl rfl (fun j x z => by simp at z) (by rw [← hV]; show _ = cmL [] (lawP s n 13 0 0 0); cases lawP s n 13 0 0 0 <;> rfl)
  refine w_sqN (w_sIh (E' := [.ref 166, .int (nI l), .int (nI n), .int v, junk, junk]) v h2 (by simp only [f_mkF, w_sI, w_sR, w_sL, w_sC, w_sk, w_sbr, w_sco, w_rV, w_rI, w_rR, w_rL, w_dI, w_sO, w_sq, w_si, w_pI, w_pZ, w_pR, w_pU, w_qI, w_qB, w_qZ, w_qU, w_qR, w_kV, q_icst, q_lcst, q_xR, q_ldI, q_ldR, q_ldL, q_bn, q_un, q_dv, q_fI, q_fR, q_aI, q_aR, q_aN, q_tn, q_cmp, q_cmz, q_cnt, q_ctt, q_cand, q_cor, q_vn, q_vI, q_vR, q_vL, q_kI, q_kR, q_kL, q_ckI, envN, argE, List.flatMap_cons, List.flatMap_nil, Value.category, junk, oadd, osub, omul, oand, oor, oxor, odiv, orem, oshl, oshr, oushr, omax, omin]; simp (disch := first | omega | simp) [rk_i, rk_b, rk_o, st1, kill, Value.category, rcv, nog, hn1, ly166, fq_of e3]) rfl ⟨rfl, ?_⟩)
  refine w_sqN (wp_mono (m_loopl (l := l) (n := n) z) ?_)
  rintro o vv E3 h3 ⟨rfl, v', rfl, f3, zz⟩
  refine ⟨rfl, ?_⟩
  have hn3 : h3.1 = 212 := f3.1.trans hn1
  have hm3 : PM h3.2.2 := by rw [f3.2.1, f0.2.1]; exact hm
  refine w_sqN (w_pMe 0 hn3 rfl (by rw [q_icst]; exact ⟨rfl, rfl⟩) ⟨rfl, ?_⟩)
  have f4 : Fr SFe h (wI h3 166 20 0) := (f0.trans (f3.sub fun a k z => by unfold SMc2 SMr at z; unfold SFe; omega)).w (by unfold SFe; omega)
  rcases zz with ⟨rfl, A, L, rfl, i1, i2, i3, i4, i5, i6, i7, i8, i9⟩ | ⟨rfl, f, rfl, i2⟩
  · refine w_sq.mpr ((w_siF (by simp only [f_mkF, w_sI, w_sR, w_sL, w_sC, w_sk, w_sbr, w_sco, w_rV, w_rI, w_rR, w_rL, w_dI, w_sO, w_sq, w_si, w_pI, w_pZ, w_pR, w_pU, w_qI, w_qB, w_qZ, w_qU, w_qR, w_kV, q_icst, q_lcst, q_xR, q_ldI, q_ldR, q_ldL, q_bn, q_un, q_dv, q_fI, q_fR, q_aI, q_aR, q_aN, q_tn, q_cmp, q_cmz, q_cnt, q_ctt, q_cand, q_cor, q_vn, q_vI, q_vR, q_vL, q_kI, q_kR, q_kL, q_ckI, envN, argE, List.flatMap_cons, List.flatMap_nil, Value.category, junk, oadd, osub, omul, oand, oor, oxor, odiv, orem, oshl, oshr, oushr, omax, omin]; simp (disch := first | omega | simp) [rk_i, rk_b, rk_o, st1, kill, Value.category, rcv, nog])).mpr (w_sk2.mpr ?_))
    have j1 : (wI h3 166 20 0).2.1 166 25 = nI L.length := by simp [wI_i, i2]
    have j2 : (wI h3 166 20 0).2.1 166 27 = nI A.length := by simp [wI_i, i3]
    have j3 : ARr ((wI h3 166 20 0).2.1 184) L := i4.c fun i _ => by simp [wI_i]
    have j4 : CLM (wI h3 166 20 0) A := fun j x hx => by have := i8 j x hx; simpa [wI_i] using this
    have j5 : (wI h3 166 20 0).2.1 166 20 = 0 := by simp [wI_i]
    generalize wI h3 166 20 0 = h4 at *
    have hn4 : h4.1 = 212 := f4.1.trans hn
    have hm4 : PM h4.2.2 := by rw [f4.2.1]; exact hm
    have p35 : h4.2.2 166 35 = some 190 := hm4 35
    refine w_sqN (w_qIe 190 l (nI A.length) (by simp only [f_mkF, w_sI, w_sR, w_sL, w_sC, w_sk, w_sbr, w_sco, w_rV, w_rI, w_rR, w_rL, w_dI, w_sO, w_sq, w_si, w_pI, w_pZ, w_pR, w_pU, w_qI, w_qB, w_qZ, w_qU, w_qR, w_kV, q_icst, q_lcst, q_xR, q_ldI, q_ldR, q_ldL, q_bn, q_un, q_dv, q_fI, q_fR, q_aI, q_aR, q_aN, q_tn, q_cmp, q_cmz, q_cnt, q_ctt, q_cand, q_cor, q_vn, q_vI, q_vR, q_vL, q_kI, q_kR, q_kL, q_ckI, envN, argE, List.flatMap_cons, List.flatMap_nil, Value.category, junk, oadd, osub, omul, oand, oor, oxor, odiv, orem, oshl, oshr, oushr, omax, omin]; simp (disch := first | omega | simp) [rk_i, rk_b, rk_o, st1, kill, Value.category, rcv, nog, hn4, ly166, p35]) (ev_ld rfl) (ev_fM hn4 rfl j2) (by omega) ly190 hl (by omega) ⟨rfl, ?_⟩)
    obtain ⟨h5, hh5⟩ : ∃ h5, h5 = wI h4 190 l (nI A.length) := ⟨_, rfl⟩
    rw [← hh5]
    have f5 : Fr (SFm l) h h5 := by rw [hh5]; exact (f4.sub fun a k z => by unfold SFe at z; unfold SFm; omega).w (by unfold SFm; omega)
    have v190 : h5.2.1 190 l = nI A.length := by rw [hh5]; simp [wI_i]
    have u1 : h5.2.1 166 25 = nI L.length := by rw [hh5]; simp [wI_i, j1]
    have u2 : h5.2.1 166 27 = nI A.length := by rw [hh5]; simp [wI_i, j2]
    have u3 : ARr (h5.2.1 184) L := by rw [hh5]; exact j3.c fun i _ => by simp [wI_i]
    have u4 : CLM h5 A := by rw [hh5]; exact fun j x hx => by have := j4 j x hx; simpa [wI_i] using this
    have u5 : h5.2.1 166 20 = 0 := by rw [hh5]; simp [wI_i, j5]
    clear hh5
    have hn5 : h5.1 = 212 := f5.1.trans hn
    have hm5 : PM h5.2.2 := by rw [f5.2.1]; exact hm
    refine w_sqS (fun E1 h6 => E1 = [.ref 166, .int (nI l), .int (nI n), .int 1, .int (nI L.length), junk] ∧ Fr (fun a k => a = 189 ∧ 180 * l ≤ k ∧ k < 180 * l + 180) h5 h6 ∧ ∀ i, i < L.length → h6.2.1 189 (180 * l + i) = h5.2.1 184 i) ?_ ?_
    · refine w_sqN (w_sIe (E' := [.ref 166, .int (nI l), .int (nI n), .int 1, .int (nI 0), junk]) (nI 0) (by rw [q_icst]; exact ⟨rfl, rfl⟩) rfl ⟨rfl, ?_⟩)
      refine w_for (lo := 0) (hi := L.length) (fun j E h' => E = [.ref 166, .int (nI l), .int (nI n), .int 1, .int (nI j), junk] ∧ Fr (fun a k => a = 189 ∧ 180 * l ≤ k ∧ k < 180 * l + 180) h5 h' ∧ ∀ i, i < j → h'.2.1 189 (180 * l + i) = h5.2.1 184 i) (fun j E h' => E = [.ref 166, .int (nI l), .int (nI n), .int 1, .int (nI j), junk] ∧ Fr (fun a k => a = 189 ∧ 180 * l ≤ k ∧ k < 180 * l + 180) h5 h' ∧ ∀ i, i < j + 1 → h'.2.1 189 (180 * l + i) = h5.2.1 184 i) (by omega) ⟨rfl, Fr.refl h5, fun i hi => by omega⟩ ?_ ?_
      · rintro j E h' x1 x2 ⟨rfl, y1, y2⟩
        have hn' : h'.1 = 212 := y1.1.trans hn5
        have hm' : PM h'.2.2 := by rw [y1.2.1]; exact hm5
        have w25 : h'.2.1 166 25 = nI L.length := by rw [y1.2.2 166 25 (by omega)]; exact u1
        by_cases cj : j < L.length
        · refine ev_T (by simp only [f_mkF, w_sI, w_sR, w_sL, w_sC, w_sk, w_sbr, w_sco, w_rV, w_rI, w_rR, w_rL, w_dI, w_sO, w_sq, w_si, w_pI, w_pZ, w_pR, w_pU, w_qI, w_qB, w_qZ, w_qU, w_qR, w_kV, q_icst, q_lcst, q_xR, q_ldI, q_ldR, q_ldL, q_bn, q_un, q_dv, q_fI, q_fR, q_aI, q_aR, q_aN, q_tn, q_cmp, q_cmz, q_cnt, q_ctt, q_cand, q_cor, q_vn, q_vI, q_vR, q_vL, q_kI, q_kR, q_kL, q_ckI, envN, argE, List.flatMap_cons, List.flatMap_nil, Value.category, junk, oadd, osub, omul, oand, oor, oxor, odiv, orem, oshl, oshr, oushr, omax, omin]; simp (disch := first | omega | simp) [rk_i, rk_b, rk_o, st1, kill, Value.category, rcv, nog, inI_b, nI_clamp, nI_ltI, nI_leI, nI_eq, nI_9, nI_6, nI_22, nI_12, nI_180, nI_add, nI_1, hn', ly166, w25, cj]) ⟨rfl, fun _ => ⟨cj, ?_⟩, fun z => by cases z⟩
          have p34 : h'.2.2 166 34 = some 189 := hm' 34
          have p29 : h'.2.2 166 29 = some 184 := hm' 29
          have j180 : j < 180 := by omega
          refine w_qIe 189 (180 * l + j) (h'.2.1 184 j) (by simp only [f_mkF, w_sI, w_sR, w_sL, w_sC, w_sk, w_sbr, w_sco, w_rV, w_rI, w_rR, w_rL, w_dI, w_sO, w_sq, w_si, w_pI, w_pZ, w_pR, w_pU, w_qI, w_qB, w_qZ, w_qU, w_qR, w_kV, q_icst, q_lcst, q_xR, q_ldI, q_ldR, q_ldL, q_bn, q_un, q_dv, q_fI, q_fR, q_aI, q_aR, q_aN, q_tn, q_cmp, q_cmz, q_cnt, q_ctt, q_cand, q_cor, q_vn, q_vI, q_vR, q_vL, q_kI, q_kR, q_kL, q_ckI, envN, argE, List.flatMap_cons, List.flatMap_nil, Value.category, junk, oadd, osub, omul, oand, oor, oxor, odiv, orem, oshl, oshr, oushr, omax, omin]; simp (disch := first | omega | simp) [rk_i, rk_b, rk_o, st1, kill, Value.category, rcv, nog, hn', ly166, p34]) (by simp only [f_mkF, w_sI, w_sR, w_sL, w_sC, w_sk, w_sbr, w_sco, w_rV, w_rI, w_rR, w_rL, w_dI, w_sO, w_sq, w_si, w_pI, w_pZ, w_pR, w_pU, w_qI, w_qB, w_qZ, w_qU, w_qR, w_kV, q_icst, q_lcst, q_xR, q_ldI, q_ldR, q_ldL, q_bn, q_un, q_dv, q_fI, q_fR, q_aI, q_aR, q_aN, q_tn, q_cmp, q_cmz, q_cnt, q_ctt, q_cand, q_cor, q_vn, q_vI, q_vR, q_vL, q_kI, q_kR, q_kL, q_ckI, envN, argE, List.flatMap_cons, List.flatMap_nil, Value.category, junk, oadd, osub, omul, oand, oor, oxor, odiv, orem, oshl, oshr, oushr, omax, omin]; simp (disch := first | omega | simp) [rk_i, rk_b, rk_o, st1, kill, Value.category, rcv, nog, inI_b, nI_clamp, nI_ltI, nI_leI, nI_eq, nI_9, nI_6, nI_22, nI_12, nI_180, nI_add, nI_1]) (by simp only [f_mkF, w_sI, w_sR, w_sL, w_sC, w_sk, w_sbr, w_sco, w_rV, w_rI, w_rR, w_rL, w_dI, w_sO, w_sq, w_si, w_pI, w_pZ, w_pR, w_pU, w_qI, w_qB, w_qZ, w_qU, w_qR, w_kV, q_icst, q_lcst, q_xR, q_ldI, q_ldR, q_ldL, q_bn, q_un, q_dv, q_fI, q_fR, q_aI, q_aR, q_aN, q_tn, q_cmp, q_cmz, q_cnt, q_ctt, q_cand, q_cor, q_vn, q_vI, q_vR, q_vL, q_kI, q_kR, q_kL, q_ckI, envN, argE, List.flatMap_cons, List.flatMap_nil, Value.category, junk, oadd, osub, omul, oand, oor, oxor, odiv, orem, oshl, oshr, oushr, omax, omin]; simp (disch := first | omega | simp) [rk_i, rk_b, rk_o, st1, kill, Value.category, rcv, nog, inI_b, nI_clamp, nI_ltI, nI_leI, nI_eq, nI_9, nI_6, nI_22, nI_12, nI_180, nI_add, nI_1, hn', ly166, ly184, p29, j180]) (by omega) ly189 (by omega) (by omega) ⟨rfl, rfl, y1.w ⟨rfl, by omega, by omega⟩, fun i hi => ?_⟩
          rw [wI_i]
          by_cases ci : i = j
          · rw [if_pos ⟨rfl, by omega⟩, ci]; exact y1.2.2 184 j (by omega)
          · rw [if_neg (by omega)]; exact y2 i (by omega)
        · have ej : j = L.length := by omega
          subst ej
          exact ev_F (by simp only [f_mkF, w_sI, w_sR, w_sL, w_sC, w_sk, w_sbr, w_sco, w_rV, w_rI, w_rR, w_rL, w_dI, w_sO, w_sq, w_si, w_pI, w_pZ, w_pR, w_pU, w_qI, w_qB, w_qZ, w_qU, w_qR, w_kV, q_icst, q_lcst, q_xR, q_ldI, q_ldR, q_ldL, q_bn, q_un, q_dv, q_fI, q_fR, q_aI, q_aR, q_aN, q_tn, q_cmp, q_cmz, q_cnt, q_ctt, q_cand, q_cor, q_vn, q_vI, q_vR, q_vL, q_kI, q_kR, q_kL, q_ckI, envN, argE, List.flatMap_cons, List.flatMap_nil, Value.category, junk, oadd, osub, omul, oand, oor, oxor, odiv, orem, oshl, oshr, oushr, omax, omin]; simp (disch := first | omega | simp) [rk_i, rk_b, rk_o, st1, kill, Value.category, rcv, nog, inI_b, nI_clamp, nI_ltI, nI_leI, nI_eq, nI_9, nI_6, nI_22, nI_12, nI_180, nI_add, nI_1, hn', ly166, w25]) ⟨rfl, (fun z => by cases z), fun _ => ⟨rfl, rfl, y1, y2⟩⟩
      · rintro j E h' x1 x2 ⟨rfl, y1, y2⟩
        exact ⟨rfl, rfl, y1, y2⟩
    rintro E6 h6 ⟨rfl, f6, y6⟩
    have hn6 : h6.1 = 212 := f6.1.trans hn5
    have hm6 : PM h6.2.2 := by rw [f6.2.1]; exact hm5
    refine w_sqS (fun E1 h7 => E1[0]? = some (.ref 166) ∧ Fr (fun a k => (a = 191 ∨ a = 192 ∨ a = 193) ∧ 12 * l ≤ k ∧ k < 12 * l + 12) h6 h7 ∧ ∀ i, i < A.length → h7.2.1 191 (12 * l + i) = h6.2.1 186 i ∧ h7.2.1 192 (12 * l + i) = nI (180 * l) + h6.2.1 187 i ∧ h7.2.1 193 (12 * l + i) = nI (180 * l) + h6.2.1 188 i) ?_ ?_
    · refine w_sqN (w_sIe (E' := [.ref 166, .int (nI l), .int (nI n), .int 1, .int (nI 0), junk]) (nI 0) (by rw [q_icst]; exact ⟨rfl, rfl⟩) rfl ⟨rfl, ?_⟩)
      refine w_for (lo := 0) (hi := A.length) (fun j E h' => (E = [.ref 166, .int (nI l), .int (nI n), .int 1, .int (nI j), junk] ∨ ∃ x, E = [.ref 166, .int (nI l), .int (nI n), .int 1, .int (nI j), .int x]) ∧ Fr (fun a k => (a = 191 ∨ a = 192 ∨ a = 193) ∧ 12 * l ≤ k ∧ k < 12 * l + 12) h6 h' ∧ ∀ i, i < j → h'.2.1 191 (12 * l + i) = h6.2.1 186 i ∧ h'.2.1 192 (12 * l + i) = nI (180 * l) + h6.2.1 187 i ∧ h'.2.1 193 (12 * l + i) = nI (180 * l) + h6.2.1 188 i) (fun j E h' => (∃ x, E = [.ref 166, .int (nI l), .int (nI n), .int 1, .int (nI j), .int x]) ∧ Fr (fun a k => (a = 191 ∨ a = 192 ∨ a = 193) ∧ 12 * l ≤ k ∧ k < 12 * l + 12) h6 h' ∧ ∀ i, i < j + 1 → h'.2.1 191 (12 * l + i) = h6.2.1 186 i ∧ h'.2.1 192 (12 * l + i) = nI (180 * l) + h6.2.1 187 i ∧ h'.2.1 193 (12 * l + i) = nI (180 * l) + h6.2.1 188 i) (by omega) ⟨Or.inl rfl, Fr.refl h6, fun i hi => by omega⟩ ?_ ?_
      · rintro j E h' x1 x2 ⟨hE, y1, y2⟩
        have hn' : h'.1 = 212 := y1.1.trans hn6
        have hm' : PM h'.2.2 := by rw [y1.2.1]; exact hm6
        have w27 : h'.2.1 166 27 = nI A.length := by rw [y1.2.2 166 27 (by omega), f6.2.2 166 27 (by omega)]; exact u2
        have hE0 : E[0]? = some (.ref 166) := by rcases hE with rfl | ⟨x, rfl⟩ <;> rfl
        have hE1 : E[1]? = some (.int (nI l)) := by rcases hE with rfl | ⟨x, rfl⟩ <;> rfl
        have hE4 : E[4]? = some (.int (nI j)) := by rcases hE with rfl | ⟨x, rfl⟩ <;> rfl
        have hE5 : st1 E 5 (.int (nI (12 * l + j))) = [.ref 166, .int (nI l), .int (nI n), .int 1, .int (nI j), .int (nI (12 * l + j))] := by rcases hE with rfl | ⟨x, rfl⟩ <;> rfl
        by_cases cj : j < A.length
        · refine ev_T (by simp only [f_mkF, w_sI, w_sR, w_sL, w_sC, w_sk, w_sbr, w_sco, w_rV, w_rI, w_rR, w_rL, w_dI, w_sO, w_sq, w_si, w_pI, w_pZ, w_pR, w_pU, w_qI, w_qB, w_qZ, w_qU, w_qR, w_kV, q_icst, q_lcst, q_xR, q_ldI, q_ldR, q_ldL, q_bn, q_un, q_dv, q_fI, q_fR, q_aI, q_aR, q_aN, q_tn, q_cmp, q_cmz, q_cnt, q_ctt, q_cand, q_cor, q_vn, q_vI, q_vR, q_vL, q_kI, q_kR, q_kL, q_ckI, envN, argE, List.flatMap_cons, List.flatMap_nil, Value.category, junk, oadd, osub, omul, oand, oor, oxor, odiv, orem, oshl, oshr, oushr, omax, omin]; simp (disch := first | omega | simp) [rk_i, rk_b, rk_o, st1, kill, Value.category, rcv, nog, inI_b, nI_clamp, nI_ltI, nI_leI, nI_eq, nI_9, nI_6, nI_22, nI_12, nI_180, nI_add, nI_1, hn', ly166, w27, cj, hE0, hE4]) ⟨rfl, fun _ => ⟨cj, ?_⟩, fun z => by cases z⟩
          have p31 : h'.2.2 166 31 = some 186 := hm' 31
          have p32 : h'.2.2 166 32 = some 187 := hm' 32
          have p33 : h'.2.2 166 33 = some 188 := hm' 33
          have p36 : h'.2.2 166 36 = some 191 := hm' 36
          have p37 : h'.2.2 166 37 = some 192 := hm' 37
          have p38 : h'.2.2 166 38 = some 193 := hm' 38
          have j12 : j < 12 := by omega
          refine w_sqI (E' := [.ref 166, .int (nI l), .int (nI n), .int 1, .int (nI j), .int (nI (12 * l + j))]) (nI (12 * l + j)) (by simp only [f_mkF, w_sI, w_sR, w_sL, w_sC, w_sk, w_sbr, w_sco, w_rV, w_rI, w_rR, w_rL, w_dI, w_sO, w_sq, w_si, w_pI, w_pZ, w_pR, w_pU, w_qI, w_qB, w_qZ, w_qU, w_qR, w_kV, q_icst, q_lcst, q_xR, q_ldI, q_ldR, q_ldL, q_bn, q_un, q_dv, q_fI, q_fR, q_aI, q_aR, q_aN, q_tn, q_cmp, q_cmz, q_cnt, q_ctt, q_cand, q_cor, q_vn, q_vI, q_vR, q_vL, q_kI, q_kR, q_kL, q_ckI, envN, argE, List.flatMap_cons, List.flatMap_nil, Value.category, junk, oadd, osub, omul, oand, oor, oxor, odiv, orem, oshl, oshr, oushr, omax, omin]; simp (disch := first | omega | simp) [rk_i, rk_b, rk_o, st1, kill, Value.category, rcv, nog, inI_b, nI_clamp, nI_ltI, nI_leI, nI_eq, nI_9, nI_6, nI_22, nI_12, nI_180, nI_add, nI_1, hE1, hE4]) hE5 ?_
          refine w_sqN (w_qIe 191 (12 * l + j) (h'.2.1 186 j) (by simp only [f_mkF, w_sI, w_sR, w_sL, w_sC, w_sk, w_sbr, w_sco, w_rV, w_rI, w_rR, w_rL, w_dI, w_sO, w_sq, w_si, w_pI, w_pZ, w_pR, w_pU, w_qI, w_qB, w_qZ, w_qU, w_qR, w_kV, q_icst, q_lcst, q_xR, q_ldI, q_ldR, q_ldL, q_bn, q_un, q_dv, q_fI, q_fR, q_aI, q_aR, q_aN, q_tn, q_cmp, q_cmz, q_cnt, q_ctt, q_cand, q_cor, q_vn, q_vI, q_vR, q_vL, q_kI, q_kR, q_kL, q_ckI, envN, argE, List.flatMap_cons, List.flatMap_nil, Value.category, junk, oadd, osub, omul, oand, oor, oxor, odiv, orem, oshl, oshr, oushr, omax, omin]; simp (disch := first | omega | simp) [rk_i, rk_b, rk_o, st1, kill, Value.category, rcv, nog, hn', ly166, p36]) (ev_ld rfl) (by simp only [f_mkF, w_sI, w_sR, w_sL, w_sC, w_sk, w_sbr, w_sco, w_rV, w_rI, w_rR, w_rL, w_dI, w_sO, w_sq, w_si, w_pI, w_pZ, w_pR, w_pU, w_qI, w_qB, w_qZ, w_qU, w_qR, w_kV, q_icst, q_lcst, q_xR, q_ldI, q_ldR, q_ldL, q_bn, q_un, q_dv, q_fI, q_fR, q_aI, q_aR, q_aN, q_tn, q_cmp, q_cmz, q_cnt, q_ctt, q_cand, q_cor, q_vn, q_vI, q_vR, q_vL, q_kI, q_kR, q_kL, q_ckI, envN, argE, List.flatMap_cons, List.flatMap_nil, Value.category, junk, oadd, osub, omul, oand, oor, oxor, odiv, orem, oshl, oshr, oushr, omax, omin]; simp (disch := first | omega | simp) [rk_i, rk_b, rk_o, st1, kill, Value.category, rcv, nog, inI_b, nI_clamp, nI_ltI, nI_leI, nI_eq, nI_9, nI_6, nI_22, nI_12, nI_180, nI_add, nI_1, hn', ly166, ly186, p31, j12]) (by omega) ly191 (by omega) (by omega) ⟨rfl, ?_⟩)
          refine w_sqN (w_qIe 192 (12 * l + j) (nI (180 * l) + h'.2.1 187 j) (by simp only [f_mkF, w_sI, w_sR, w_sL, w_sC, w_sk, w_sbr, w_sco, w_rV, w_rI, w_rR, w_rL, w_dI, w_sO, w_sq, w_si, w_pI, w_pZ, w_pR, w_pU, w_qI, w_qB, w_qZ, w_qU, w_qR, w_kV, q_icst, q_lcst, q_xR, q_ldI, q_ldR, q_ldL, q_bn, q_un, q_dv, q_fI, q_fR, q_aI, q_aR, q_aN, q_tn, q_cmp, q_cmz, q_cnt, q_ctt, q_cand, q_cor, q_vn, q_vI, q_vR, q_vL, q_kI, q_kR, q_kL, q_ckI, envN, argE, List.flatMap_cons, List.flatMap_nil, Value.category, junk, oadd, osub, omul, oand, oor, oxor, odiv, orem, oshl, oshr, oushr, omax, omin]; simp (disch := first | omega | simp) [rk_i, rk_b, rk_o, st1, kill, Value.category, rcv, nog, wI_1, wI_r, nI_1, hn', ly166, p37]) (ev_ld rfl) (by simp only [f_mkF, w_sI, w_sR, w_sL, w_sC, w_sk, w_sbr, w_sco, w_rV, w_rI, w_rR, w_rL, w_dI, w_sO, w_sq, w_si, w_pI, w_pZ, w_pR, w_pU, w_qI, w_qB, w_qZ, w_qU, w_qR, w_kV, q_icst, q_lcst, q_xR, q_ldI, q_ldR, q_ldL, q_bn, q_un, q_dv, q_fI, q_fR, q_aI, q_aR, q_aN, q_tn, q_cmp, q_cmz, q_cnt, q_ctt, q_cand, q_cor, q_vn, q_vI, q_vR, q_vL, q_kI, q_kR, q_kL, q_ckI, envN, argE, List.flatMap_cons, List.flatMap_nil, Value.category, junk, oadd, osub, omul, oand, oor, oxor, odiv, orem, oshl, oshr, oushr, omax, omin]; simp (disch := first | omega | simp) [rk_i, rk_b, rk_o, st1, kill, Value.category, rcv, nog, wI_1, wI_r, wI_i, inI_b, nI_clamp, nI_ltI, nI_leI, nI_eq, nI_9, nI_6, nI_22, nI_12, nI_180, nI_add, nI_1, hn', ly166, ly187, p32, j12]) (by show 192 < h'.1; omega) ly192 (by omega) (by omega) ⟨rfl, ?_⟩)
          refine w_qIe 193 (12 * l + j) (nI (180 * l) + h'.2.1 188 j) (by simp only [f_mkF, w_sI, w_sR, w_sL, w_sC, w_sk, w_sbr, w_sco, w_rV, w_rI, w_rR, w_rL, w_dI, w_sO, w_sq, w_si, w_pI, w_pZ, w_pR, w_pU, w_qI, w_qB, w_qZ, w_qU, w_qR, w_kV, q_icst, q_lcst, q_xR, q_ldI, q_ldR, q_ldL, q_bn, q_un, q_dv, q_fI, q_fR, q_aI, q_aR, q_aN, q_tn, q_cmp, q_cmz, q_cnt, q_ctt, q_cand, q_cor, q_vn, q_vI, q_vR, q_vL, q_kI, q_kR, q_kL, q_ckI, envN, argE, List.flatMap_cons, List.flatMap_nil, Value.category, junk, oadd, osub, omul, oand, oor, oxor, odiv, orem, oshl, oshr, oushr, omax, omin]; simp (disch := first | omega | simp) [rk_i, rk_b, rk_o, st1, kill, Value.category, rcv, nog, wI_1, wI_r, nI_1, hn', ly166, p38]) (ev_ld rfl) (by simp only [f_mkF, w_sI, w_sR, w_sL, w_sC, w_sk, w_sbr, w_sco, w_rV, w_rI, w_rR, w_rL, w_dI, w_sO, w_sq, w_si, w_pI, w_pZ, w_pR, w_pU, w_qI, w_qB, w_qZ, w_qU, w_qR, w_kV, q_icst, q_lcst, q_xR, q_ldI, q_ldR, q_ldL, q_bn, q_un, q_dv, q_fI, q_fR, q_aI, q_aR, q_aN, q_tn, q_cmp, q_cmz, q_cnt, q_ctt, q_cand, q_cor, q_vn, q_vI, q_vR, q_vL, q_kI, q_kR, q_kL, q_ckI, envN, argE, List.flatMap_cons, List.flatMap_nil, Value.category, junk, oadd, osub, omul, oand, oor, oxor, odiv, orem, oshl, oshr, oushr, omax, omin]; simp (disch := first | omega | simp) [rk_i, rk_b, rk_o, st1, kill, Value.category, rcv, nog, wI_1, wI_r, wI_i, inI_b, nI_clamp, nI_ltI, nI_leI, nI_eq, nI_9, nI_6, nI_22, nI_12, nI_180, nI_add, nI_1, hn', ly166, ly188, p33, j12]) (by show 193 < h'.1; omega) ly193 (by omega) (by omega) ⟨rfl, ⟨_, rfl⟩, ((y1.w ⟨by omega, by omega, by omega⟩).w ⟨by omega, by omega, by omega⟩).w ⟨by omega, by omega, by omega⟩, fun i hi => ?_⟩
          have z1 := y1.2.2 186 j (by omega)
          have z2 := y1.2.2 187 j (by omega)
          have z3 := y1.2.2 188 j (by omega)
          by_cases ci : i = j
          · subst ci
            refine ⟨?_, ?_, ?_⟩
            · rw [wI_i, if_neg (by omega), wI_i, if_neg (by omega), wI_i, if_pos ⟨rfl, rfl⟩]; exact z1
            · rw [wI_i, if_neg (by omega), wI_i, if_pos ⟨rfl, rfl⟩, z2]
            · rw [wI_i, if_pos ⟨rfl, rfl⟩, z3]
          · obtain ⟨k1, k2, k3⟩ := y2 i (by omega)
            refine ⟨?_, ?_, ?_⟩
            · rw [wI_i, if_neg (by omega), wI_i, if_neg (by omega), wI_i, if_neg (by omega)]; exact k1
            · rw [wI_i, if_neg (by omega), wI_i, if_neg (by omega), wI_i, if_neg (by omega)]; exact k2
            · rw [wI_i, if_neg (by omega), wI_i, if_neg (by omega), wI_i, if_neg (by omega)]; exact k3
        · have ej : j = A.length := by omega
          subst ej
          exact ev_F (by simp only [f_mkF, w_sI, w_sR, w_sL, w_sC, w_sk, w_sbr, w_sco, w_rV, w_rI, w_rR, w_rL, w_dI, w_sO, w_sq, w_si, w_pI, w_pZ, w_pR, w_pU, w_qI, w_qB, w_qZ, w_qU, w_qR, w_kV, q_icst, q_lcst, q_xR, q_ldI, q_ldR, q_ldL, q_bn, q_un, q_dv, q_fI, q_fR, q_aI, q_aR, q_aN, q_tn, q_cmp, q_cmz, q_cnt, q_ctt, q_cand, q_cor, q_vn, q_vI, q_vR, q_vL, q_kI, q_kR, q_kL, q_ckI, envN, argE, List.flatMap_cons, List.flatMap_nil, Value.category, junk, oadd, osub, omul, oand, oor, oxor, odiv, orem, oshl, oshr, oushr, omax, omin]; simp (disch := first | omega | simp) [rk_i, rk_b, rk_o, st1, kill, Value.category, rcv, nog, inI_b, nI_clamp, nI_ltI, nI_leI, nI_eq, nI_9, nI_6, nI_22, nI_12, nI_180, nI_add, nI_1, hn', ly166, w27, hE0, hE4]) ⟨rfl, (fun z => by cases z), fun _ => ⟨rfl, hE0, y1, y2⟩⟩
      · rintro j E h' x1 x2 ⟨⟨x, rfl⟩, y1, y2⟩
        exact ⟨rfl, Or.inr ⟨x, rfl⟩, y1, y2⟩
    rintro E7 h7 ⟨hE7, f7, y7⟩
    have hn7 : h7.1 = 212 := f7.1.trans hn6
    have w27 : h7.2.1 166 27 = nI A.length := by rw [f7.2.2 166 27 (by omega), f6.2.2 166 27 (by omega)]; exact u2
    have f8 : Fr (SFm l) h h7 := f5.trans ((f6.sub fun a k z => by unfold SFm; omega).trans (f7.sub fun a k z => by unfold SFm; omega))
    refine wp_mono (Q := fun o v _ h' => o = 2 ∧ v = .int (nI A.length) ∧ h' = h7) (by rw [w_rI]; exact ev_mono (ev_fM hn7 hE7 w27) (by rintro x h8 ⟨rfl, rfl⟩; exact ⟨rfl, rfl, rfl⟩)) ?_
    rintro o v E8 h8 ⟨rfl, rfl, rfl⟩
    refine Or.inr ⟨rfl, rfl, rfl, ?_, f8, ?_, fun j x hx => ?_, fun i y hy => ?_, L.length, i6, i7⟩
    · rw [f7.2.2 166 20 (by omega), f6.2.2 166 20 (by omega)]; exact u5
    · rw [f7.2.2 190 l (by omega), f6.2.2 190 l (by omega)]; exact v190
    · have hj : j < A.length := by
        by_cases z : j < A.length
        · exact z
        · rw [List.getElem?_eq_none (by omega)] at hx; cases hx
      obtain ⟨k1, k2, k3⟩ := y7 j hj
      obtain ⟨c1, c2, c3⟩ := u4 j x hx
      rw [k1, k2, k3, f6.2.2 186 j (by omega), f6.2.2 187 j (by omega), f6.2.2 188 j (by omega), c1, c2, c3]
      exact ⟨rfl, nI_add _ _, nI_add _ _⟩
    · have hi : i < L.length := by
        rw [i5, List.length_map]
        by_cases z : i < (LAc A).length
        · exact z
        · rw [List.getElem?_eq_none (by omega)] at hy; cases hy
      rw [f7.2.2 189 _ (by omega), y6 i hi]
      refine u3 i (rfc y) ?_
      rw [i5, List.getElem?_map, hy]
      rfl
  · have v23 : (wI h3 166 20 0).2.1 166 23 = -(nI f) := by simp [wI_i, i2]
    have v20 : (wI h3 166 20 0).2.1 166 20 = 0 := by simp [wI_i]
    generalize wI h3 166 20 0 = h4 at *
    have hn4 : h4.1 = 212 := f4.1.trans hn
    simp only [f_mkF, w_sI, w_sR, w_sL, w_sC, w_sk, w_sbr, w_sco, w_rV, w_rI, w_rR, w_rL, w_dI, w_sO, w_sq, w_si, w_pI, w_pZ, w_pR, w_pU, w_qI, w_qB, w_qZ, w_qU, w_qR, w_kV, q_icst, q_lcst, q_xR, q_ldI, q_ldR, q_ldL, q_bn, q_un, q_dv, q_fI, q_fR, q_aI, q_aR, q_aN, q_tn, q_cmp, q_cmz, q_cnt, q_ctt, q_cand, q_cor, q_vn, q_vI, q_vR, q_vL, q_kI, q_kR, q_kL, q_ckI, envN, argE, List.flatMap_cons, List.flatMap_nil, Value.category, junk, oadd, osub, omul, oand, oor, oxor, odiv, orem, oshl, oshr, oushr, omax, omin]
    simp (disch := first | omega | simp) [rk_i, rk_b, rk_o, st1, kill, Value.category, rcv, nog, hn4, ly166, v23]
    exact ⟨rfl, v20, f4⟩
