/-! the reference reads: landing, jumping, numbers, factors -/
def ptM (L : List Pr2) (q : Nat) : List Pr2 := L.set q ((L.getD q (0, 0)).1, L.length)
def ptl (L pend : List Pr2) : List Pr2 := pend.foldr (fun x l => ptM l x.2) L
theorem ptM_l (L : List Pr2) (q : Nat) : (ptM L q).length = L.length := by unfold ptM; simp
theorem ptl_l (L pend : List Pr2) : (ptl L pend).length = L.length := by
  unfold ptl
  induction pend with
  | nil => rfl
  | cons x l ih => rw [List.foldr_cons, ptM_l]; exact ih
def lanM (all : Bool) (x : Nat) : Bool := decide (x = 11) || (all && decide (x = 12))
theorem lan_c : ∀ x, x ≤ 14 → ∀ a, (oeq (nI x) 11 || ((!(zeq (b2 (a = true)))) && !(one (nI x) 12))) = lanM a x := by decide +kernel
theorem lan_n : ∀ a, (oeq (-1) 11 || ((!(zeq (b2 (a = true)))) && !(one (-1) 12))) = false := by decide +kernel
theorem MS.set {h h' : Hp} {p o q x : Nat} {st L : List Pr2} (m : MS h p o st L) (hq : q < L.length) (hx : x < 1048576) (h1 : h'.2.1 166 21 = h.2.1 166 21) (h2 : h'.2.1 166 24 = h.2.1 166 24) (h3 : h'.2.1 166 26 = h.2.1 166 26) (h4 : h'.2.1 166 25 = h.2.1 166 25) (h5 : ∀ i, h'.2.1 185 i = h.2.1 185 i) (h6 : ∀ i, i ≠ q → h'.2.1 184 i = h.2.1 184 i) (h7 : h'.2.1 184 q = nI (enc2 ((L.getD q (0, 0)).1, x))) : MS h' p o st (L.set q ((L.getD q (0, 0)).1, x)) := by
  obtain ⟨m1, m2, m3, m4, m5, m6, m7, m8⟩ := m
  have hgq : L.getD q (0, 0) ∈ L := by rw [List.getD_eq_getElem?_getD, List.getElem?_eq_getElem hq]; simp
  refine ⟨h1.trans m1, h2.trans m2, h3.trans m3, by rw [List.length_set]; exact h4.trans m4, m5.c fun i _ => h5 i, fun i y e => ?_, m7, fun y hy => ?_⟩
  · rw [List.getElem?_set] at e
    by_cases c : q = i
    · rw [if_pos c, if_pos (by omega)] at e
      cases e
      rw [← c]; exact h7
    · rw [if_neg c] at e
      rw [h6 i (by omega)]; exact m6 i y e
  · rcases List.mem_or_eq_of_mem_set hy with z | z
    · exact m8 y z
    · subst z; exact ⟨(m8 _ hgq).1, hx⟩
theorem m_lands {h : Hp} (hn : h.1 = 212) (hm : PM h.2.2) {p o : Nat} {σ pend L : List Pr2} (m : MS h p o (σ ++ pend) L) (all : Bool) (hl : (σ ++ pend).length < 180) (hL : L.length < 180) (hc : ∀ x, x ∈ pend → lanM all x.1 = true ∧ x.2 < L.length) (hσ : stopM (lanM all) σ) : fq F_X11_lands [.ref 166, .int (b2 (all = true))] h fun r h' => r = none ∧ Fr SMr h h' ∧ MS h' p o σ (ptl L pend) := by
  unfold F_X11_lands
  refine f_mkE [.ref 166, .int (b2 (all = true)), junk] rfl (by simp [argE, Value.category]) ?_
  refine w_sqS (fun _ h' => Fr SMr h h' ∧ MS h' p o σ (ptl L pend)) ?_ (fun E1 h1 z => by rw [w_rV]; exact Or.inl ⟨rfl, rfl, rfl, z⟩)
  refine w_lp (fun k E h' => (∃ v, E = [.ref 166, .int (b2 (all = true)), v] ∧ v.category = 1) ∧ Fr SMr h h' ∧ ∃ p1 p2, pend = p1 ++ p2 ∧ k = p1.length ∧ MS h' p o (σ ++ p1) (ptl L p2)) ?_ pend.length _ _ ⟨⟨junk, rfl, rfl⟩, Fr.refl h, pend, [], by simp, rfl, m⟩
  rintro k E h' ⟨⟨v0, rfl, cv0⟩, f, p1, p2, i1, rfl, i2⟩
  have hn' : h'.1 = 212 := f.1.trans hn
  have hm' : PM h'.2.2 := by rw [f.2.1]; exact hm
  have ln : pend.length = p1.length + p2.length := by rw [i1]; simp
  have hl' : (σ ++ p1).length < 180 := by simp at hl ⊢; omega
  have e1 := m_top hn' hm' i2 hl'
  have ct : ev (cor (cmp oeq (kI (rcv 11) F_X11_top (vR vn (ldR 0))) (icst 11)) (cand (cnt (cmz zeq (ldI 1))) (cnt (cmp one (kI (rcv 11) F_X11_top (vR vn (ldR 0))) (icst 12))))) [.ref 166, .int (b2 (all = true)), v0] h' fun t h1 => t = (oeq (tpM (σ ++ p1)) 11 || ((!(zeq (b2 (all = true)))) && !(one (tpM (σ ++ p1)) 12))) ∧ h1 = h' := by
    have k1 := ev_k0 (E := [.ref 166, .int (b2 (all = true)), v0]) hn' rfl e1
    exact ev_or _ _ (ev_cmpc k1) fun _ => ev_and _ _ (ev_not (ev_cmzc (ev_ld rfl))) fun _ => ev_not (ev_cmpc k1)
  rcases cc_s p1 with rfl | ⟨l, x, rfl⟩
  · have c0 : (oeq (tpM (σ ++ [])) 11 || ((!(zeq (b2 (all = true)))) && !(one (tpM (σ ++ [])) 12))) = false := by
      rw [List.append_nil]
      rcases cc_s σ with rfl | ⟨l, x, rfl⟩
      · exact lan_n all
      · rw [tp_app, lan_c _ (i2.2.2.2.2.2.2.1 x (by simp)).1]; exact hσ l x rfl
    refine ev_F (ev_eqt ct c0) ⟨fun _ => ⟨rfl, f, ?_⟩, fun z => by cases z⟩
    rw [List.append_nil] at i2
    rw [i1]
    exact i2
  · have hx := i2.2.2.2.2.2.2.1 x (by simp)
    have hxp := hc x (by rw [i1]; simp)
    have c0 : (oeq (tpM (σ ++ (l ++ [x]))) 11 || ((!(zeq (b2 (all = true)))) && !(one (tpM (σ ++ (l ++ [x]))) 12))) = true := by
      rw [← List.append_assoc, tp_app, lan_c _ hx.1]
      exact hxp.1
    refine ev_T (ev_eqt ct c0) ⟨(fun z => by cases z), fun _ => ?_⟩
    have p30 : h'.2.2 166 30 = some 185 := hm' 30
    have p29 : h'.2.2 166 29 = some 184 := hm' 29
    have i2' := i2
    obtain ⟨m1, m2, m3, m4, m5, m6, m7, m8⟩ := i2'
    have w3 : h'.2.1 166 26 = nI ((σ ++ l).length + 1) := by rw [m3]; congr 1; simp; omega
    have w4 : nI ((σ ++ l).length + 1) - 1 = nI (σ ++ l).length := nI_pred _
    have l180 : (σ ++ l).length < 180 := by simp at hl' ⊢; omega
    have v1 : h'.2.1 185 (σ ++ l).length = nI (enc2 x) := m5 _ x (by rw [← List.append_assoc]; simp)
    have v2 := enc_r hx
    refine w_sqI (E' := [.ref 166, .int (b2 (all = true)), .int (nI x.2)]) (nI x.2) (by simp only [f_mkF, w_sI, w_sR, w_sL, w_sC, w_sk, w_sbr, w_sco, w_rV, w_rI, w_rR, w_rL, w_dI, w_sO, w_sq, w_si, w_pI, w_pZ, w_pR, w_pU, w_qI, w_qB, w_qZ, w_qU, w_qR, w_kV, q_icst, q_lcst, q_xR, q_ldI, q_ldR, q_ldL, q_bn, q_un, q_dv, q_fI, q_fR, q_aI, q_aR, q_aN, q_tn, q_cmp, q_cmz, q_cnt, q_ctt, q_cand, q_cor, q_vn, q_vI, q_vR, q_vL, q_kI, q_kR, q_kL, q_ckI, envN, argE, List.flatMap_cons, List.flatMap_nil, Value.category, junk, oadd, osub, omul, oand, oor, oxor, odiv, orem, oshl, oshr, oushr, omax, omin]; generalize (σ ++ l).length = N at *; simp (disch := first | omega | simp) [rk_i, rk_b, rk_o, st1, kill, Value.category, rcv, nog, inI_b, nI_clamp, hn', ly166, ly185, p30, w3, w4, l180, v1, v2]) rfl ?_
    have q180 : x.2 < 180 := by omega
    have hq : x.2 < (ptl L p2).length := by rw [ptl_l]; exact hxp.2
    have g0 : (ptl L p2)[x.2]? = some ((ptl L p2).getD x.2 (0, 0)) := by rw [List.getD_eq_getElem?_getD, List.getElem?_eq_getElem hq]; simp
    have g1 := m6 _ _ g0
    have g2 : (ptl L p2).getD x.2 (0, 0) ∈ ptl L p2 := List.mem_of_getElem? g0
    have g3 := enc_d (m8 _ g2)
    have g4 : 1048576 * nI ((ptl L p2).getD x.2 (0, 0)).1 + nI (ptl L p2).length = nI (enc2 (((ptl L p2).getD x.2 (0, 0)).1, (ptl L p2).length)) := by
      rw [show (1048576 : Int32) = nI 1048576 from rfl, nI_mul, nI_add]; rfl
    have lp2 : (ptl L p2).length < 180 := by rw [ptl_l]; exact hL
    refine w_sqN (w_qIe 184 x.2 (nI (enc2 (((ptl L p2).getD x.2 (0, 0)).1, (ptl L p2).length))) (by simp only [f_mkF, w_sI, w_sR, w_sL, w_sC, w_sk, w_sbr, w_sco, w_rV, w_rI, w_rR, w_rL, w_dI, w_sO, w_sq, w_si, w_pI, w_pZ, w_pR, w_pU, w_qI, w_qB, w_qZ, w_qU, w_qR, w_kV, q_icst, q_lcst, q_xR, q_ldI, q_ldR, q_ldL, q_bn, q_un, q_dv, q_fI, q_fR, q_aI, q_aR, q_aN, q_tn, q_cmp, q_cmz, q_cnt, q_ctt, q_cand, q_cor, q_vn, q_vI, q_vR, q_vL, q_kI, q_kR, q_kL, q_ckI, envN, argE, List.flatMap_cons, List.flatMap_nil, Value.category, junk, oadd, osub, omul, oand, oor, oxor, odiv, orem, oshl, oshr, oushr, omax, omin]; simp (disch := first | omega | simp) [rk_i, rk_b, rk_o, st1, kill, Value.category, rcv, nog, hn', ly166, p29]) (ev_ld rfl) ?_ (by omega) ly184 q180 (by omega) ⟨rfl, ?_⟩)
    · rw [← g4]
      generalize (ptl L p2).length = N at *
      generalize (ptl L p2).getD x.2 (0, 0) = G at *
      simp only [f_mkF, w_sI, w_sR, w_sL, w_sC, w_sk, w_sbr, w_sco, w_rV, w_rI, w_rR, w_rL, w_dI, w_sO, w_sq, w_si, w_pI, w_pZ, w_pR, w_pU, w_qI, w_qB, w_qZ, w_qU, w_qR, w_kV, q_icst, q_lcst, q_xR, q_ldI, q_ldR, q_ldL, q_bn, q_un, q_dv, q_fI, q_fR, q_aI, q_aR, q_aN, q_tn, q_cmp, q_cmz, q_cnt, q_ctt, q_cand, q_cor, q_vn, q_vI, q_vR, q_vL, q_kI, q_kR, q_kL, q_ckI, envN, argE, List.flatMap_cons, List.flatMap_nil, Value.category, junk, oadd, osub, omul, oand, oor, oxor, odiv, orem, oshl, oshr, oushr, omax, omin]
      simp (disch := first | omega | simp) [rk_i, rk_b, rk_o, st1, kill, Value.category, rcv, nog, inI_b, nI_clamp, hn', ly166, ly184, p29, g1, g3, m4, q180]
    refine w_pMe (nI (σ ++ l).length) hn' rfl (ev_bc (ev_fM hn' rfl (by rw [wI_i, if_neg (by omega)]; exact w3)) w4) ⟨fun _ => w_sk.mpr ⟨rfl, l.length, by simp, ⟨_, rfl, rfl⟩, (f.w (by unfold SMr; omega)).w (by unfold SMr; omega), l, x :: p2, by rw [i1]; simp, rfl, ?_⟩, (fun z => by cases z), fun z => absurd rfl z⟩
    show MS _ p o (σ ++ l) (ptM (ptl L p2) x.2)
    rw [← List.append_assoc] at i2
    have s1 : MS (wI h' 184 x.2 (nI (enc2 (((ptl L p2).getD x.2 (0, 0)).1, (ptl L p2).length)))) p o (σ ++ l ++ [x]) (ptM (ptl L p2) x.2) := i2.set hq (by omega) (by simp [wI_i]) (by simp [wI_i]) (by simp [wI_i]) (by simp [wI_i]) (fun i => by simp [wI_i]) (fun i hi => by simp [wI_i, hi]) (by rw [wI_i, if_pos ⟨rfl, rfl⟩])
    exact s1.pop (by simp [wI_i]) (by simp [wI_i, m2]) (by simp [wI_i]) (by simp [wI_i]) (fun i => by simp [wI_i]) (fun i => by simp [wI_i])
theorem m_jumps {h : Hp} (hn : h.1 = 212) (hm : PM h.2.2) {p o : Nat} {st L : List Pr2} (m : MS h p o st L) {op : Nat} (ho : op ≤ 14) (hl : st.length < 180) (hL : L.length < 180) : fq F_X11_jumps [.ref 166, .int (nI op)] h fun r h' => r = none ∧ Fr SMr h h' ∧ MS h' (p + 1) o (st ++ [(op, L.length)]) (L ++ [(op, 0)]) := by
  obtain ⟨m1, m2, m3, m4, m5, m6, m7, m8⟩ := m
  have p30 : h.2.2 166 30 = some 185 := hm 30
  have ev0 : 1048576 * nI op + nI L.length = nI (enc2 (op, L.length)) := by
    rw [show (1048576 : Int32) = nI 1048576 from rfl, nI_mul, nI_add]; rfl
  unfold F_X11_jumps
  refine f_mkE [.ref 166, .int (nI op)] rfl (by simp [argE, Value.category]) ?_
  refine w_sqN (w_qIe 185 st.length (nI (enc2 (op, L.length))) (by simp only [f_mkF, w_sI, w_sR, w_sL, w_sC, w_sk, w_sbr, w_sco, w_rV, w_rI, w_rR, w_rL, w_dI, w_sO, w_sq, w_si, w_pI, w_pZ, w_pR, w_pU, w_qI, w_qB, w_qZ, w_qU, w_qR, w_kV, q_icst, q_lcst, q_xR, q_ldI, q_ldR, q_ldL, q_bn, q_un, q_dv, q_fI, q_fR, q_aI, q_aR, q_aN, q_tn, q_cmp, q_cmz, q_cnt, q_ctt, q_cand, q_cor, q_vn, q_vI, q_vR, q_vL, q_kI, q_kR, q_kL, q_ckI, envN, argE, List.flatMap_cons, List.flatMap_nil, Value.category, junk, oadd, osub, omul, oand, oor, oxor, odiv, orem, oshl, oshr, oushr, omax, omin]; simp (disch := first | omega | simp) [rk_i, rk_b, rk_o, st1, kill, Value.category, rcv, nog, hn, ly166, p30]) (ev_fM hn rfl m3) (by simp only [f_mkF, w_sI, w_sR, w_sL, w_sC, w_sk, w_sbr, w_sco, w_rV, w_rI, w_rR, w_rL, w_dI, w_sO, w_sq, w_si, w_pI, w_pZ, w_pR, w_pU, w_qI, w_qB, w_qZ, w_qU, w_qR, w_kV, q_icst, q_lcst, q_xR, q_ldI, q_ldR, q_ldL, q_bn, q_un, q_dv, q_fI, q_fR, q_aI, q_aR, q_aN, q_tn, q_cmp, q_cmz, q_cnt, q_ctt, q_cand, q_cor, q_vn, q_vI, q_vR, q_vL, q_kI, q_kR, q_kL, q_ckI, envN, argE, List.flatMap_cons, List.flatMap_nil, Value.category, junk, oadd, osub, omul, oand, oor, oxor, odiv, orem, oshl, oshr, oushr, omax, omin]; simp (disch := first | omega | simp) [rk_i, rk_b, rk_o, st1, kill, Value.category, rcv, nog, hn, ly166, m4, ev0]) (by omega) ly185 hl (by omega) ⟨rfl, ?_⟩)
  refine w_sqN (w_pMe (nI (st.length + 1)) hn rfl (ev_bc (ev_fM hn rfl (by rw [wI_i, if_neg (by omega)]; exact m3)) (nI_1 _)) ⟨rfl, ?_⟩)
  have ms : MS (wI (wI h 185 st.length (nI (enc2 (op, L.length)))) 166 26 (nI (st.length + 1))) p o (st ++ [(op, L.length)]) L := by
    refine ⟨by simp [wI_i, m1], by simp [wI_i, m2], by simp [wI_i], by simp [wI_i, m4], m5.app (fun i hi => ?_) ?_, m6.c (fun i _ => by simp [wI_i]), m7.app (inr.one ⟨ho, by simp only; omega⟩), m8⟩
    · rw [wI_i, if_neg (by omega), wI_i, if_neg (by omega)]
    · rw [wI_i, if_neg (by omega), wI_i, if_pos ⟨rfl, rfl⟩]
  have fr : Fr SMr h (wI (wI h 185 st.length (nI (enc2 (op, L.length)))) 166 26 (nI (st.length + 1))) := ((Fr.refl h).w (by unfold SMr; omega)).w (by unfold SMr; omega)
  generalize wI (wI h 185 st.length (nI (enc2 (op, L.length)))) 166 26 (nI (st.length + 1)) = h1 at *
  have hn1 : h1.1 = 212 := fr.1.trans hn
  have hm1 : PM h1.2.2 := by rw [fr.2.1]; exact hm
  refine w_sqS (fun E1 h2 => E1 = [.ref 166, .int (nI op)] ∧ Fr SMr h1 h2 ∧ MS h2 p o (st ++ [(op, L.length)]) (L ++ [(op, 0)])) (w_kVe [.ref 166, .int (nI op), .int (nI 0)] (by simp only [f_mkF, w_sI, w_sR, w_sL, w_sC, w_sk, w_sbr, w_sco, w_rV, w_rI, w_rR, w_rL, w_dI, w_sO, w_sq, w_si, w_pI, w_pZ, w_pR, w_pU, w_qI, w_qB, w_qZ, w_qU, w_qR, w_kV, q_icst, q_lcst, q_xR, q_ldI, q_ldR, q_ldL, q_bn, q_un, q_dv, q_fI, q_fR, q_aI, q_aR, q_aN, q_tn, q_cmp, q_cmz, q_cnt, q_ctt, q_cand, q_cor, q_vn, q_vI, q_vR, q_vL, q_kI, q_kR, q_kL, q_ckI, envN, argE, List.flatMap_cons, List.flatMap_nil, Value.category, junk, oadd, osub, omul, oand, oor, oxor, odiv, orem, oshl, oshr, oushr, omax, omin]; simp; rfl) (by simp [rcv, hn1, ly166]) (fq_mono (m_says hn1 hm1 ms ho (v := 0) (by omega) hL) (by rintro r h2 ⟨rfl, z⟩; exact ⟨rfl, rfl, rfl, z⟩))) ?_
  rintro E1 h2 ⟨rfl, f2, s2⟩
  have hn2 : h2.1 = 212 := f2.1.trans hn1
  refine w_sqN (w_pMe (nI (p + 1)) hn2 rfl (ev_bc (ev_fM hn2 rfl s2.1) (nI_1 _)) ⟨rfl, ?_⟩)
  rw [w_rV]
  obtain ⟨t1, t2, t3, t4, t5, t6, t7, t8⟩ := s2
  exact Or.inl ⟨rfl, rfl, rfl, (fr.trans f2).w (by unfold SMr; omega), by simp [wI_i], by simp [wI_i, t2], by simp [wI_i, t3], by simp [wI_i, t4], t5.c (fun i _ => by simp [wI_i]), t6.c (fun i _ => by simp [wI_i]), t7, t8⟩
theorem m_has {h : Hp} (hn : h.1 = 212) (hm : PM h.2.2) {p o : Nat} {β τ L : List Pr2} (m : MS h p o (β ++ τ) L) (hl : (β ++ τ).length < 180) : F_X11_hasOpenSum [.ref 166, .int (nI β.length)] h = some (some (.int (b2 (τ.any (fun x => x.1 == 14) = true))), h) := by
  obtain ⟨m1, m2, m3, m4, m5, m6, m7, m8⟩ := m
  have p30 : h.2.2 166 30 = some 185 := hm 30
  have hlen : (β ++ τ).length = β.length + τ.length := by simp
  rw [hlen] at m3 hl
  generalize hB : b2 (τ.any (fun x => x.1 == 14) = true) = B
  rw [← fq_eq]
  unfold F_X11_hasOpenSum
  refine f_mkE [.ref 166, .int (nI β.length), junk] rfl (by simp [argE, Value.category]) ?_
  refine w_sq.mpr (w_sqN (w_sIe (E' := [.ref 166, .int (nI β.length), .int (nI β.length)]) (nI β.length) (by simp only [f_mkF, w_sI, w_sR, w_sL, w_sC, w_sk, w_sbr, w_sco, w_rV, w_rI, w_rR, w_rL, w_dI, w_sO, w_sq, w_si, w_pI, w_pZ, w_pR, w_pU, w_qI, w_qB, w_qZ, w_qU, w_qR, w_kV, q_icst, q_lcst, q_xR, q_ldI, q_ldR, q_ldL, q_bn, q_un, q_dv, q_fI, q_fR, q_aI, q_aR, q_aN, q_tn, q_cmp, q_cmz, q_cnt, q_ctt, q_cand, q_cor, q_vn, q_vI, q_vR, q_vL, q_kI, q_kR, q_kL, q_ckI, envN, argE, List.flatMap_cons, List.flatMap_nil, Value.category, junk, oadd, osub, omul, oand, oor, oxor, odiv, orem, oshl, oshr, oushr, omax, omin]; simp) rfl ⟨rfl, ?_⟩))
  refine w_lp (fun k E h' => h' = h ∧ ∃ j, k = τ.length - j ∧ j ≤ τ.length ∧ b2 ((τ.drop j).any (fun x => x.1 == 14) = true) = B ∧ E = [.ref 166, .int (nI β.length), .int (nI (β.length + j))]) ?_ τ.length _ _ ⟨rfl, 0, rfl, by omega, hB, rfl⟩
  rintro k E h' ⟨rfl, j, rfl, j1, j2, rfl⟩
  have b12 : B = 0 ∨ B = 1 := by rw [← hB]; exact b2_ok
  by_cases c : j < τ.length
  · have c2 : ¬ (β.length + τ.length ≤ β.length + j) := by omega
    have c180 : β.length + j < 180 := by omega
    refine ev_T (by simp only [f_mkF, w_sI, w_sR, w_sL, w_sC, w_sk, w_sbr, w_sco, w_rV, w_rI, w_rR, w_rL, w_dI, w_sO, w_sq, w_si, w_pI, w_pZ, w_pR, w_pU, w_qI, w_qB, w_qZ, w_qU, w_qR, w_kV, q_icst, q_lcst, q_xR, q_ldI, q_ldR, q_ldL, q_bn, q_un, q_dv, q_fI, q_fR, q_aI, q_aR, q_aN, q_tn, q_cmp, q_cmz, q_cnt, q_ctt, q_cand, q_cor, q_vn, q_vI, q_vR, q_vL, q_kI, q_kR, q_kL, q_ckI, envN, argE, List.flatMap_cons, List.flatMap_nil, Value.category, junk, oadd, osub, omul, oand, oor, oxor, odiv, orem, oshl, oshr, oushr, omax, omin]; simp (disch := first | omega | simp) [rk_i, rk_b, rk_o, st1, kill, Value.category, rcv, nog, inI_b, nI_clamp, nI_ltI, nI_leI, nI_eq, nI_9, nI_6, nI_22, nI_12, nI_180, nI_add, nI_1, hn, ly166, m3, c]; try omega) ⟨(fun z => by cases z), fun _ => ?_⟩
    have g1 : (β ++ τ)[β.length + j]? = some τ[j] := by rw [List.getElem?_append_right (by omega)]; simp [c]
    have v1 := m5 _ _ g1
    have v2 := enc_d (m7 τ[j] (List.mem_of_getElem? g1))
    have x14 := (m7 τ[j] (List.mem_of_getElem? g1)).1
    have n14 : nI τ[j].1 = 14 ↔ τ[j].1 = 14 := nI_eq (a := τ[j].1) (b := 14) (by omega) (by omega)
    have dr : τ.drop j = τ[j] :: τ.drop (j + 1) := List.drop_eq_getElem_cons c
    by_cases c14 : τ[j].1 = 14
    · have n14' := n14.mpr c14
      refine (w_siT (by simp only [f_mkF, w_sI, w_sR, w_sL, w_sC, w_sk, w_sbr, w_sco, w_rV, w_rI, w_rR, w_rL, w_dI, w_sO, w_sq, w_si, w_pI, w_pZ, w_pR, w_pU, w_qI, w_qB, w_qZ, w_qU, w_qR, w_kV, q_icst, q_lcst, q_xR, q_ldI, q_ldR, q_ldL, q_bn, q_un, q_dv, q_fI, q_fR, q_aI, q_aR, q_aN, q_tn, q_cmp, q_cmz, q_cnt, q_ctt, q_cand, q_cor, q_vn, q_vI, q_vR, q_vL, q_kI, q_kR, q_kL, q_ckI, envN, argE, List.flatMap_cons, List.flatMap_nil, Value.category, junk, oadd, osub, omul, oand, oor, oxor, odiv, orem, oshl, oshr, oushr, omax, omin]; simp (disch := first | omega | simp) [rk_i, rk_b, rk_o, st1, kill, Value.category, rcv, nog, inI_b, nI_clamp, hn, ly166, ly185, p30, v1, v2, n14', c180])).mpr ?_
      have hB1 : B = 1 := by rw [← j2]; refine b2_1.mpr ?_; rw [dr, List.any_cons, show (τ[j].1 == 14) = true from by simp [c14], Bool.true_or]
      rw [hB1]
      simp only [f_mkF, w_sI, w_sR, w_sL, w_sC, w_sk, w_sbr, w_sco, w_rV, w_rI, w_rR, w_rL, w_dI, w_sO, w_sq, w_si, w_pI, w_pZ, w_pR, w_pU, w_qI, w_qB, w_qZ, w_qU, w_qR, w_kV, q_icst, q_lcst, q_xR, q_ldI, q_ldR, q_ldL, q_bn, q_un, q_dv, q_fI, q_fR, q_aI, q_aR, q_aN, q_tn, q_cmp, q_cmz, q_cnt, q_ctt, q_cand, q_cor, q_vn, q_vI, q_vR, q_vL, q_kI, q_kR, q_kL, q_ckI, envN, argE, List.flatMap_cons, List.flatMap_nil, Value.category, junk, oadd, osub, omul, oand, oor, oxor, odiv, orem, oshl, oshr, oushr, omax, omin]
      simp [rk_i, rk_b, rk_o, st1, kill, Value.category, rcv, nog]
    · have n14' : ¬ nI τ[j].1 = 14 := fun z => c14 (n14.mp z)
      refine (w_siF (by simp only [f_mkF, w_sI, w_sR, w_sL, w_sC, w_sk, w_sbr, w_sco, w_rV, w_rI, w_rR, w_rL, w_dI, w_sO, w_sq, w_si, w_pI, w_pZ, w_pR, w_pU, w_qI, w_qB, w_qZ, w_qU, w_qR, w_kV, q_icst, q_lcst, q_xR, q_ldI, q_ldR, q_ldL, q_bn, q_un, q_dv, q_fI, q_fR, q_aI, q_aR, q_aN, q_tn, q_cmp, q_cmz, q_cnt, q_ctt, q_cand, q_cor, q_vn, q_vI, q_vR, q_vL, q_kI, q_kR, q_kL, q_ckI, envN, argE, List.flatMap_cons, List.flatMap_nil, Value.category, junk, oadd, osub, omul, oand, oor, oxor, odiv, orem, oshl, oshr, oushr, omax, omin]; simp (disch := first | omega | simp) [rk_i, rk_b, rk_o, st1, kill, Value.category, rcv, nog, inI_b, nI_clamp, hn, ly166, ly185, p30, v1, v2, n14', c180])).mpr ?_
      rw [w_sk]
      refine ⟨fun _ => w_sCe (nI (β.length + j)) (nI (β.length + j + 1)) rfl (nI_1 _) rfl ⟨rfl, τ.length - (j + 1), by omega, rfl, j + 1, rfl, by omega, ?_, rfl⟩, (fun z => by cases z), fun z => absurd rfl z⟩
      rw [← j2, dr, List.any_cons, show (τ[j].1 == 14) = false from by simp [c14], Bool.false_or]
  · have cj : j = τ.length := by omega
    refine ev_F (by simp only [f_mkF, w_sI, w_sR, w_sL, w_sC, w_sk, w_sbr, w_sco, w_rV, w_rI, w_rR, w_rL, w_dI, w_sO, w_sq, w_si, w_pI, w_pZ, w_pR, w_pU, w_qI, w_qB, w_qZ, w_qU, w_qR, w_kV, q_icst, q_lcst, q_xR, q_ldI, q_ldR, q_ldL, q_bn, q_un, q_dv, q_fI, q_fR, q_aI, q_aR, q_aN, q_tn, q_cmp, q_cmz, q_cnt, q_ctt, q_cand, q_cor, q_vn, q_vI, q_vR, q_vL, q_kI, q_kR, q_kL, q_ckI, envN, argE, List.flatMap_cons, List.flatMap_nil, Value.category, junk, oadd, osub, omul, oand, oor, oxor, odiv, orem, oshl, oshr, oushr, omax, omin]; simp (disch := first | omega | simp) [rk_i, rk_b, rk_o, st1, kill, Value.category, rcv, nog, inI_b, nI_clamp, nI_ltI, nI_leI, nI_eq, nI_9, nI_6, nI_22, nI_12, nI_180, nI_add, nI_1, hn, ly166, m3, cj]; try omega) ⟨fun _ => ?_, fun z => by cases z⟩
    have hB0 : B = 0 := by rw [← j2]; refine b2_0.mpr ?_; rw [cj]; simp
    rw [hB0]
    simp only [f_mkF, w_sI, w_sR, w_sL, w_sC, w_sk, w_sbr, w_sco, w_rV, w_rI, w_rR, w_rL, w_dI, w_sO, w_sq, w_si, w_pI, w_pZ, w_pR, w_pU, w_qI, w_qB, w_qZ, w_qU, w_qR, w_kV, q_icst, q_lcst, q_xR, q_ldI, q_ldR, q_ldL, q_bn, q_un, q_dv, q_fI, q_fR, q_aI, q_aR, q_aN, q_tn, q_cmp, q_cmz, q_cnt, q_ctt, q_cand, q_cor, q_vn, q_vI, q_vR, q_vL, q_kI, q_kR, q_kL, q_ckI, envN, argE, List.flatMap_cons, List.flatMap_nil, Value.category, junk, oadd, osub, omul, oand, oor, oxor, odiv, orem, oshl, oshr, oushr, omax, omin]
    simp [rk_i, rk_b, rk_o, st1, kill, Value.category, rcv, nog]
theorem m_sign {s : Nat → Nat} {e p : Nat} (hs : ∀ p, s p < 256) (hz : ∀ p, e ≤ p → s p = 0) (h : Hp) : F_X11_sumSign [.int (hvM s e p)] h = some (some (.int (if opP (s p) = 0 then -1 else nI (opP (s p)))), h) := by
  have a1 : hvM s e p = 43 ↔ s p = 43 := hvM_e (c := 43) hs hz (by omega)
  have a2 : hvM s e p = 45 ↔ s p = 45 := hvM_e (c := 45) hs hz (by omega)
  have a3 : hvM s e p = 42 ↔ s p = 42 := hvM_e (c := 42) hs hz (by omega)
  have a4 : hvM s e p = 47 ↔ s p = 47 := hvM_e (c := 47) hs hz (by omega)
  have a5 : hvM s e p = 37 ↔ s p = 37 := hvM_e (c := 37) hs hz (by omega)
  generalize hvM s e p = v at *
  generalize s p = c at *
  rw [← fq_eq]
  unfold F_X11_sumSign
  refine f_mkE [.int v] rfl (by simp [argE, Value.category]) ?_
  by_cases c1 : c = 43
  · have := a1.mpr c1; subst this; subst c1; simp only [f_mkF, w_sI, w_sR, w_sL, w_sC, w_sk, w_sbr, w_sco, w_rV, w_rI, w_rR, w_rL, w_dI, w_sO, w_sq, w_si, w_pI, w_pZ, w_pR, w_pU, w_qI, w_qB, w_qZ, w_qU, w_qR, w_kV, q_icst, q_lcst, q_xR, q_ldI, q_ldR, q_ldL, q_bn, q_un, q_dv, q_fI, q_fR, q_aI, q_aR, q_aN, q_tn, q_cmp, q_cmz, q_cnt, q_ctt, q_cand, q_cor, q_vn, q_vI, q_vR, q_vL, q_kI, q_kR, q_kL, q_ckI, envN, argE, List.flatMap_cons, List.flatMap_nil, Value.category, junk, oadd, osub, omul, oand, oor, oxor, odiv, orem, oshl, oshr, oushr, omax, omin]; simp [rk_i, rk_b, rk_o, st1, kill, Value.category, rcv, nog, opP]; rfl
  · have c1' : ¬ v = 43 := fun z => c1 (a1.mp z)
    by_cases c2 : c = 45
    · have := a2.mpr c2; subst this; subst c2; simp only [f_mkF, w_sI, w_sR, w_sL, w_sC, w_sk, w_sbr, w_sco, w_rV, w_rI, w_rR, w_rL, w_dI, w_sO, w_sq, w_si, w_pI, w_pZ, w_pR, w_pU, w_qI, w_qB, w_qZ, w_qU, w_qR, w_kV, q_icst, q_lcst, q_xR, q_ldI, q_ldR, q_ldL, q_bn, q_un, q_dv, q_fI, q_fR, q_aI, q_aR, q_aN, q_tn, q_cmp, q_cmz, q_cnt, q_ctt, q_cand, q_cor, q_vn, q_vI, q_vR, q_vL, q_kI, q_kR, q_kL, q_ckI, envN, argE, List.flatMap_cons, List.flatMap_nil, Value.category, junk, oadd, osub, omul, oand, oor, oxor, odiv, orem, oshl, oshr, oushr, omax, omin]; simp [rk_i, rk_b, rk_o, st1, kill, Value.category, rcv, nog, opP]; rfl
    · have c2' : ¬ v = 45 := fun z => c2 (a2.mp z)
      by_cases c3 : c = 42
      · have := a3.mpr c3; subst this; subst c3; simp only [f_mkF, w_sI, w_sR, w_sL, w_sC, w_sk, w_sbr, w_sco, w_rV, w_rI, w_rR, w_rL, w_dI, w_sO, w_sq, w_si, w_pI, w_pZ, w_pR, w_pU, w_qI, w_qB, w_qZ, w_qU, w_qR, w_kV, q_icst, q_lcst, q_xR, q_ldI, q_ldR, q_ldL, q_bn, q_un, q_dv, q_fI, q_fR, q_aI, q_aR, q_aN, q_tn, q_cmp, q_cmz, q_cnt, q_ctt, q_cand, q_cor, q_vn, q_vI, q_vR, q_vL, q_kI, q_kR, q_kL, q_ckI, envN, argE, List.flatMap_cons, List.flatMap_nil, Value.category, junk, oadd, osub, omul, oand, oor, oxor, odiv, orem, oshl, oshr, oushr, omax, omin]; simp [rk_i, rk_b, rk_o, st1, kill, Value.category, rcv, nog, opP]; rfl
      · have c3' : ¬ v = 42 := fun z => c3 (a3.mp z)
        by_cases c4 : c = 47
        · have := a4.mpr c4; subst this; subst c4; simp only [f_mkF, w_sI, w_sR, w_sL, w_sC, w_sk, w_sbr, w_sco, w_rV, w_rI, w_rR, w_rL, w_dI, w_sO, w_sq, w_si, w_pI, w_pZ, w_pR, w_pU, w_qI, w_qB, w_qZ, w_qU, w_qR, w_kV, q_icst, q_lcst, q_xR, q_ldI, q_ldR, q_ldL, q_bn, q_un, q_dv, q_fI, q_fR, q_aI, q_aR, q_aN, q_tn, q_cmp, q_cmz, q_cnt, q_ctt, q_cand, q_cor, q_vn, q_vI, q_vR, q_vL, q_kI, q_kR, q_kL, q_ckI, envN, argE, List.flatMap_cons, List.flatMap_nil, Value.category, junk, oadd, osub, omul, oand, oor, oxor, odiv, orem, oshl, oshr, oushr, omax, omin]; simp [rk_i, rk_b, rk_o, st1, kill, Value.category, rcv, nog, opP]; rfl
        · have c4' : ¬ v = 47 := fun z => c4 (a4.mp z)
          by_cases c5 : c = 37
          · have := a5.mpr c5; subst this; subst c5; simp only [f_mkF, w_sI, w_sR, w_sL, w_sC, w_sk, w_sbr, w_sco, w_rV, w_rI, w_rR, w_rL, w_dI, w_sO, w_sq, w_si, w_pI, w_pZ, w_pR, w_pU, w_qI, w_qB, w_qZ, w_qU, w_qR, w_kV, q_icst, q_lcst, q_xR, q_ldI, q_ldR, q_ldL, q_bn, q_un, q_dv, q_fI, q_fR, q_aI, q_aR, q_aN, q_tn, q_cmp, q_cmz, q_cnt, q_ctt, q_cand, q_cor, q_vn, q_vI, q_vR, q_vL, q_kI, q_kR, q_kL, q_ckI, envN, argE, List.flatMap_cons, List.flatMap_nil, Value.category, junk, oadd, osub, omul, oand, oor, oxor, odiv, orem, oshl, oshr, oushr, omax, omin]; simp [rk_i, rk_b, rk_o, st1, kill, Value.category, rcv, nog, opP]; rfl
          · have c5' : ¬ v = 37 := fun z => c5 (a5.mp z)
            simp only [f_mkF, w_sI, w_sR, w_sL, w_sC, w_sk, w_sbr, w_sco, w_rV, w_rI, w_rR, w_rL, w_dI, w_sO, w_sq, w_si, w_pI, w_pZ, w_pR, w_pU, w_qI, w_qB, w_qZ, w_qU, w_qR, w_kV, q_icst, q_lcst, q_xR, q_ldI, q_ldR, q_ldL, q_bn, q_un, q_dv, q_fI, q_fR, q_aI, q_aR, q_aN, q_tn, q_cmp, q_cmz, q_cnt, q_ctt, q_cand, q_cor, q_vn, q_vI, q_vR, q_vL, q_kI, q_kR, q_kL, q_ckI, envN, argE, List.flatMap_cons, List.flatMap_nil, Value.category, junk, oadd, osub, omul, oand, oor, oxor, odiv, orem, oshl, oshr, oushr, omax, omin]; simp [rk_i, rk_b, rk_o, st1, kill, Value.category, rcv, nog, opP, c1, c2, c3, c4, c5, c1', c2', c3', c4', c5']
theorem fac_t : ∀ c, c < 256 → (if (nI c).toInt < 99 then (-1 : Int32) else (([9, 7, 4, -1, -1, 11, -1, 8, 0, 10, 1, 2, 12, -1, -1, 3, -1, -1, -1, 6, -1, 5] : List Int32)[((nI c).toInt - 99).toNat]?).getD (-1)) = ixT 1 c := by decide +kernel
theorem m_fact {s : Nat → Nat} {e p : Nat} (hs : ∀ p, s p < 256) (hz : ∀ p, e ≤ p → s p = 0) (h : Hp) : F_X11_factOf [.int (hvM s e p)] h = some (some (.int (ixT 1 (s p))), h) := by
  have ft : (if (hvM s e p).toInt < 99 then (-1 : Int32) else (([9, 7, 4, -1, -1, 11, -1, 8, 0, 10, 1, 2, 12, -1, -1, 3, -1, -1, -1, 6, -1, 5] : List Int32)[((hvM s e p).toInt - 99).toNat]?).getD (-1)) = ixT 1 (s p) := by
    unfold hvM
    by_cases c : p < e
    · rw [if_pos c]; exact fac_t _ (hs p)
    · rw [if_neg c, hz p (by omega)]; decide
  generalize hvM s e p = v at *
  rw [← fq_eq, ← ft]
  unfold F_X11_factOf
  refine f_mkE [.int v] rfl (by simp [argE, Value.category]) ?_
  rw [w_sw, q_ldI]
  refine ⟨v, rfl, ?_⟩
  have key : ∀ (T : List Int32) (i : Nat), ((T.map fun k => rI (icst k))[i]?).getD (rI (icst (-1))) = rI (icst ((T[i]?).getD (-1))) := by
    intro T i
    rw [List.getElem?_map]
    cases T[i]? <;> rfl
  have k2 := key [9, 7, 4, -1, -1, 11, -1, 8, 0, 10, 1, 2, 12, -1, -1, 3, -1, -1, -1, 6, -1, 5] (v.toInt - 99).toNat
  simp only [List.map_cons, List.map_nil] at k2
  rw [k2]
  by_cases c : v.toInt < 99
  · rw [if_pos c, if_pos c]; simp only [f_mkF, w_sI, w_sR, w_sL, w_sC, w_sk, w_sbr, w_sco, w_rV, w_rI, w_rR, w_rL, w_dI, w_sO, w_sq, w_si, w_pI, w_pZ, w_pR, w_pU, w_qI, w_qB, w_qZ, w_qU, w_qR, w_kV, q_icst, q_lcst, q_xR, q_ldI, q_ldR, q_ldL, q_bn, q_un, q_dv, q_fI, q_fR, q_aI, q_aR, q_aN, q_tn, q_cmp, q_cmz, q_cnt, q_ctt, q_cand, q_cor, q_vn, q_vI, q_vR, q_vL, q_kI, q_kR, q_kL, q_ckI, envN, argE, List.flatMap_cons, List.flatMap_nil, Value.category, junk, oadd, osub, omul, oand, oor, oxor, odiv, orem, oshl, oshr, oushr, omax, omin]; simp [rk_i, rk_b, rk_o, st1, kill, Value.category, rcv, nog]
  · rw [if_neg c, if_neg c]; simp only [f_mkF, w_sI, w_sR, w_sL, w_sC, w_sk, w_sbr, w_sco, w_rV, w_rI, w_rR, w_rL, w_dI, w_sO, w_sq, w_si, w_pI, w_pZ, w_pR, w_pU, w_qI, w_qB, w_qZ, w_qU, w_qR, w_kV, q_icst, q_lcst, q_xR, q_ldI, q_ldR, q_ldL, q_bn, q_un, q_dv, q_fI, q_fR, q_aI, q_aR, q_aN, q_tn, q_cmp, q_cmz, q_cnt, q_ctt, q_cand, q_cor, q_vn, q_vI, q_vR, q_vL, q_kI, q_kR, q_kL, q_ckI, envN, argE, List.flatMap_cons, List.flatMap_nil, Value.category, junk, oadd, osub, omul, oand, oor, oxor, odiv, orem, oshl, oshr, oushr, omax, omin]; simp [rk_i, rk_b, rk_o, st1, kill, Value.category, rcv, nog]
