/-! the reference reads: comparisons; steps of a condition -/
def nn (st : List Pr2) : Nat := (st.filter fun x => x.1 == 10).length
theorem nn_app (a b : List Pr2) : nn (a ++ b) = nn a + nn b := by unfold nn; simp
theorem nn_rep (j : Nat) : nn (List.replicate j (10, 0)) = j := by unfold nn; simp
def nts (j : Nat) : List Pr2 := List.replicate j (10, 0)
theorem nn_nts (j : Nat) : nn (nts j) = j := nn_rep j
theorem nts_l (j : Nat) : (nts j).length = j := by unfold nts; simp
theorem nts_s (j : Nat) : nts (j + 1) = nts j ++ [(10, 0)] := List.replicate_succ'
def hiM (st : List Pr2) : Prop := ∀ x, x ∈ st → 10 ≤ x.1
theorem hiM.stop {st : List Pr2} (h : hiM st) (a : Bool) : stopM (cloM a) st := fun l x z => by
  have := h x (by rw [z]; simp)
  unfold cloM
  simp
  omega
def GN (s : Nat → Nat) (e : Nat) (h0 h : Hp) (p o : Nat) (st L : List Pr2) : Prop := MR s e h ∧ MS h p o st L ∧ Fr SMr h0 h ∧ p ≤ e ∧ st.length ≤ p ∧ L.length + nn st ≤ p
def OSn (s : Nat → Nat) (e : Nat) (h0 : Hp) (o : Nat) (st L L2 : List Pr2) (R : Rd) (r : Option Value) (h' : Hp) : Prop := Fr SMr h0 h' ∧ match R with
  | .error f => r = some (.int 0) ∧ h'.2.1 166 23 = -(nI f)
  | .ok (p', C) => r = some (.int 1) ∧ GN s e h0 h' p' o st (L ++ C.map rfc ++ L2)
theorem m_cpr {s : Nat → Nat} {e : Nat} {h0 h : Hp} {p r j : Nat} {σ L : List Pr2} (g : GN s e h0 h p (6 - r) (σ ++ nts j) L) (hr : r ≤ 6) (hj : j ≤ 6 - r) (hhi : hiM (σ ++ nts j)) (h10 : stopM (fun x => decide (x = 10)) σ) : fq F_X11_readsCompared [.ref 166] h fun v h' => OSn s e h0 (6 - r - j) σ L (nts j) (cprP s r p) v h' := by
  obtain ⟨q, m, fr, hpe, hst, hL⟩ := g
  have hn := q.1
  have hs := q.2.2.2.2.2.1
  have hz := q.2.2.2.2.2.2
  have h160 := q.2.2.2.1
  rw [nn_app, nn_nts] at hL
  generalize hV : cprP s r p = V
  unfold cprP at hV
  unfold F_X11_readsCompared
  refine f_mkE [.ref 166, junk] rfl (by simp [argE, Value.category]) ?_
  obtain ⟨v1, h1, e1, f1, z⟩ := m_sum q m hpe hst (by omega) hr (hhi.stop true)
  have fr1 : Fr SMr h0 h1 := fr.trans f1
  cases hR : sumP s r p with
  | error f =>
    rw [hR] at z hV
    obtain ⟨rfl, z2⟩ := z
    simp only at hV
    subst hV
    refine w_sq.mpr (w_siC true h1 (by simp only [f_mkF, w_sI, w_sR, w_sL, w_sC, w_sk, w_sbr, w_sco, w_rV, w_rI, w_rR, w_rL, w_dI, w_sO, w_sq, w_si, w_pI, w_pZ, w_pR, w_pU, w_qI, w_qB, w_qZ, w_qU, w_qR, w_kV, q_icst, q_lcst, q_xR, q_ldI, q_ldR, q_ldL, q_bn, q_un, q_dv, q_fI, q_fR, q_aI, q_aR, q_aN, q_tn, q_cmp, q_cmz, q_cnt, q_ctt, q_cand, q_cor, q_vn, q_vI, q_vR, q_vL, q_kI, q_kR, q_kL, q_ckI, envN, argE, List.flatMap_cons, List.flatMap_nil, Value.category, junk, oadd, osub, omul, oand, oor, oxor, odiv, orem, oshl, oshr, oushr, omax, omin]; simp (disch := first | omega | simp) [rk_i, rk_b, rk_o, st1, kill, Value.category, rcv, nog, hn, ly166, fq_of e1]) (fun _ => ?_) fun z => by cases z)
    rw [w_rI, q_icst]
    exact ⟨(fun y => by cases y), fun _ => Or.inr ⟨rfl, rfl, fr1, rfl, z2⟩⟩
  | ok x =>
    obtain ⟨p1, C1⟩ := x
    rw [hR] at z hV
    obtain ⟨rfl, q1, m1, -, hp1, hst1, hL1⟩ := z
    simp only at hV
    have b1 := GO_sum hz r _ _ _ hR
    have hn1 := q1.1
    have hm1 := q1.2.1
    refine w_sq.mpr (w_siC false h1 (by simp only [f_mkF, w_sI, w_sR, w_sL, w_sC, w_sk, w_sbr, w_sco, w_rV, w_rI, w_rR, w_rL, w_dI, w_sO, w_sq, w_si, w_pI, w_pZ, w_pR, w_pU, w_qI, w_qB, w_qZ, w_qU, w_qR, w_kV, q_icst, q_lcst, q_xR, q_ldI, q_ldR, q_ldL, q_bn, q_un, q_dv, q_fI, q_fR, q_aI, q_aR, q_aN, q_tn, q_cmp, q_cmz, q_cnt, q_ctt, q_cand, q_cor, q_vn, q_vI, q_vR, q_vL, q_kI, q_kR, q_kL, q_ckI, envN, argE, List.flatMap_cons, List.flatMap_nil, Value.category, junk, oadd, osub, omul, oand, oor, oxor, odiv, orem, oshl, oshr, oushr, omax, omin]; simp (disch := first | omega | simp) [rk_i, rk_b, rk_o, st1, kill, Value.category, rcv, nog, hn, ly166, fq_of e1]) (fun z => by cases z) fun _ => w_sk2.mpr ?_)
    have hh := m_here q1 m1.1 hp1
    have a1 : hvM s e p1 = 60 ↔ s p1 = 60 := hvM_e (c := 60) hs hz (by omega)
    have a2 : hvM s e p1 = 62 ↔ s p1 = 62 := hvM_e (c := 62) hs hz (by omega)
    have a3 : hvM s e p1 = 61 ↔ s p1 = 61 := hvM_e (c := 61) hs hz (by omega)
    have hw : ev (tn (cnt (cmp one (kI (rcv 11) F_X11_here (vR vn (ldR 0))) (icst 60))) (icst 7) (tn (cnt (cmp one (kI (rcv 11) F_X11_here (vR vn (ldR 0))) (icst 62))) (icst 8) (tn (cnt (cmp one (kI (rcv 11) F_X11_here (vR vn (ldR 0))) (icst 61))) (icst 9) (icst (-1))))) [.ref 166, junk] h1 fun x h2 => x = (if cmpP (s p1) = 0 then -1 else nI (cmpP (s p1))) ∧ h2 = h1 := by
      have kk := ev_k0 (E := [.ref 166, junk]) hn1 rfl hh
      have dn : ∀ c, ev (cnt (cmp one (kI (rcv 11) F_X11_here (vR vn (ldR 0))) (icst c))) [.ref 166, junk] h1 fun t h2 => t = (!(one (hvM s e p1) c)) ∧ h2 = h1 := fun c => ev_not (ev_cmpc kk)
      by_cases c1 : s p1 = 60
      · rw [q_tn]
        refine ev_T (ev_eqt (dn 60) (by simp [one, a1.mpr c1])) ⟨fun _ => ?_, fun z => by cases z⟩
        rw [q_icst, c1]; exact ⟨by decide, rfl⟩
      · rw [q_tn]
        refine ev_F (ev_eqt (dn 60) (by simp [one]; exact fun z => c1 (a1.mp z))) ⟨(fun z => by cases z), fun _ => ?_⟩
        by_cases c2 : s p1 = 62
        · rw [q_tn]
          refine ev_T (ev_eqt (dn 62) (by simp [one, a2.mpr c2])) ⟨fun _ => ?_, fun z => by cases z⟩
          rw [q_icst, c2]; exact ⟨by decide, rfl⟩
        · rw [q_tn]
          refine ev_F (ev_eqt (dn 62) (by simp [one]; exact fun z => c2 (a2.mp z))) ⟨(fun z => by cases z), fun _ => ?_⟩
          by_cases c3 : s p1 = 61
          · rw [q_tn]
            refine ev_T (ev_eqt (dn 61) (by simp [one, a3.mpr c3])) ⟨fun _ => ?_, fun z => by cases z⟩
            rw [q_icst, c3]; exact ⟨by decide, rfl⟩
          · rw [q_tn]
            refine ev_F (ev_eqt (dn 61) (by simp [one]; exact fun z => c3 (a3.mp z))) ⟨(fun z => by cases z), fun _ => ?_⟩
            rw [q_icst, if_pos ((cmp_e _ (hs p1)).mpr ⟨c1, c2, c3⟩)]; exact ⟨rfl, rfl⟩
    by_cases c0 : cmpP (s p1) = 0
    · rw [if_pos c0] at hV hw
      subst hV
      refine w_sqI (E' := [.ref 166, .int (-1)]) (-1) hw rfl ?_
      have e5 : F_X11_wrong [.ref 166, .int 1, .int (nI p1)] h1 = _ := m_wrong hn1 1 p1
      have mp := m1.1
      refine w_sq.mpr ((w_siT (by simp only [f_mkF, w_sI, w_sR, w_sL, w_sC, w_sk, w_sbr, w_sco, w_rV, w_rI, w_rR, w_rL, w_dI, w_sO, w_sq, w_si, w_pI, w_pZ, w_pR, w_pU, w_qI, w_qB, w_qZ, w_qU, w_qR, w_kV, q_icst, q_lcst, q_xR, q_ldI, q_ldR, q_ldL, q_bn, q_un, q_dv, q_fI, q_fR, q_aI, q_aR, q_aN, q_tn, q_cmp, q_cmz, q_cnt, q_ctt, q_cand, q_cor, q_vn, q_vI, q_vR, q_vL, q_kI, q_kR, q_kL, q_ckI, envN, argE, List.flatMap_cons, List.flatMap_nil, Value.category, junk, oadd, osub, omul, oand, oor, oxor, odiv, orem, oshl, oshr, oushr, omax, omin]; simp (disch := first | omega | simp) [rk_i, rk_b, rk_o, st1, kill, Value.category, rcv, nog])).mpr ?_)
      simp only [f_mkF, w_sI, w_sR, w_sL, w_sC, w_sk, w_sbr, w_sco, w_rV, w_rI, w_rR, w_rL, w_dI, w_sO, w_sq, w_si, w_pI, w_pZ, w_pR, w_pU, w_qI, w_qB, w_qZ, w_qU, w_qR, w_kV, q_icst, q_lcst, q_xR, q_ldI, q_ldR, q_ldL, q_bn, q_un, q_dv, q_fI, q_fR, q_aI, q_aR, q_aN, q_tn, q_cmp, q_cmz, q_cnt, q_ctt, q_cand, q_cor, q_vn, q_vI, q_vR, q_vL, q_kI, q_kR, q_kL, q_ckI, envN, argE, List.flatMap_cons, List.flatMap_nil, Value.category, junk, oadd, osub, omul, oand, oor, oxor, odiv, orem, oshl, oshr, oushr, omax, omin]
      simp (disch := first | omega | simp) [rk_i, rk_b, rk_o, st1, kill, Value.category, rcv, nog, hn1, ly166, mp, fq_of e5]
      exact ⟨fr1.w (by unfold SMr; omega), rfl, by rw [wI_i, if_pos ⟨rfl, rfl⟩]⟩
    · rw [if_neg c0] at hV hw
      obtain ⟨t1, t2, t3, t4⟩ := cmp_c (s p1) (hs p1) c0
      have hlt : p1 < e := lt_e hz t1
      generalize cmpP (s p1) = O at *
      have nO : ¬ nI O = -1 := fun z => by
        have y : (-1 : Int32) < 0 := by decide
        rw [← z] at y
        exact absurd y (Int32.not_lt.mpr (nI_0le (by omega)))
      refine w_sqI (E' := [.ref 166, .int (nI O)]) (nI O) hw rfl ?_
      refine w_sq.mpr ((w_siF (by simp only [f_mkF, w_sI, w_sR, w_sL, w_sC, w_sk, w_sbr, w_sco, w_rV, w_rI, w_rR, w_rL, w_dI, w_sO, w_sq, w_si, w_pI, w_pZ, w_pR, w_pU, w_qI, w_qB, w_qZ, w_qU, w_qR, w_kV, q_icst, q_lcst, q_xR, q_ldI, q_ldR, q_ldL, q_bn, q_un, q_dv, q_fI, q_fR, q_aI, q_aR, q_aN, q_tn, q_cmp, q_cmz, q_cnt, q_ctt, q_cand, q_cor, q_vn, q_vI, q_vR, q_vL, q_kI, q_kR, q_kL, q_ckI, envN, argE, List.flatMap_cons, List.flatMap_nil, Value.category, junk, oadd, osub, omul, oand, oor, oxor, odiv, orem, oshl, oshr, oushr, omax, omin]; simp (disch := first | omega | simp) [rk_i, rk_b, rk_o, st1, kill, Value.category, rcv, nog, nO])).mpr (w_sk2.mpr ?_))
      refine w_sqN (w_pMe (nI (p1 + 1)) hn1 rfl (ev_bc (ev_fM hn1 rfl m1.1) (nI_1 _)) ⟨rfl, ?_⟩)
      have f2 : Fr SMr h1 (wI h1 166 21 (nI (p1 + 1))) := (Fr.refl h1).w (by unfold SMr; omega)
      have m2 : MS (wI h1 166 21 (nI (p1 + 1))) (p1 + 1) (6 - r) (σ ++ nts j) (L ++ C1.map rfc) := m1.at (by simp [wI_i]) (by simp [wI_i]) (by simp [wI_i]) (by simp [wI_i]) (fun i => by simp [wI_i]) (fun i => by simp [wI_i])
      have q2 := q1.c f2
      generalize wI h1 166 21 (nI (p1 + 1)) = h2 at *
      have hn2 := q2.1
      obtain ⟨v3, h3, e3, f3, z⟩ := m_sum q2 m2 (by omega) (by omega) (by omega) hr (hhi.stop true)
      have fr3 : Fr SMr h0 h3 := fr1.trans (f2.trans f3)
      cases hR2 : sumP s r (p1 + 1) with
      | error f =>
        rw [hR2] at z hV
        obtain ⟨rfl, z2⟩ := z
        simp only at hV
        subst hV
        refine w_sq.mpr (w_siC true h3 (by simp only [f_mkF, w_sI, w_sR, w_sL, w_sC, w_sk, w_sbr, w_sco, w_rV, w_rI, w_rR, w_rL, w_dI, w_sO, w_sq, w_si, w_pI, w_pZ, w_pR, w_pU, w_qI, w_qB, w_qZ, w_qU, w_qR, w_kV, q_icst, q_lcst, q_xR, q_ldI, q_ldR, q_ldL, q_bn, q_un, q_dv, q_fI, q_fR, q_aI, q_aR, q_aN, q_tn, q_cmp, q_cmz, q_cnt, q_ctt, q_cand, q_cor, q_vn, q_vI, q_vR, q_vL, q_kI, q_kR, q_kL, q_ckI, envN, argE, List.flatMap_cons, List.flatMap_nil, Value.category, junk, oadd, osub, omul, oand, oor, oxor, odiv, orem, oshl, oshr, oushr, omax, omin]; simp (disch := first | omega | simp) [rk_i, rk_b, rk_o, st1, kill, Value.category, rcv, nog, hn2, ly166, fq_of e3]) (fun _ => ?_) fun z => by cases z)
        rw [w_rI, q_icst]
        exact ⟨(fun y => by cases y), fun _ => Or.inr ⟨rfl, rfl, fr3, rfl, z2⟩⟩
      | ok x =>
        obtain ⟨p2, C2⟩ := x
        rw [hR2] at z hV
        obtain ⟨rfl, q3, m3, -, hp3, hst3, hL3⟩ := z
        simp only at hV
        subst hV
        have b2 := GO_sum hz r _ _ _ hR2
        have hn3 := q3.1
        have hm3 := q3.2.1
        have ll : (L ++ C1.map rfc ++ C2.map rfc).length = L.length + C1.length + C2.length := by simp; omega
        refine w_sq.mpr (w_siC false h3 (by simp only [f_mkF, w_sI, w_sR, w_sL, w_sC, w_sk, w_sbr, w_sco, w_rV, w_rI, w_rR, w_rL, w_dI, w_sO, w_sq, w_si, w_pI, w_pZ, w_pR, w_pU, w_qI, w_qB, w_qZ, w_qU, w_qR, w_kV, q_icst, q_lcst, q_xR, q_ldI, q_ldR, q_ldL, q_bn, q_un, q_dv, q_fI, q_fR, q_aI, q_aR, q_aN, q_tn, q_cmp, q_cmz, q_cnt, q_ctt, q_cand, q_cor, q_vn, q_vI, q_vR, q_vL, q_kI, q_kR, q_kL, q_ckI, envN, argE, List.flatMap_cons, List.flatMap_nil, Value.category, junk, oadd, osub, omul, oand, oor, oxor, odiv, orem, oshl, oshr, oushr, omax, omin]; simp (disch := first | omega | simp) [rk_i, rk_b, rk_o, st1, kill, Value.category, rcv, nog, hn2, ly166, fq_of e3]) (fun z => by cases z) fun _ => w_sk2.mpr ?_)
        refine w_sqS (fun E1 h4 => E1 = [.ref 166, .int (nI O)] ∧ Fr SMr h3 h4 ∧ MS h4 p2 (6 - r) (σ ++ nts j) (L ++ C1.map rfc ++ C2.map rfc ++ [(O, 0)])) (w_kVe [.ref 166, .int (nI O), .int (nI 0)] (by simp only [f_mkF, w_sI, w_sR, w_sL, w_sC, w_sk, w_sbr, w_sco, w_rV, w_rI, w_rR, w_rL, w_dI, w_sO, w_sq, w_si, w_pI, w_pZ, w_pR, w_pU, w_qI, w_qB, w_qZ, w_qU, w_qR, w_kV, q_icst, q_lcst, q_xR, q_ldI, q_ldR, q_ldL, q_bn, q_un, q_dv, q_fI, q_fR, q_aI, q_aR, q_aN, q_tn, q_cmp, q_cmz, q_cnt, q_ctt, q_cand, q_cor, q_vn, q_vI, q_vR, q_vL, q_kI, q_kR, q_kL, q_ckI, envN, argE, List.flatMap_cons, List.flatMap_nil, Value.category, junk, oadd, osub, omul, oand, oor, oxor, odiv, orem, oshl, oshr, oushr, omax, omin]; simp; rfl) (by simp [rcv, hn3, ly166]) (fq_mono (m_says hn3 hm3 m3 (op := O) (by omega) (v := 0) (by omega) (by omega)) (by rintro r h4 ⟨rfl, z⟩; exact ⟨rfl, rfl, rfl, z⟩))) ?_
        rintro E1 h4 ⟨rfl, f4, m4⟩
        have q4 := q3.c f4
        have hn4 := q4.1
        have hm4 := q4.2.1
        have m4' : MS h4 p2 (6 - r - j + j) (σ ++ List.replicate j (10, 0)) (L ++ C1.map rfc ++ C2.map rfc ++ [(O, 0)]) := by rw [show 6 - r - j + j = 6 - r from by omega]; exact m4
        have lst : (σ ++ nts j).length = σ.length + j := by rw [List.length_append, nts_l]
        have l4 : (L ++ C1.map rfc ++ C2.map rfc ++ [(O, 0)]).length = L.length + C1.length + C2.length + 1 := by simp; omega
        have en := m_ends hn4 hm4 m4' (by omega) (by omega) (by omega) h10
        refine w_sqS (fun E1 h5 => E1 = [.ref 166, .int (nI O)] ∧ Fr SMr h4 h5 ∧ MS h5 p2 (6 - r - j) σ (L ++ C1.map rfc ++ C2.map rfc ++ [(O, 0)] ++ nts j)) (w_kVe [.ref 166] (by simp only [f_mkF, w_sI, w_sR, w_sL, w_sC, w_sk, w_sbr, w_sco, w_rV, w_rI, w_rR, w_rL, w_dI, w_sO, w_sq, w_si, w_pI, w_pZ, w_pR, w_pU, w_qI, w_qB, w_qZ, w_qU, w_qR, w_kV, q_icst, q_lcst, q_xR, q_ldI, q_ldR, q_ldL, q_bn, q_un, q_dv, q_fI, q_fR, q_aI, q_aR, q_aN, q_tn, q_cmp, q_cmz, q_cnt, q_ctt, q_cand, q_cor, q_vn, q_vI, q_vR, q_vL, q_kI, q_kR, q_kL, q_ckI, envN, argE, List.flatMap_cons, List.flatMap_nil, Value.category, junk, oadd, osub, omul, oand, oor, oxor, odiv, orem, oshl, oshr, oushr, omax, omin]; simp) (by simp [rcv, hn4, ly166]) (fq_mono en (by rintro r h5 ⟨rfl, z⟩; exact ⟨rfl, rfl, rfl, z⟩))) ?_
        rintro E1 h5 ⟨rfl, f5, m5⟩
        have fr5 : Fr SMr h0 h5 := fr3.trans (f4.trans f5)
        rw [w_rI, q_icst]
        refine Or.inr ⟨rfl, rfl, fr5, rfl, q4.c f5, ?_, fr5, hp3, by omega, ?_⟩
        · simp only [List.map_append, List.map_cons, List.map_nil, rfc_op (show 2 ≤ O ∧ O ≤ 10 by omega)]
          rw [← List.append_assoc, ← List.append_assoc]
          exact m5
        · simp only [List.length_append, List.length_map, List.length_singleton, nts_l]
          omega
noncomputable def OLp : Sm := lp (cor (cmp oeq (kI (rcv 11) F_X11_here (vR vn (ldR 0))) (icst 33)) (cnt (cmp one (kI (rcv 11) F_X11_here (vR vn (ldR 0))) (icst 40)))) (si (cnt (cmz zne (kI (rcv 11) F_X11_opens (vI (vR vn (ldR 0)) (tn (cnt (cmp one (kI (rcv 11) F_X11_here (vR vn (ldR 0))) (icst 33))) (icst 10) (icst 13)))))) (rI (icst 0)) sk) sk
noncomputable def CLp : Sm := lp (cnt (cmp one (kI (rcv 11) F_X11_here (vR vn (ldR 0))) (icst 41))) (sq (kV (rcv 11) F_X11_lands (vI (vR vn (ldR 0)) (icst 1))) (sq (pI 11 26 (ldR 0) (bn osub (fI 11 26 (ldR 0)) (icst 1))) (sq (pI 11 24 (ldR 0) (bn osub (fI 11 24 (ldR 0)) (icst 1))) (sq (pI 11 21 (ldR 0) (bn oadd (fI 11 21 (ldR 0)) (icst 1))) (sq (si (cnt (cmz zne (fI 11 26 (ldR 0)))) (rI (icst 1)) sk) (kV (rcv 11) F_X11_endsPiece (vR vn (ldR 0)))))))) sk
noncomputable def TLp : Sm := (sq (si (cand (cnt (cmp oeq (kI (rcv 11) F_X11_here (vR vn (ldR 0))) (icst 38))) (cnt (cmp oeq (kI (rcv 11) F_X11_here (vR vn (ldR 0))) (icst 124)))) (rI (kI (rcv 11) F_X11_wrong (vI (vI (vR vn (ldR 0)) (icst 1)) (fI 11 21 (ldR 0))))) sk) (sq (kV (rcv 11) F_X11_lands (vI (vR vn (ldR 0)) (tn (cnt (cmp one (kI (rcv 11) F_X11_here (vR vn (ldR 0))) (icst 124))) (icst 1) (icst 0)))) (kV (rcv 11) F_X11_jumps (vI (vR vn (ldR 0)) (tn (cnt (cmp one (kI (rcv 11) F_X11_here (vR vn (ldR 0))) (icst 38))) (icst 11) (icst 12))))))
noncomputable def BDc : Sm := sq OLp (sq (si (cnt (cmz zne (kI (rcv 11) F_X11_readsCompared (vR vn (ldR 0))))) (rI (icst 0)) sk) (sq CLp TLp))
noncomputable def OUT : Sm := lp ctt BDc sk
theorem RC_eq : F_X11_readsCondition = mkF 1 (some .boolean) (sq (si (cnt (cmp oeq (kI (rcv 11) F_X11_here (vR vn (ldR 0))) (icst 40))) (rI (kI (rcv 11) F_X11_wrong (vI (vI (vR vn (ldR 0)) (icst 1)) (fI 11 21 (ldR 0))))) sk) (sq (pI 11 24 (ldR 0) (icst 0)) (sq (pI 11 26 (ldR 0) (icst 0)) (sq (si (cnt (cmz zne (kI (rcv 11) F_X11_opens (vI (vR vn (ldR 0)) (icst 13))))) (rI (icst 0)) sk) OUT)))) := rfl
def WAc (Q : Value → Hp → Prop) (h : Hp) : Prop := wp OUT [.ref 166] h fun o v _ h' => o = 2 ∧ Q v h'
def PWc (Q : Value → Hp → Prop) (o : Nat) (v : Value) (E1 : En) (h2 : Hp) : Prop := (o = 0 ∧ E1 = [.ref 166] ∧ WAc Q h2) ∨ (o = 2 ∧ Q v h2)
def WBc (Q : Value → Hp → Prop) (h : Hp) : Prop := wp (sq CLp TLp) [.ref 166] h (PWc Q)
