/-! the reference reads: steps of a condition -/
section CONDS
variable {s : Nat → Nat} {e : Nat} {h0 : Hp} {Q : Value → Hp → Prop}
theorem WA_unr {h : Hp} (H : wp BDc [.ref 166] h (PWc Q)) : WAc Q h := by
  unfold WAc OUT
  refine w_unr ?_
  rw [q_ctt]
  refine ⟨(fun z => by cases z), fun _ => wp_mono H ?_⟩
  rintro o v E1 h2 (⟨rfl, rfl, w⟩ | ⟨rfl, z⟩)
  · exact ⟨fun _ => w_sk.mpr ⟨rfl, w⟩, (fun z => by cases z), fun z => absurd rfl z⟩
  · exact ⟨(fun z => by rcases z with z | z <;> cases z), (fun z => by cases z), fun _ _ _ => ⟨rfl, z⟩⟩
theorem q_ol {h : Hp} {p : Nat} (q : MR s e h) (hp : h.2.1 166 21 = nI p) (hpe : p ≤ e) : ev (cor (cmp oeq (kI (rcv 11) F_X11_here (vR vn (ldR 0))) (icst 33)) (cnt (cmp one (kI (rcv 11) F_X11_here (vR vn (ldR 0))) (icst 40)))) [.ref 166] h fun t h1 => t = decide (s p = 33 ∨ s p = 40) ∧ h1 = h := by
  have hs := q.2.2.2.2.2.1
  have hz := q.2.2.2.2.2.2
  have k1 := ev_k0 (E := [.ref 166]) q.1 rfl (m_here q hp hpe)
  have a1 : hvM s e p = 33 ↔ s p = 33 := hvM_e (c := 33) hs hz (by omega)
  have a2 : hvM s e p = 40 ↔ s p = 40 := hvM_e (c := 40) hs hz (by omega)
  refine ev_eqt (ev_or _ _ (ev_cmpc k1) fun _ => ev_not (ev_cmpc k1)) ?_
  simp [oeq, one, a1, a2]
theorem q_ow {h : Hp} {p : Nat} (q : MR s e h) (hp : h.2.1 166 21 = nI p) (hpe : p ≤ e) {c a b : Nat} (hc : 0 < c ∧ c < 256) {cc ca cb : Int32} (h1 : cc = nI c) (h2 : ca = nI a) (h3 : cb = nI b) : ev (tn (cnt (cmp one (kI (rcv 11) F_X11_here (vR vn (ldR 0))) (icst cc))) (icst ca) (icst cb)) [.ref 166] h fun x h1 => x = nI (if s p = c then a else b) ∧ h1 = h := by
  subst h1 h2 h3
  have hs := q.2.2.2.2.2.1
  have hz := q.2.2.2.2.2.2
  have k1 := ev_k0 (E := [.ref 166]) q.1 rfl (m_here q hp hpe)
  have a1 : hvM s e p = nI c ↔ s p = c := hvM_e hs hz hc
  rw [q_tn]
  by_cases z : s p = c
  · rw [if_pos z]
    refine ev_T (ev_eqt (ev_not (ev_cmpc k1)) (by simp [one, a1, z])) ⟨fun _ => ?_, fun z => by cases z⟩
    rw [q_icst]; exact ⟨rfl, rfl⟩
  · rw [if_neg z]
    refine ev_F (ev_eqt (ev_not (ev_cmpc k1)) (by simp [one, a1, z])) ⟨(fun z => by cases z), fun _ => ?_⟩
    rw [q_icst]; exact ⟨rfl, rfl⟩
theorem q_arg {F : FN} {a : DI} {E : En} {h : Hp} {x : Int32} (hE : E[0]? = some (.ref 166)) (ha : ev a E h fun v h1 => v = x ∧ h1 = h) : ev (vI (vR vn (ldR 0)) a) E h fun v h1 => v = [.ref 166, .int x] ∧ h1 = h := by
  rw [q_vI, q_vR, q_vn, q_ldR]
  refine ⟨166, hE, ?_⟩
  refine ev_mono ha ?_
  rintro v h1 ⟨rfl, rfl⟩
  exact ⟨rfl, rfl⟩
theorem A_open {h : Hp} {p o : Nat} {st L : List Pr2} (g : GN s e h0 h p o st L) (hc : s p = 33 ∨ s p = 40) (ho : o < 6) : ∃ h1, GN s e h0 h1 (p + 1) (o + 1) (st ++ [(if s p = 33 then 10 else 13, 0)]) L ∧ (WAc Q h1 → WAc Q h) := by
  obtain ⟨q, m, fr, hpe, hst, hL⟩ := g
  have hn := q.1
  have hz := q.2.2.2.2.2.2
  have h160 := q.2.2.2.1
  have hlt : p < e := lt_e hz (by omega)
  have hw14 : (if s p = 33 then 10 else 13) ≤ 14 := by split <;> omega
  obtain ⟨r, h1, e2, z⟩ := m_opens hn q.2.1 m (w := if s p = 33 then 10 else 13) hw14 (by omega) (by omega)
  rw [if_neg (by omega)] at z
  obtain ⟨rfl, f1, m1⟩ := z
  refine ⟨h1, ⟨q.c f1, m1, fr.trans f1, by omega, by simp; omega, ?_⟩, ?_⟩
  · rw [nn_app]
    have : nn [(if s p = 33 then 10 else 13, 0)] ≤ 1 := by
      unfold nn
      exact Nat.le_trans (List.length_filter_le ..) (by simp)
    omega
  have key : OLp [.ref 166] h = OLp [.ref 166] h1 := by
    obtain ⟨t, h2, c2, rfl, rfl⟩ := ev_eqt (q_ol q m.1 hpe) (u := true) (by simpa using hc)
    have c3 : wp (si (cnt (cmz zne (kI (rcv 11) F_X11_opens (vI (vR vn (ldR 0)) (tn (cnt (cmp one (kI (rcv 11) F_X11_here (vR vn (ldR 0))) (icst 33))) (icst 10) (icst 13)))))) (rI (icst 0)) sk) [.ref 166] h2 fun o v E h3 => o = 0 ∧ v = .null ∧ E = [.ref 166] ∧ h3 = h1 := by
      refine w_siC false h1 ?_ (fun z => by cases z) fun _ => ?_
      · rw [q_cnt, q_cmz, q_kI]
        refine ev_mono (q_arg (F := F_X11_opens) rfl (q_ow q m.1 hpe (c := 33) (a := 10) (b := 13) (by omega) rfl rfl rfl)) ?_
        rintro v h3 ⟨rfl, rfl⟩
        refine ⟨by simp [rcv, hn, ly166], (fq_of e2).mpr ⟨1, rfl, rfl, rfl⟩⟩
      · rw [w_sk]
        exact ⟨rfl, rfl, rfl, rfl⟩
    obtain ⟨o', v', E', h3, c4, rfl, rfl, rfl, rfl⟩ := c3
    unfold OLp
    rw [lp_eq, c2]
    simp only [Option.bind_some, if_true, c4]
    rfl
  have kb : BDc [.ref 166] h = BDc [.ref 166] h1 := by
    unfold BDc sq
    rw [key]
  intro w
  unfold WAc OUT wp at w ⊢
  rw [lp_eq] at w ⊢
  have c1 : ∀ h : Hp, ctt [.ref 166] h = some (true, h) := fun _ => rfl
  rw [c1] at w ⊢
  simp only [Option.bind_some, if_true, kb] at w ⊢
  exact w
theorem A_deep {h : Hp} {p : Nat} {st L : List Pr2} (g : GN s e h0 h p 6 st L) (hc : s p = 33 ∨ s p = 40) (hE : EF Q h0 (5000 + p)) : WAc Q h := by
  obtain ⟨q, m, fr, hpe, hst, hL⟩ := g
  have hn := q.1
  have h160 := q.2.2.2.1
  have hw14 : (if s p = 33 then 10 else 13) ≤ 14 := by split <;> omega
  obtain ⟨r, h1, e2, z⟩ := m_opens hn q.2.1 m (w := if s p = 33 then 10 else 13) hw14 (by omega) (by omega)
  rw [if_pos rfl] at z
  obtain ⟨rfl, rfl⟩ := z
  refine WA_unr ?_
  unfold BDc OLp
  refine w_sq.mpr ?_
  refine w_unr (ev_T (ev_eqt (q_ol q m.1 hpe) (by simpa using hc)) ⟨(fun z => by cases z), fun _ => ?_⟩)
  refine w_siC true (wI h 166 23 (-(nI (5000 + p)))) ?_ (fun _ => ?_) fun z => by cases z
  · rw [q_cnt, q_cmz, q_kI]
    refine ev_mono (q_arg (F := F_X11_opens) rfl (q_ow q m.1 hpe (c := 33) (a := 10) (b := 13) (by omega) rfl rfl rfl)) ?_
    rintro v h3 ⟨rfl, rfl⟩
    refine ⟨by simp [rcv, hn, ly166], (fq_of e2).mpr ⟨0, rfl, rfl, rfl⟩⟩
  · rw [w_rI, q_icst]
    refine ⟨(fun z => by rcases z with z | z <;> cases z), (fun z => by cases z), fun _ _ _ => ⟨(fun z => by cases z), fun _ => Or.inr ⟨rfl, ?_⟩⟩⟩
    exact hE _ (fr.w (by unfold SMr; omega)) (by rw [wI_i, if_pos ⟨rfl, rfl⟩])
theorem A_cmp {h : Hp} {p r j : Nat} {σ L : List Pr2} (g : GN s e h0 h p (6 - r) (σ ++ nts j) L) (hr : r ≤ 6) (hj : j ≤ 6 - r) (hhi : hiM (σ ++ nts j)) (h10 : stopM (fun x => decide (x = 10)) σ) (hc : ¬ (s p = 33 ∨ s p = 40)) (hE : ∀ f, cprP s r p = .error f → EF Q h0 f) (hK : ∀ p' C h', cprP s r p = .ok (p', C) → GN s e h0 h' p' (6 - r - j) σ (L ++ C.map rfc ++ nts j) → WBc Q h') : WAc Q h := by
  obtain ⟨v1, h1, e1, f1, z⟩ := m_cpr g hr hj hhi h10
  obtain ⟨q, m, fr, hpe, hst, hL⟩ := g
  have hn := q.1
  refine WA_unr ?_
  unfold BDc
  refine w_sqS (fun E1 h2 => E1 = [.ref 166] ∧ h2 = h) ?_ ?_
  · unfold OLp
    exact w_unr (ev_F (ev_eqt (q_ol q m.1 hpe) (by simpa using hc)) ⟨fun _ => ⟨rfl, rfl, rfl⟩, fun z => by cases z⟩)
  rintro E1 h2 ⟨rfl, rfl⟩
  cases hR : cprP s r p with
  | error f =>
    rw [hR] at z
    obtain ⟨rfl, z2⟩ := z
    refine w_sq.mpr (w_siC true h1 (by simp only [f_mkF, w_sI, w_sR, w_sL, w_sC, w_sk, w_sbr, w_sco, w_rV, w_rI, w_rR, w_rL, w_dI, w_sO, w_sq, w_si, w_pI, w_pZ, w_pR, w_pU, w_qI, w_qB, w_qZ, w_qU, w_qR, w_kV, q_icst, q_lcst, q_xR, q_ldI, q_ldR, q_ldL, q_bn, q_un, q_dv, q_fI, q_fR, q_aI, q_aR, q_aN, q_tn, q_cmp, q_cmz, q_cnt, q_ctt, q_cand, q_cor, q_vn, q_vI, q_vR, q_vL, q_kI, q_kR, q_kL, q_ckI, envN, argE, List.flatMap_cons, List.flatMap_nil, Value.category, junk, oadd, osub, omul, oand, oor, oxor, odiv, orem, oshl, oshr, oushr, omax, omin]; simp (disch := first | omega | simp) [rk_i, rk_b, rk_o, st1, kill, Value.category, rcv, nog, hn, ly166, fq_of e1]) (fun _ => ?_) fun z => by cases z)
    rw [w_rI, q_icst]
    exact ⟨(fun y => by cases y), fun _ => Or.inr ⟨rfl, hE f hR _ f1 z2⟩⟩
  | ok x =>
    obtain ⟨p', C⟩ := x
    rw [hR] at z
    obtain ⟨rfl, z2⟩ := z
    refine w_sq.mpr (w_siC false h1 (by simp only [f_mkF, w_sI, w_sR, w_sL, w_sC, w_sk, w_sbr, w_sco, w_rV, w_rI, w_rR, w_rL, w_dI, w_sO, w_sq, w_si, w_pI, w_pZ, w_pR, w_pU, w_qI, w_qB, w_qZ, w_qU, w_qR, w_kV, q_icst, q_lcst, q_xR, q_ldI, q_ldR, q_ldL, q_bn, q_un, q_dv, q_fI, q_fR, q_aI, q_aR, q_aN, q_tn, q_cmp, q_cmz, q_cnt, q_ctt, q_cand, q_cor, q_vn, q_vI, q_vR, q_vL, q_kI, q_kR, q_kL, q_ckI, envN, argE, List.flatMap_cons, List.flatMap_nil, Value.category, junk, oadd, osub, omul, oand, oor, oxor, odiv, orem, oshl, oshr, oushr, omax, omin]; simp (disch := first | omega | simp) [rk_i, rk_b, rk_o, st1, kill, Value.category, rcv, nog, hn, ly166, fq_of e1]) (fun z => by cases z) fun _ => w_sk2.mpr ?_)
    exact hK p' C h1 hR z2
theorem q_cl {h : Hp} {p : Nat} (q : MR s e h) (hp : h.2.1 166 21 = nI p) (hpe : p ≤ e) : ev (cnt (cmp one (kI (rcv 11) F_X11_here (vR vn (ldR 0))) (icst 41))) [.ref 166] h fun t h1 => t = decide (s p = 41) ∧ h1 = h := by
  have k1 := ev_k0 (E := [.ref 166]) q.1 rfl (m_here q hp hpe)
  have a1 : hvM s e p = 41 ↔ s p = 41 := hvM_e (c := 41) q.2.2.2.2.2.1 q.2.2.2.2.2.2 (by omega)
  exact ev_eqt (ev_not (ev_cmpc k1)) (by simp [one, a1])
theorem stop13 (σ : List Pr2) (f : Nat → Bool) (h : f 13 = false) : stopM f (σ ++ [(13, 0)]) := by
  intro l x z
  have := List.append_inj' z rfl
  have hx : (13, 0) = x := by simpa using this.2
  rw [← hx]; exact h
theorem B_close {h : Hp} {p o j : Nat} {σ pend L : List Pr2} (g : GN s e h0 h p (o + j + 1) (σ ++ nts j ++ [(13, 0)] ++ pend) L) (hc : s p = 41) (ho : o + j < 10) (hpd : ∀ x, x ∈ pend → lanM true x.1 = true ∧ x.2 < L.length) (h10 : stopM (fun x => decide (x = 10)) σ)
    (k1 : σ ++ nts j = [] → ∀ h1, GN s e h0 h1 (p + 1) o [] (ptl L pend) → Q (.int 1) h1)
    (k2 : σ ++ nts j ≠ [] → ∀ h1, GN s e h0 h1 (p + 1) o σ (ptl L pend ++ nts j) → WBc Q h1) : WBc Q h := by
  obtain ⟨q, m, fr, hpe, hst, hL⟩ := g
  have hn := q.1
  have hz := q.2.2.2.2.2.2
  have h160 := q.2.2.2.1
  have hlt : p < e := lt_e hz (by omega)
  have lst : (σ ++ nts j ++ [(13, 0)] ++ pend).length = σ.length + j + 1 + pend.length := by simp only [List.length_append, nts_l, List.length_singleton]
  rw [lst] at hst
  have nnst : nn σ + j ≤ nn (σ ++ nts j ++ [(13, 0)] ++ pend) := by rw [nn_app, nn_app, nn_app, nn_nts]; omega
  have o1 : b2 ((true : Bool) = true) = 1 := by decide
  unfold WBc
  refine w_sq.mpr ?_
  unfold CLp
  refine w_unr (ev_T (ev_eqt (q_cl q m.1 hpe) (by simpa using hc)) ⟨(fun z => by cases z), fun _ => ?_⟩)
  have la := m_lands hn q.2.1 m true (by omega) (by omega) hpd (stop13 _ _ rfl)
  rw [o1] at la
  refine w_sqS (fun E1 h1 => E1 = [.ref 166] ∧ Fr SMr h h1 ∧ MS h1 p (o + j + 1) (σ ++ nts j ++ [(13, 0)]) (ptl L pend)) (w_kVe [.ref 166, .int 1] (by simp only [f_mkF, w_sI, w_sR, w_sL, w_sC, w_sk, w_sbr, w_sco, w_rV, w_rI, w_rR, w_rL, w_dI, w_sO, w_sq, w_si, w_pI, w_pZ, w_pR, w_pU, w_qI, w_qB, w_qZ, w_qU, w_qR, w_kV, q_icst, q_lcst, q_xR, q_ldI, q_ldR, q_ldL, q_bn, q_un, q_dv, q_fI, q_fR, q_aI, q_aR, q_aN, q_tn, q_cmp, q_cmz, q_cnt, q_ctt, q_cand, q_cor, q_vn, q_vI, q_vR, q_vL, q_kI, q_kR, q_kL, q_ckI, envN, argE, List.flatMap_cons, List.flatMap_nil, Value.category, junk, oadd, osub, omul, oand, oor, oxor, odiv, orem, oshl, oshr, oushr, omax, omin]; simp) (by simp [rcv, hn, ly166]) (fq_mono la (by rintro r h1 ⟨rfl, z⟩; exact ⟨rfl, rfl, rfl, z⟩))) ?_
  rintro E1 h1 ⟨rfl, f1, m1⟩
  have q1 := q.c f1
  have hn1 := q1.1
  have w3 : h1.2.1 166 26 = nI (σ.length + j + 1) := by rw [m1.2.2.1]; congr 1; simp only [List.length_append, nts_l, List.length_singleton]
  refine w_sqN (w_pMe (nI (σ.length + j)) hn1 rfl (ev_bc (ev_fM hn1 rfl w3) (nI_pred _)) ⟨rfl, ?_⟩)
  refine w_sqN (w_pMe (nI (o + j)) hn1 rfl (ev_bc (ev_fM hn1 rfl (by rw [wI_i, if_neg (by omega)]; exact m1.2.1)) (nI_pred _)) ⟨rfl, ?_⟩)
  refine w_sqN (w_pMe (nI (p + 1)) hn1 rfl (ev_bc (ev_fM hn1 rfl (by rw [wI_i, if_neg (by omega), wI_i, if_neg (by omega)]; exact m1.1)) (nI_1 _)) ⟨rfl, ?_⟩)
  have fr2 : Fr SMr h1 (wI (wI (wI h1 166 26 (nI (σ.length + j))) 166 24 (nI (o + j))) 166 21 (nI (p + 1))) := (((Fr.refl h1).w (by unfold SMr; omega)).w (by unfold SMr; omega)).w (by unfold SMr; omega)
  have m2 : MS (wI (wI (wI h1 166 26 (nI (σ.length + j))) 166 24 (nI (o + j))) 166 21 (nI (p + 1))) (p + 1) (o + j) (σ ++ nts j) (ptl L pend) := by
    obtain ⟨t1, t2, t3, t4, t5, t6, t7, t8⟩ := m1
    exact ⟨by simp [wI_i], by simp [wI_i], by simp [wI_i, nts_l], by simp [wI_i, t4], t5.pre (fun i _ => by simp [wI_i]), t6.c (fun i _ => by simp [wI_i]), t7.pre, t8⟩
  generalize wI (wI (wI h1 166 26 (nI (σ.length + j))) 166 24 (nI (o + j))) 166 21 (nI (p + 1)) = h2 at *
  have q2 := q1.c fr2
  have hn2 := q2.1
  have w4 := m2.2.2.1
  have ll := ptl_l L pend
  have lsj : (σ ++ nts j).length = σ.length + j := by rw [List.length_append, nts_l]
  by_cases ce : σ ++ nts j = []
  · have z0 : h2.2.1 166 26 = 0 := by rw [w4, ce]; rfl
    have sj : σ.length + j = 0 := by rw [← lsj, ce]; rfl
    have j0 : j = 0 := by omega
    subst j0
    rw [ce] at m2
    refine w_sq.mpr ((w_siT (by simp only [f_mkF, w_sI, w_sR, w_sL, w_sC, w_sk, w_sbr, w_sco, w_rV, w_rI, w_rR, w_rL, w_dI, w_sO, w_sq, w_si, w_pI, w_pZ, w_pR, w_pU, w_qI, w_qB, w_qZ, w_qU, w_qR, w_kV, q_icst, q_lcst, q_xR, q_ldI, q_ldR, q_ldL, q_bn, q_un, q_dv, q_fI, q_fR, q_aI, q_aR, q_aN, q_tn, q_cmp, q_cmz, q_cnt, q_ctt, q_cand, q_cor, q_vn, q_vI, q_vR, q_vL, q_kI, q_kR, q_kL, q_ckI, envN, argE, List.flatMap_cons, List.flatMap_nil, Value.category, junk, oadd, osub, omul, oand, oor, oxor, odiv, orem, oshl, oshr, oushr, omax, omin]; simp (disch := first | omega | simp) [rk_i, rk_b, rk_o, st1, kill, Value.category, rcv, nog, hn2, ly166, z0])).mpr ?_)
    rw [w_rI, q_icst]
    refine ⟨(fun z => by cases z), fun _ => ⟨(fun z => by rcases z with z | z <;> cases z), (fun z => by cases z), fun _ _ _ => ⟨(fun z => by cases z), fun _ => Or.inr ⟨rfl, ?_⟩⟩⟩⟩
    exact k1 ce h2 ⟨q2, m2, fr.trans (f1.trans fr2), by omega, by simp, by rw [ll]; unfold nn; simp; omega⟩
  · have nz : ¬ h2.2.1 166 26 = 0 := by
      rw [w4, lsj]
      intro z
      have := (nI_eq (a := σ.length + j) (b := 0) (by omega) (by omega)).mp z
      exact ce (List.eq_nil_of_length_eq_zero (by rw [lsj]; omega))
    refine w_sq.mpr ((w_siF (by simp only [f_mkF, w_sI, w_sR, w_sL, w_sC, w_sk, w_sbr, w_sco, w_rV, w_rI, w_rR, w_rL, w_dI, w_sO, w_sq, w_si, w_pI, w_pZ, w_pR, w_pU, w_qI, w_qB, w_qZ, w_qU, w_qR, w_kV, q_icst, q_lcst, q_xR, q_ldI, q_ldR, q_ldL, q_bn, q_un, q_dv, q_fI, q_fR, q_aI, q_aR, q_aN, q_tn, q_cmp, q_cmz, q_cnt, q_ctt, q_cand, q_cor, q_vn, q_vI, q_vR, q_vL, q_kI, q_kR, q_kL, q_ckI, envN, argE, List.flatMap_cons, List.flatMap_nil, Value.category, junk, oadd, osub, omul, oand, oor, oxor, odiv, orem, oshl, oshr, oushr, omax, omin]; simp (disch := first | omega | simp) [rk_i, rk_b, rk_o, st1, kill, Value.category, rcv, nog, hn2, ly166, nz])).mpr (w_sk2.mpr ?_))
    have en := m_ends hn2 q2.2.1 m2 (by omega) (by omega) (by omega) h10
    refine w_kVe [.ref 166] (by simp only [f_mkF, w_sI, w_sR, w_sL, w_sC, w_sk, w_sbr, w_sco, w_rV, w_rI, w_rR, w_rL, w_dI, w_sO, w_sq, w_si, w_pI, w_pZ, w_pR, w_pU, w_qI, w_qB, w_qZ, w_qU, w_qR, w_kV, q_icst, q_lcst, q_xR, q_ldI, q_ldR, q_ldL, q_bn, q_un, q_dv, q_fI, q_fR, q_aI, q_aR, q_aN, q_tn, q_cmp, q_cmz, q_cnt, q_ctt, q_cand, q_cor, q_vn, q_vI, q_vR, q_vL, q_kI, q_kR, q_kL, q_ckI, envN, argE, List.flatMap_cons, List.flatMap_nil, Value.category, junk, oadd, osub, omul, oand, oor, oxor, odiv, orem, oshl, oshr, oushr, omax, omin]; simp) (by simp [rcv, hn2, ly166]) (fq_mono en ?_)
    rintro r h3 ⟨rfl, f3, m3⟩
    refine ⟨rfl, ⟨fun _ => w_sk.mpr ⟨rfl, ?_⟩, (fun z => by cases z), fun z => absurd rfl z⟩⟩
    have g3 : GN s e h0 h3 (p + 1) o σ (ptl L pend ++ nts j) := ⟨q2.c f3, m3, fr.trans (f1.trans (fr2.trans f3)), by omega, by omega, by rw [List.length_append, ll, nts_l]; omega⟩
    have w := k2 ce h3 g3
    unfold WBc CLp at w
    exact w_sq.mp w
theorem B_join {h : Hp} {p o : Nat} {σ pend L : List Pr2} (all : Bool) (g : GN s e h0 h p o (σ ++ pend) L) (hc : s p = if all = true then 124 else 38) (hpd : ∀ x, x ∈ pend → lanM all x.1 = true ∧ x.2 < L.length) (hσ : stopM (lanM all) σ) (hk : ∀ h1, GN s e h0 h1 (p + 1) o (σ ++ [(if all = true then 12 else 11, L.length)]) (ptl L pend ++ [(if all = true then 12 else 11, 0)]) → WAc Q h1) : WBc Q h := by
  obtain ⟨q, m, fr, hpe, hst, hL⟩ := g
  have hn := q.1
  have hs := q.2.2.2.2.2.1
  have hz := q.2.2.2.2.2.2
  have h160 := q.2.2.2.1
  have hlt : p < e := lt_e hz (by cases all <;> simp at hc <;> omega)
  have nnst : nn σ ≤ nn (σ ++ pend) := by rw [nn_app]; omega
  have k1 := ev_k0 (E := [.ref 166]) hn rfl (m_here q m.1 hpe)
  have a1 : hvM s e p = 38 ↔ s p = 38 := hvM_e (c := 38) hs hz (by omega)
  have a2 : hvM s e p = 124 ↔ s p = 124 := hvM_e (c := 124) hs hz (by omega)
  unfold WBc
  refine w_sqS (fun E1 h2 => E1 = [.ref 166] ∧ h2 = h) ?_ ?_
  · unfold CLp
    exact w_unr (ev_F (ev_eqt (q_cl q m.1 hpe) (by cases all <;> simp at hc <;> simp [hc])) ⟨fun _ => ⟨rfl, rfl, rfl⟩, fun z => by cases z⟩)
  rintro E1 h2 ⟨rfl, rfl⟩
  unfold TLp
  have ct : ev (cand (cnt (cmp oeq (kI (rcv 11) F_X11_here (vR vn (ldR 0))) (icst 38))) (cnt (cmp oeq (kI (rcv 11) F_X11_here (vR vn (ldR 0))) (icst 124)))) [.ref 166] h2 fun t h1 => t = false ∧ h1 = h2 := by
    refine ev_eqt (ev_and _ _ (ev_not (ev_cmpc k1)) fun _ => ev_not (ev_cmpc k1)) ?_
    cases all with
    | false => simp at hc; simp [oeq, a1, hc]
    | true => simp at hc; simp [oeq, a2, hc]
  refine w_sq.mpr ((w_siF ct).mpr (w_sk2.mpr ?_))
  have l1 : (σ ++ pend).length < 180 := by omega
  have al : nI (if s p = 124 then 1 else 0) = b2 (all = true) := by
    cases all with
    | false => simp at hc; rw [hc]; decide
    | true => simp at hc; rw [hc]; decide
  have qa := q_ow q m.1 hpe (c := 124) (a := 1) (b := 0) (cc := 124) (ca := 1) (cb := 0) (by omega) rfl rfl rfl
  rw [al] at qa
  refine w_sqS (fun E1 h1 => E1 = [.ref 166] ∧ Fr SMr h2 h1 ∧ MS h1 p o σ (ptl L pend)) (w_kVe [.ref 166, .int (b2 (all = true))] (q_arg (F := F_X11_lands) rfl qa) (by simp [rcv, hn, ly166]) (fq_mono (m_lands hn q.2.1 m all l1 (by omega) hpd hσ) (by rintro r h1 ⟨rfl, z⟩; exact ⟨rfl, rfl, rfl, z⟩))) ?_
  rintro E1 h1 ⟨rfl, f1, m1⟩
  have q1 := q.c f1
  have hn1 := q1.1
  have ll := ptl_l L pend
  have lσ : σ.length ≤ p := by simp at hst; omega
  have qj := q_ow q1 m1.1 hpe (c := 38) (a := 11) (b := 12) (cc := 38) (ca := 11) (cb := 12) (by omega) rfl rfl rfl
  have jl : (if s p = 38 then 11 else 12) = if all = true then 12 else 11 := by
    cases all with
    | false => simp at hc; rw [hc]; rfl
    | true => simp at hc; rw [hc]; rfl
  rw [jl] at qj
  generalize hO : (if all = true then 12 else 11) = O at *
  have O12 : O ≤ 14 ∧ 11 ≤ O := by rw [← hO]; split <;> omega
  have jj := m_jumps hn1 q1.2.1 m1 (op := O) O12.1 (by omega) (by omega)
  rw [ll] at jj
  refine w_kVe [.ref 166, .int (nI O)] (q_arg (F := F_X11_jumps) rfl qj) (by simp [rcv, hn1, ly166]) (fq_mono jj ?_)
  rintro r h3 ⟨rfl, f3, m3⟩
  refine ⟨rfl, Or.inl ⟨rfl, rfl, hk h3 ⟨q1.c f3, m3, fr.trans (f1.trans f3), by omega, by simp; omega, ?_⟩⟩⟩
  rw [nn_app, List.length_append, ll]
  have : nn [(O, L.length)] = 0 := by
    unfold nn
    have : ¬ O = 10 := by omega
    simp [this]
  simp only [List.length_singleton]
  omega
theorem B_bad {h : Hp} {p o : Nat} {st L : List Pr2} (g : GN s e h0 h p o st L) (h1 : ¬ s p = 41) (h2 : ¬ s p = 38) (h3 : ¬ s p = 124) (hE : EF Q h0 (1000 + p)) : WBc Q h := by
  obtain ⟨q, m, fr, hpe, hst, hL⟩ := g
  have hn := q.1
  have hs := q.2.2.2.2.2.1
  have hz := q.2.2.2.2.2.2
  have k1 := ev_k0 (E := [.ref 166]) hn rfl (m_here q m.1 hpe)
  have a1 : hvM s e p = 38 ↔ s p = 38 := hvM_e (c := 38) hs hz (by omega)
  have a2 : hvM s e p = 124 ↔ s p = 124 := hvM_e (c := 124) hs hz (by omega)
  unfold WBc
  refine w_sqS (fun E1 h2 => E1 = [.ref 166] ∧ h2 = h) ?_ ?_
  · unfold CLp
    exact w_unr (ev_F (ev_eqt (q_cl q m.1 hpe) (by simpa using h1)) ⟨fun _ => ⟨rfl, rfl, rfl⟩, fun z => by cases z⟩)
  rintro E1 h2' ⟨rfl, rfl⟩
  unfold TLp
  refine w_sq.mpr ((w_siT (ev_eqt (ev_and _ _ (ev_not (ev_cmpc k1)) fun _ => ev_not (ev_cmpc k1)) (by simp [oeq, a1, a2, h2, h3]))).mpr ?_)
  have e5 : F_X11_wrong [.ref 166, .int 1, .int (nI p)] h2' = _ := m_wrong hn 1 p
  have mp := m.1
  rw [w_rI]
  simp only [f_mkF, w_sI, w_sR, w_sL, w_sC, w_sk, w_sbr, w_sco, w_rV, w_rI, w_rR, w_rL, w_dI, w_sO, w_sq, w_si, w_pI, w_pZ, w_pR, w_pU, w_qI, w_qB, w_qZ, w_qU, w_qR, w_kV, q_icst, q_lcst, q_xR, q_ldI, q_ldR, q_ldL, q_bn, q_un, q_dv, q_fI, q_fR, q_aI, q_aR, q_aN, q_tn, q_cmp, q_cmz, q_cnt, q_ctt, q_cand, q_cor, q_vn, q_vI, q_vR, q_vL, q_kI, q_kR, q_kL, q_ckI, envN, argE, List.flatMap_cons, List.flatMap_nil, Value.category, junk, oadd, osub, omul, oand, oor, oxor, odiv, orem, oshl, oshr, oushr, omax, omin]
  simp (disch := first | omega | simp) [rk_i, rk_b, rk_o, st1, kill, Value.category, rcv, nog, hn, ly166, mp, fq_of e5]
  exact Or.inr ⟨rfl, hE _ (fr.w (by unfold SMr; omega)) (by rw [wI_i, if_pos ⟨rfl, rfl⟩])⟩
end CONDS
