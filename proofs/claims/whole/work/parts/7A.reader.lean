/-! the class's reader: chains, sums -/
theorem ev_and {a b : DC} {E : En} {h : Hp} (ta tb : Bool) (ha : ev a E h fun t h1 => t = ta ∧ h1 = h) (hb : ta = true → ev b E h fun t h1 => t = tb ∧ h1 = h) : ev (cand a b) E h fun t h1 => t = (ta && tb) ∧ h1 = h := by
  rw [q_cand]
  refine ev_mono ha ?_
  rintro t h1 ⟨rfl, rfl⟩
  cases t with
  | false => exact ⟨(fun z => by cases z), fun _ => ⟨rfl, rfl⟩⟩
  | true =>
    refine ⟨fun _ => ev_mono (hb rfl) ?_, fun z => by cases z⟩
    rintro t h1 ⟨rfl, rfl⟩
    exact ⟨rfl, rfl⟩
theorem OC.at {e la c : Nat} {h h' : Hp} {K : Nat} {R : Rd} (o : OC e la c h K R h') (hR : ∀ p' C, R = .ok (p', C) → p' ≤ e) : ∃ px, px ≤ e ∧ h'.2.1 146 2 = nI px ∧ ∀ p' C, R = .ok (p', C) → px = p' := by
  cases R with
  | error f =>
    obtain ⟨-, -, -, ⟨p', o4, o5⟩, -⟩ := o
    exact ⟨p', o4, o5, fun _ _ z => by cases z⟩
  | ok x =>
    obtain ⟨p', C⟩ := x
    exact ⟨p', hR _ _ rfl, o.2.1, fun _ _ z => by cases z; rfl⟩
/-- the test of a loop of the reader -/
theorem q_go {s : Nat → Nat} {e la : Nat} {h : Hp} (q : RX s e la h) {cd : DC} {E : En} {n : Nat} (hE : E[3]? = some (.int (nI n))) (hE0 : E[0]? = some (.ref 146)) (hn : n ≤ 160) (t : Bool) (hc : n < 160 → h.2.1 146 3 = 0 → ev cd E h fun x h1 => x = t ∧ h1 = h) : ev (cand (cand (cnt (cmp oge (ldI 3) (icst 160))) (cnt (cmz zne (fI 4 3 (ldR 0))))) cd) E h fun x h1 => x = (decide (n < 160 ∧ h.2.1 146 3 = 0) && t) ∧ h1 = h := by
  have h212 := q.1
  have k160 : (160 : Int32) = nI 160 := rfl
  refine ev_and _ _ ?_ (fun z => hc (by simp at z; exact z.1) (by simp at z; exact z.2))
  by_cases c1 : n < 160
  · by_cases c2 : h.2.1 146 3 = 0
    · simp only [f_mkF, w_sI, w_sR, w_sL, w_sC, w_sk, w_sbr, w_sco, w_rV, w_rI, w_rR, w_rL, w_dI, w_sO, w_sq, w_si, w_pI, w_pZ, w_pR, w_pU, w_qI, w_qB, w_qZ, w_qU, w_qR, w_kV, q_icst, q_lcst, q_xR, q_ldI, q_ldR, q_ldL, q_bn, q_un, q_dv, q_fI, q_fR, q_aI, q_aR, q_aN, q_tn, q_cmp, q_cmz, q_cnt, q_ctt, q_cand, q_cor, q_vn, q_vI, q_vR, q_vL, q_kI, q_kR, q_kL, q_ckI, envN, argE, List.flatMap_cons, List.flatMap_nil, Value.category, junk, oadd, osub, omul, oand, oor, oxor, odiv, orem, oshl, oshr, oushr, omax, omin]
      simp (disch := first | omega | simp) [rk_i, rk_b, rk_o, st1, kill, Value.category, rcv, nog, inI_b, nI_clamp, nI_ltI, nI_leI, nI_eq, nI_9, nI_6, nI_22, nI_12, nI_180, nI_add, nI_1, h212, ly146, hE, hE0, k160, c1, c2]
    · simp only [f_mkF, w_sI, w_sR, w_sL, w_sC, w_sk, w_sbr, w_sco, w_rV, w_rI, w_rR, w_rL, w_dI, w_sO, w_sq, w_si, w_pI, w_pZ, w_pR, w_pU, w_qI, w_qB, w_qZ, w_qU, w_qR, w_kV, q_icst, q_lcst, q_xR, q_ldI, q_ldR, q_ldL, q_bn, q_un, q_dv, q_fI, q_fR, q_aI, q_aR, q_aN, q_tn, q_cmp, q_cmz, q_cnt, q_ctt, q_cand, q_cor, q_vn, q_vI, q_vR, q_vL, q_kI, q_kR, q_kL, q_ckI, envN, argE, List.flatMap_cons, List.flatMap_nil, Value.category, junk, oadd, osub, omul, oand, oor, oxor, odiv, orem, oshl, oshr, oushr, omax, omin]
      simp (disch := first | omega | simp) [rk_i, rk_b, rk_o, st1, kill, Value.category, rcv, nog, inI_b, nI_clamp, nI_ltI, nI_leI, nI_eq, nI_9, nI_6, nI_22, nI_12, nI_180, nI_add, nI_1, h212, ly146, hE, hE0, k160, c1, c2]
  · simp only [f_mkF, w_sI, w_sR, w_sL, w_sC, w_sk, w_sbr, w_sco, w_rV, w_rI, w_rR, w_rL, w_dI, w_sO, w_sq, w_si, w_pI, w_pZ, w_pR, w_pU, w_qI, w_qB, w_qZ, w_qU, w_qR, w_kV, q_icst, q_lcst, q_xR, q_ldI, q_ldR, q_ldL, q_bn, q_un, q_dv, q_fI, q_fR, q_aI, q_aR, q_aN, q_tn, q_cmp, q_cmz, q_cnt, q_ctt, q_cand, q_cor, q_vn, q_vI, q_vR, q_vL, q_kI, q_kR, q_kL, q_ckI, envN, argE, List.flatMap_cons, List.flatMap_nil, Value.category, junk, oadd, osub, omul, oand, oor, oxor, odiv, orem, oshl, oshr, oushr, omax, omin]
    simp (disch := first | omega | simp) [rk_i, rk_b, rk_o, st1, kill, Value.category, rcv, nog, inI_b, nI_clamp, nI_ltI, nI_leI, nI_eq, nI_9, nI_6, nI_22, nI_12, nI_180, nI_add, nI_1, h212, ly146, hE, hE0, k160, c1]
theorem x_chain {s : Nat → Nat} {e la c dp : Nat} {G : FN} {cd : DC} {g : Nat → Bool} {F : Nat → Rd} (hG : GO e F) (hS : SPd s e la c G dp fun p _ => F p) (hcd : ∀ (v0 v1 v3 : Value) (x : Nat) (h : Hp), x < 256 → ev cd [v0, v1, .int (nI x), v3] h fun t h1 => t = g x ∧ h1 = h) (hg : ∀ x, x < 256 → g x = true → x ≠ 0 ∧ cop (opP x) = nI x ∧ 2 ≤ opP x ∧ opP x ≤ 6) : SPd s e la c (CBl G cd) dp fun p _ => chainP s g F p := by
  intro h p k q hp hpe hf hK hk
  have hn := q.1
  have hA := q.2.1.2.2
  have hy := law_y hA
  have yl := hy.1
  have yl2 : la < 212 := by omega
  have he := q.2.2.2.1.2
  have hs := q.2.2.2.2.2.1
  have hz := q.2.2.2.2.2.2
  unfold CBl
  refine f_mkE [.ref 146, .int (nI dp), junk, junk] rfl (by simp [argE, Value.category]) ?_
  refine w_sqS (fun E1 h1 => E1 = [.ref 146, .int (nI dp), junk, junk] ∧ OC e la c h (k + c) (F p) h1) (w_kVe [.ref 146, .int (nI dp)] (by simp only [f_mkF, w_sI, w_sR, w_sL, w_sC, w_sk, w_sbr, w_sco, w_rV, w_rI, w_rR, w_rL, w_dI, w_sO, w_sq, w_si, w_pI, w_pZ, w_pR, w_pU, w_qI, w_qB, w_qZ, w_qU, w_qR, w_kV, q_icst, q_lcst, q_xR, q_ldI, q_ldR, q_ldL, q_bn, q_un, q_dv, q_fI, q_fR, q_aI, q_aR, q_aN, q_tn, q_cmp, q_cmz, q_cnt, q_ctt, q_cand, q_cor, q_vn, q_vI, q_vR, q_vL, q_kI, q_kR, q_kL, q_ckI, envN, argE, List.flatMap_cons, List.flatMap_nil, Value.category, junk, oadd, osub, omul, oand, oor, oxor, odiv, orem, oshl, oshr, oushr, omax, omin]; simp) (by simp [rcv, hn, ly146]) (fq_mono (hS h p k q hp hpe hf hK hk) (by rintro r h2 ⟨rfl, z⟩; exact ⟨rfl, rfl, rfl, z⟩))) ?_
  rintro E1 h1 ⟨rfl, o⟩
  obtain ⟨px, px1, px2, px3⟩ := o.at fun p' C z => (hG _ _ _ z).2.1
  have q1 := q.c o.1
  have hn1 := q1.1
  refine w_sqI (nI (s px)) (by simp only [f_mkF, w_sI, w_sR, w_sL, w_sC, w_sk, w_sbr, w_sco, w_rV, w_rI, w_rR, w_rL, w_dI, w_sO, w_sq, w_si, w_pI, w_pZ, w_pR, w_pU, w_qI, w_qB, w_qZ, w_qU, w_qR, w_kV, q_icst, q_lcst, q_xR, q_ldI, q_ldR, q_ldL, q_bn, q_un, q_dv, q_fI, q_fR, q_aI, q_aR, q_aN, q_tn, q_cmp, q_cmz, q_cnt, q_ctt, q_cand, q_cor, q_vn, q_vI, q_vR, q_vL, q_kI, q_kR, q_kL, q_ckI, envN, argE, List.flatMap_cons, List.flatMap_nil, Value.category, junk, oadd, osub, omul, oand, oor, oxor, odiv, orem, oshl, oshr, oushr, omax, omin]; simp (disch := first | omega | simp) [rk_i, rk_b, rk_o, st1, kill, Value.category, rcv, nog, hn1, ly146, fq_of (x_sign q1 px2 px1)]) rfl ?_
  refine w_sqS (fun _ h2 => OC e la c h (k + c) (chainP s g F p) h2) ?_ (fun E2 h2 z => by rw [w_rV]; exact Or.inl ⟨rfl, rfl, rfl, z⟩)
  refine w_sqN (w_sIe 0 (by simp only [f_mkF, w_sI, w_sR, w_sL, w_sC, w_sk, w_sbr, w_sco, w_rV, w_rI, w_rR, w_rL, w_dI, w_sO, w_sq, w_si, w_pI, w_pZ, w_pR, w_pU, w_qI, w_qB, w_qZ, w_qU, w_qR, w_kV, q_icst, q_lcst, q_xR, q_ldI, q_ldR, q_ldL, q_bn, q_un, q_dv, q_fI, q_fR, q_aI, q_aR, q_aN, q_tn, q_cmp, q_cmz, q_cnt, q_ctt, q_cand, q_cor, q_vn, q_vI, q_vR, q_vL, q_kI, q_kR, q_kL, q_ckI, envN, argE, List.flatMap_cons, List.flatMap_nil, Value.category, junk, oadd, osub, omul, oand, oor, oxor, odiv, orem, oshl, oshr, oushr, omax, omin]; simp) rfl ⟨rfl, ?_⟩)
  have Zd : ∃ Z : Nat → Nat → En → Hp → Prop, Z = fun n m E h' => (∃ p1 C, tailP s g F (200 - n) p1 C = chainP s g F p ∧ n ≤ p1 ∧ p1 ≤ e ∧ C.length + p ≤ p1 ∧ OC e la c h (k + c) (.ok (p1, C)) h' ∧ E = [.ref 146, .int (nI dp), .int (nI (s p1)), .int (nI m)]) ∨ (∃ f v, chainP s g F p = .error f ∧ OC e la c h (k + c) (.error f) h' ∧ E = [.ref 146, .int (nI dp), .int v, .int (nI m)]) := ⟨_, rfl⟩
  obtain ⟨Z, hZ⟩ := Zd
  refine w_for (lo := 0) (hi := 160) (fun n => Z n n) (fun n => Z (n + 1) n) (by omega) ?_ ?_ ?_
  · rw [hZ]
    cases hF : F p with
    | error f => exact Or.inr ⟨f, nI (s px), by unfold chainP; rw [hF], by rw [hF] at o; exact o, rfl⟩
    | ok x =>
      obtain ⟨p1, C⟩ := x
      have := hG _ _ _ hF
      have e1 := px3 _ _ hF
      subst e1
      exact Or.inl ⟨px, C, by unfold chainP; rw [hF], by omega, px1, by omega, by rw [hF] at o; exact o, rfl⟩
  · intro n E h' n1 n2 hI
    rw [hZ] at hI
    rcases hI with ⟨p1, C, i1, i2, i3, i4, o1, rfl⟩ | ⟨f, v, i1, o1, rfl⟩
    · have q2 := q.c o1.1
      have hn2 := q2.1
      have o1' := o1
      obtain ⟨o2, o3, o4, o5, o6⟩ := o1'
      by_cases cg : g (s p1) = true
      · obtain ⟨g1, g2, g3, g4⟩ := hg _ (hs p1) cg
        have hlt : p1 < e := lt_e hz g1
        have n160 : n < 160 := by omega
        refine ev_T (ev_mono (q_go q2 (n := n) rfl rfl n2 (g (s p1)) (fun _ _ => hcd _ _ _ _ _ (hs p1))) ?_) ⟨rfl, fun _ => ⟨n160, ?_⟩, fun z => by cases z⟩
        · rintro t h3 ⟨rfl, rfl⟩
          simp [cg, n160, o4]
        have f2 : Fr (SCl la (k + c + C.length)) h' (wI h' 146 2 (nI (p1 + 1))) := (Fr.refl h').w (by unfold SCl; omega)
        have q3 := q2.c f2
        refine w_sqS (fun E1 h3 => E1 = [.ref 146, .int (nI dp), .int (nI (s p1)), .int (nI n)] ∧ h3 = wI h' 146 2 (nI (p1 + 1))) (by simp only [f_mkF, w_sI, w_sR, w_sL, w_sC, w_sk, w_sbr, w_sco, w_rV, w_rI, w_rR, w_rL, w_dI, w_sO, w_sq, w_si, w_pI, w_pZ, w_pR, w_pU, w_qI, w_qB, w_qZ, w_qU, w_qR, w_kV, q_icst, q_lcst, q_xR, q_ldI, q_ldR, q_ldL, q_bn, q_un, q_dv, q_fI, q_fR, q_aI, q_aR, q_aN, q_tn, q_cmp, q_cmz, q_cnt, q_ctt, q_cand, q_cor, q_vn, q_vI, q_vR, q_vL, q_kI, q_kR, q_kL, q_ckI, envN, argE, List.flatMap_cons, List.flatMap_nil, Value.category, junk, oadd, osub, omul, oand, oor, oxor, odiv, orem, oshl, oshr, oushr, omax, omin]; simp (disch := first | omega | simp) [rk_i, rk_b, rk_o, st1, kill, Value.category, rcv, nog, hn2, ly146, o3, nI_1]) ?_
        rintro E1 h3 ⟨rfl, rfl⟩
        have s1 := hS (wI h' 146 2 (nI (p1 + 1))) (p1 + 1) (k + C.length) q3 (by rw [wI_i, if_pos ⟨rfl, rfl⟩]) (by omega) (by rw [wI_i, if_neg (by omega)]; exact o4) (by rw [wI_i, if_neg (by omega), o5]; congr 1; omega) (by omega)
        rw [show k + C.length + c = k + c + C.length from by omega] at s1
        refine w_sqS (fun E1 h4 => E1 = [.ref 146, .int (nI dp), .int (nI (s p1)), .int (nI n)] ∧ OC e la c (wI h' 146 2 (nI (p1 + 1))) (k + c + C.length) (F (p1 + 1)) h4) (w_kVe [.ref 146, .int (nI dp)] (by simp only [f_mkF, w_sI, w_sR, w_sL, w_sC, w_sk, w_sbr, w_sco, w_rV, w_rI, w_rR, w_rL, w_dI, w_sO, w_sq, w_si, w_pI, w_pZ, w_pR, w_pU, w_qI, w_qB, w_qZ, w_qU, w_qR, w_kV, q_icst, q_lcst, q_xR, q_ldI, q_ldR, q_ldL, q_bn, q_un, q_dv, q_fI, q_fR, q_aI, q_aR, q_aN, q_tn, q_cmp, q_cmz, q_cnt, q_ctt, q_cand, q_cor, q_vn, q_vI, q_vR, q_vL, q_kI, q_kR, q_kL, q_ckI, envN, argE, List.flatMap_cons, List.flatMap_nil, Value.category, junk, oadd, osub, omul, oand, oor, oxor, odiv, orem, oshl, oshr, oushr, omax, omin]; simp) (by simp [rcv, wI_1, hn2, ly146]) (fq_mono s1 (by rintro r h4 ⟨rfl, z⟩; exact ⟨rfl, rfl, rfl, z⟩))) ?_
        rintro E1 h4 ⟨rfl, o7⟩
        have q4 := q3.c o7.1
        have hn4 := q4.1
        have r4 := q4.2.1.2.1
        have f4 : Fr (SCl la (k + c)) h h4 := o2.trans ((f2.sc (by omega)).trans (o7.1.sc (by omega)))
        have f5 : Fr (SCl la (k + c + C.length)) h' h4 := f2.trans o7.1
        have i5 : tailP s g F (200 - n) p1 C = (match F (p1 + 1) with
            | .error f => .error f
            | .ok (p', C') => tailP s g F (200 - (n + 1)) p' (C ++ C' ++ [(opP (s p1), 0, 0, 0)])) := by
          rw [show 200 - n = 200 - (n + 1) + 1 from by omega, tailP, if_pos cg]
          rfl
        cases hF : F (p1 + 1) with
        | error f =>
          rw [hF] at o7 i5
          obtain ⟨-, w2, w3, ⟨p', w4, w5⟩, K', w6, w7, w8⟩ := o7
          refine w_sqS (fun E1 h5 => E1 = [.ref 146, .int (nI dp), .int (nI (s p1)), .int (nI n)] ∧ OC e la c h (k + c) (.error f) h5) ?_ ?_
          · rw [w_dI, q_kI]
            simp only [f_mkF, w_sI, w_sR, w_sL, w_sC, w_sk, w_sbr, w_sco, w_rV, w_rI, w_rR, w_rL, w_dI, w_sO, w_sq, w_si, w_pI, w_pZ, w_pR, w_pU, w_qI, w_qB, w_qZ, w_qU, w_qR, w_kV, q_icst, q_lcst, q_xR, q_ldI, q_ldR, q_ldL, q_bn, q_un, q_dv, q_fI, q_fR, q_aI, q_aR, q_aN, q_tn, q_cmp, q_cmz, q_cnt, q_ctt, q_cand, q_cor, q_vn, q_vI, q_vR, q_vL, q_kI, q_kR, q_kL, q_ckI, envN, argE, List.flatMap_cons, List.flatMap_nil, Value.category, junk, oadd, osub, omul, oand, oor, oxor, odiv, orem, oshl, oshr, oushr, omax, omin]
            simp (disch := first | omega | simp) [rk_i, rk_b, rk_o, st1, kill, Value.category, rcv, nog, hn4, ly146, r4, yl, yl2]
            refine fq_mono (x_addF q4 w8 w7 (nI (s p1)) 0) ?_
            rintro r h5 ⟨⟨v5, rfl⟩, z2, K2, z3, z4, z5⟩
            refine ⟨⟨v5, rfl⟩, f4.trans (z2.sub fun a k z => by unfold SCl; omega), ?_, ?_, ⟨p', w4, ?_⟩, K2, by omega, z4, z5⟩
            · rw [z2.2.2 146 3 (by omega)]; exact w2
            · rw [z2.2.2 146 3 (by omega)]; exact w3
            · rw [z2.2.2 146 2 (by omega)]; exact w5
          · rintro E1 h5 ⟨rfl, o8⟩
            obtain ⟨py, py1, py2, -⟩ := o8.at fun p' C z => by cases z
            have q5 := q.c o8.1
            have hn5 := q5.1
            refine w_sIe (nI (s py)) (by simp only [f_mkF, w_sI, w_sR, w_sL, w_sC, w_sk, w_sbr, w_sco, w_rV, w_rI, w_rR, w_rL, w_dI, w_sO, w_sq, w_si, w_pI, w_pZ, w_pR, w_pU, w_qI, w_qB, w_qZ, w_qU, w_qR, w_kV, q_icst, q_lcst, q_xR, q_ldI, q_ldR, q_ldL, q_bn, q_un, q_dv, q_fI, q_fR, q_aI, q_aR, q_aN, q_tn, q_cmp, q_cmz, q_cnt, q_ctt, q_cand, q_cor, q_vn, q_vI, q_vR, q_vL, q_kI, q_kR, q_kL, q_ckI, envN, argE, List.flatMap_cons, List.flatMap_nil, Value.category, junk, oadd, osub, omul, oand, oor, oxor, odiv, orem, oshl, oshr, oushr, omax, omin]; simp (disch := first | omega | simp) [rk_i, rk_b, rk_o, st1, kill, Value.category, rcv, nog, hn5, ly146, fq_of (x_sign q5 py2 py1)]) rfl ⟨rfl, ?_⟩
            rw [hZ]
            exact Or.inr ⟨f, _, by rw [← i1, i5], o8, rfl⟩
        | ok x =>
          obtain ⟨p2, C2⟩ := x
          rw [hF] at o7 i5
          obtain ⟨-, w2, w3, w4, w5⟩ := o7
          obtain ⟨g5, g6, g7⟩ := hG _ _ _ hF
          have a1 := x_addL q4 w4 (by omega) (nI (s p1)) 0
          refine w_sqS (fun E1 h5 => E1 = [.ref 146, .int (nI dp), .int (nI (s p1)), .int (nI n)] ∧ OC e la c h (k + c) (.ok (p2, C ++ C2 ++ [(opP (s p1), 0, 0, 0)])) h5) ?_ ?_
          · simp only [f_mkF, w_sI, w_sR, w_sL, w_sC, w_sk, w_sbr, w_sco, w_rV, w_rI, w_rR, w_rL, w_dI, w_sO, w_sq, w_si, w_pI, w_pZ, w_pR, w_pU, w_qI, w_qB, w_qZ, w_qU, w_qR, w_kV, q_icst, q_lcst, q_xR, q_ldI, q_ldR, q_ldL, q_bn, q_un, q_dv, q_fI, q_fR, q_aI, q_aR, q_aN, q_tn, q_cmp, q_cmz, q_cnt, q_ctt, q_cand, q_cor, q_vn, q_vI, q_vR, q_vL, q_kI, q_kR, q_kL, q_ckI, envN, argE, List.flatMap_cons, List.flatMap_nil, Value.category, junk, oadd, osub, omul, oand, oor, oxor, odiv, orem, oshl, oshr, oushr, omax, omin]
            simp (disch := first | omega | simp) [rk_i, rk_b, rk_o, st1, kill, Value.category, rcv, nog, hn4, ly146, r4, yl, yl2, fq_of a1]
            have f6 : Fr (SCl la (k + c + C.length + C2.length)) h4 (wI (wI (wI h4 (la + 1) (k + c + C.length + C2.length) (nI (s p1))) (la + 2) (k + c + C.length + C2.length) 0) la 4 (nI (k + c + C.length + C2.length + 1))) := (((Fr.refl h4).w (by unfold SCl; omega)).w (by unfold SCl; omega)).w (by unfold SCl; omega)
            refine ⟨f4.trans (f6.sc (by omega)), ?_, ?_, ?_, CC.app (o6.c hA (f5.trans (f6.sc (by omega))) (by omega)) (CC.app (w5.c hA f6 (by omega)) (CC.one ?_ (fun z => ?_) (fun z => ?_)))⟩
            · rw [wI_i, if_neg (by omega), wI_i, if_neg (by omega), wI_i, if_neg (by omega)]; exact w2
            · rw [wI_i, if_neg (by omega), wI_i, if_neg (by omega), wI_i, if_neg (by omega)]; exact w3
            · rw [wI_i, if_pos ⟨rfl, rfl⟩]; simp only [List.length_append, List.length_singleton]; congr 1; omega
            · rw [wI_i, if_neg (by omega), wI_i, if_neg (by omega), wI_i, if_pos ⟨rfl, by omega⟩, g2]
            · simp only at z; omega
            · simp only at z; omega
          · rintro E1 h5 ⟨rfl, o8⟩
            have q5 := q.c o8.1
            have hn5 := q5.1
            refine w_sIe (nI (s p2)) (by simp only [f_mkF, w_sI, w_sR, w_sL, w_sC, w_sk, w_sbr, w_sco, w_rV, w_rI, w_rR, w_rL, w_dI, w_sO, w_sq, w_si, w_pI, w_pZ, w_pR, w_pU, w_qI, w_qB, w_qZ, w_qU, w_qR, w_kV, q_icst, q_lcst, q_xR, q_ldI, q_ldR, q_ldL, q_bn, q_un, q_dv, q_fI, q_fR, q_aI, q_aR, q_aN, q_tn, q_cmp, q_cmz, q_cnt, q_ctt, q_cand, q_cor, q_vn, q_vI, q_vR, q_vL, q_kI, q_kR, q_kL, q_ckI, envN, argE, List.flatMap_cons, List.flatMap_nil, Value.category, junk, oadd, osub, omul, oand, oor, oxor, odiv, orem, oshl, oshr, oushr, omax, omin]; simp (disch := first | omega | simp) [rk_i, rk_b, rk_o, st1, kill, Value.category, rcv, nog, hn5, ly146, fq_of (x_sign q5 o8.2.1 g6)]) rfl ⟨rfl, ?_⟩
            rw [hZ]
            refine Or.inl ⟨p2, _, by rw [← i1, i5], by omega, g6, ?_, o8, rfl⟩
            simp only [List.length_append, List.length_singleton]
            omega
      · refine ev_F (ev_mono (q_go q2 (n := n) rfl rfl n2 (g (s p1)) (fun _ _ => hcd _ _ _ _ _ (hs p1))) ?_) ⟨rfl, (fun z => by cases z), fun _ => ⟨rfl, ?_⟩⟩
        · rintro t h3 ⟨rfl, rfl⟩
          simp [cg]
        · have : chainP s g F p = .ok (p1, C) := by
            rw [← i1]
            cases 200 - n with
            | zero => rfl
            | succ m => rw [tailP, if_neg cg]
          rw [this]
          exact o1
    · have q2 := q.c o1.1
      have w3 := o1.2.2.1
      refine ev_F (ev_mono (q_go q2 (n := n) rfl rfl n2 false (fun _ z => absurd z w3)) ?_) ⟨rfl, (fun z => by cases z), fun _ => ⟨rfl, ?_⟩⟩
      · rintro t h3 ⟨rfl, rfl⟩
        simp
      · rw [i1]; exact o1
  · intro n E h' n1 n2 hJ
    rw [hZ] at hJ ⊢
    rcases hJ with ⟨p1, C, i1, i2, i3, i4, o1, rfl⟩ | ⟨f, v, i1, o1, rfl⟩
    · exact ⟨rfl, Or.inl ⟨p1, C, i1, i2, i3, i4, o1, rfl⟩⟩
    · exact ⟨rfl, Or.inr ⟨f, v, i1, o1, rfl⟩⟩
theorem hg_mul : ∀ x, x < 256 → isMul x = true → x ≠ 0 ∧ cop (opP x) = nI x ∧ 2 ≤ opP x ∧ opP x ≤ 6 := by decide +kernel
theorem hg_add : ∀ x, x < 256 → isAdd x = true → x ≠ 0 ∧ cop (opP x) = nI x ∧ 2 ≤ opP x ∧ opP x ≤ 6 := by decide +kernel
theorem x_prod {s : Nat → Nat} {e la c d dp : Nat} {F : Nat → Rd} (hG : GO e F) (hS : SPd s e la c (FL d 6) dp fun p _ => F p) : SPd s e la c (FL (d + 1) 5) dp fun p _ => chainP s isMul F p := by
  rw [CB5]
  refine x_chain hG hS (fun v0 v1 v3 x h hx => ?_) hg_mul
  have e1 := x_isM hx h
  by_cases c1 : isMul x = true
  · rw [b2_1.mpr c1] at e1
    simp only [f_mkF, w_sI, w_sR, w_sL, w_sC, w_sk, w_sbr, w_sco, w_rV, w_rI, w_rR, w_rL, w_dI, w_sO, w_sq, w_si, w_pI, w_pZ, w_pR, w_pU, w_qI, w_qB, w_qZ, w_qU, w_qR, w_kV, q_icst, q_lcst, q_xR, q_ldI, q_ldR, q_ldL, q_bn, q_un, q_dv, q_fI, q_fR, q_aI, q_aR, q_aN, q_tn, q_cmp, q_cmz, q_cnt, q_ctt, q_cand, q_cor, q_vn, q_vI, q_vR, q_vL, q_kI, q_kR, q_kL, q_ckI, envN, argE, List.flatMap_cons, List.flatMap_nil, Value.category, junk, oadd, osub, omul, oand, oor, oxor, odiv, orem, oshl, oshr, oushr, omax, omin]
    simp [rk_i, rk_b, rk_o, st1, kill, Value.category, rcv, nog, fq_of e1, c1]
  · rw [b2_0.mpr c1] at e1
    simp only [f_mkF, w_sI, w_sR, w_sL, w_sC, w_sk, w_sbr, w_sco, w_rV, w_rI, w_rR, w_rL, w_dI, w_sO, w_sq, w_si, w_pI, w_pZ, w_pR, w_pU, w_qI, w_qB, w_qZ, w_qU, w_qR, w_kV, q_icst, q_lcst, q_xR, q_ldI, q_ldR, q_ldL, q_bn, q_un, q_dv, q_fI, q_fR, q_aI, q_aR, q_aN, q_tn, q_cmp, q_cmz, q_cnt, q_ctt, q_cand, q_cor, q_vn, q_vI, q_vR, q_vL, q_kI, q_kR, q_kL, q_ckI, envN, argE, List.flatMap_cons, List.flatMap_nil, Value.category, junk, oadd, osub, omul, oand, oor, oxor, odiv, orem, oshl, oshr, oushr, omax, omin]
    simp [rk_i, rk_b, rk_o, st1, kill, Value.category, rcv, nog, fq_of e1, c1]
theorem x_sum1 {s : Nat → Nat} {e la c d dp : Nat} {F : Nat → Rd} (hG : GO e F) (hS : SPd s e la c (FL d 5) dp fun p _ => F p) : SPd s e la c (FL (d + 1) 4) dp fun p _ => chainP s isAdd F p := by
  rw [CB4]
  refine x_chain hG hS (fun v0 v1 v3 x h hx => ?_) hg_add
  have e1 : nI x = 43 ↔ x = 43 := nI_eq (a := x) (b := 43) (by omega) (by omega)
  have e2 : nI x = 45 ↔ x = 45 := nI_eq (a := x) (b := 45) (by omega) (by omega)
  have e3 := isA_e (c := x)
  by_cases c1 : x = 43
  · have c3 : isAdd x = true := e3.mpr (Or.inl c1)
    rw [c3]
    subst c1
    simp only [f_mkF, w_sI, w_sR, w_sL, w_sC, w_sk, w_sbr, w_sco, w_rV, w_rI, w_rR, w_rL, w_dI, w_sO, w_sq, w_si, w_pI, w_pZ, w_pR, w_pU, w_qI, w_qB, w_qZ, w_qU, w_qR, w_kV, q_icst, q_lcst, q_xR, q_ldI, q_ldR, q_ldL, q_bn, q_un, q_dv, q_fI, q_fR, q_aI, q_aR, q_aN, q_tn, q_cmp, q_cmz, q_cnt, q_ctt, q_cand, q_cor, q_vn, q_vI, q_vR, q_vL, q_kI, q_kR, q_kL, q_ckI, envN, argE, List.flatMap_cons, List.flatMap_nil, Value.category, junk, oadd, osub, omul, oand, oor, oxor, odiv, orem, oshl, oshr, oushr, omax, omin]
    simp [rk_i, rk_b, rk_o, st1, kill, Value.category, rcv, nog]
    decide
  · by_cases c2 : x = 45
    · have c3 : isAdd x = true := e3.mpr (Or.inr c2)
      rw [c3]
      subst c2
      simp only [f_mkF, w_sI, w_sR, w_sL, w_sC, w_sk, w_sbr, w_sco, w_rV, w_rI, w_rR, w_rL, w_dI, w_sO, w_sq, w_si, w_pI, w_pZ, w_pR, w_pU, w_qI, w_qB, w_qZ, w_qU, w_qR, w_kV, q_icst, q_lcst, q_xR, q_ldI, q_ldR, q_ldL, q_bn, q_un, q_dv, q_fI, q_fR, q_aI, q_aR, q_aN, q_tn, q_cmp, q_cmz, q_cnt, q_ctt, q_cand, q_cor, q_vn, q_vI, q_vR, q_vL, q_kI, q_kR, q_kL, q_ckI, envN, argE, List.flatMap_cons, List.flatMap_nil, Value.category, junk, oadd, osub, omul, oand, oor, oxor, odiv, orem, oshl, oshr, oushr, omax, omin]
      simp [rk_i, rk_b, rk_o, st1, kill, Value.category, rcv, nog]
      decide
    · have c3 : isAdd x = false := by
        cases z : isAdd x with
        | false => rfl
        | true => have := e3.mp z; omega
      rw [c3]
      simp only [f_mkF, w_sI, w_sR, w_sL, w_sC, w_sk, w_sbr, w_sco, w_rV, w_rI, w_rR, w_rL, w_dI, w_sO, w_sq, w_si, w_pI, w_pZ, w_pR, w_pU, w_qI, w_qB, w_qZ, w_qU, w_qR, w_kV, q_icst, q_lcst, q_xR, q_ldI, q_ldR, q_ldL, q_bn, q_un, q_dv, q_fI, q_fR, q_aI, q_aR, q_aN, q_tn, q_cmp, q_cmz, q_cnt, q_ctt, q_cand, q_cor, q_vn, q_vI, q_vR, q_vL, q_kI, q_kR, q_kL, q_ckI, envN, argE, List.flatMap_cons, List.flatMap_nil, Value.category, junk, oadd, osub, omul, oand, oor, oxor, odiv, orem, oshl, oshr, oushr, omax, omin]
      simp [rk_i, rk_b, rk_o, st1, kill, Value.category, rcv, nog, e1, e2, c1, c2]
theorem x_sum {s : Nat → Nat} {e la c : Nat} (hz : ∀ p, e ≤ p → s p = 0) : ∀ r, r ≤ 6 → ∀ d, 3 * r + 3 ≤ d → SPd s e la c (FL d 4) (6 - r) fun p _ => sumP s r p := by
  intro r
  induction r with
  | zero =>
    intro _ d hd
    obtain ⟨d, rfl⟩ : ∃ d', d = d' + 3 := ⟨d - 3, by omega⟩
    have f0 := x_fct (s := s) (e := e) (la := la) (c := c) (d := d) (dp := 6) (fun p => .error (5000 + p)) (Or.inl ⟨rfl, rfl⟩)
    have g0 : GO e (fctP s fun p => .error (5000 + p)) := GO_fct hz fun p p' C h => by cases h
    exact x_sum1 (GO_chain g0) (x_prod g0 f0)
  | succ r ih =>
    intro hr d hd
    obtain ⟨d, rfl⟩ : ∃ d', d = d' + 3 := ⟨d - 3, by omega⟩
    have i1 := ih (by omega) d (by omega)
    have f0 := x_fct (s := s) (e := e) (la := la) (c := c) (d := d) (dp := 6 - (r + 1)) (fun p => sumP s r (p + 1)) (Or.inr ⟨by omega, sumP s r, rfl, GO_sum hz r, by rw [show 6 - (r + 1) + 1 = 6 - r from by omega]; exact i1⟩)
    have g0 : GO e (fctP s fun p => sumP s r (p + 1)) := GO_fct hz fun p p' C h => by
      have := GO_sum hz r _ _ _ h
      omega
    exact x_sum1 (GO_chain g0) (x_prod g0 f0)
