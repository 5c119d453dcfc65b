/-! the class's reader: a law -/
abbrev Cl : Type := Nat × Nat × List Cd
def lawP (s : Nat → Nat) (e : Nat) : Nat → Nat → Nat → Nat → Except Nat (List Cl)
  | 0, p, _, _ => .error (1000 + p)
  | n + 1, p, k, c => match clsP s c p k with
    | .error f => .error f
    | .ok (p', lt, C) => if p' = e then .ok [(lt, k, C)] else if s p' = 59 then (match lawP s e n (p' + 1) (k + C.length) (c + 1) with
      | .error f => .error f
      | .ok L => .ok ((lt, k, C) :: L)) else .error (1000 + p')
def cmL (A : List Cl) (R : Except Nat (List Cl)) : Except Nat (List Cl) := match R with
  | .error f => .error f
  | .ok L => .ok (A ++ L)
/-- the clauses stand in the class's law -/
def CLS (h : Hp) (la : Nat) (A : List Cl) : Prop := ∀ j x, A[j]? = some x → h.2.1 (la + 3) j = nI x.1 ∧ h.2.1 (la + 4) j = nI (x.2.1 + j) ∧ CC h la (x.2.1 + j) j x.2.2 ∧ h.2.1 (la + 1) (x.2.1 + j + x.2.2.length) = 5
/-- the clauses follow each other, from k0 to k -/
def SEQ : Nat → List Cl → Nat → Prop
  | k0, [], k => k0 = k
  | k0, x :: A, k => x.2.1 = k0 ∧ SEQ (k0 + x.2.2.length) A k
theorem SEQ.app : ∀ {A : List Cl} {k0 k : Nat} {lt : Nat} {C : List Cd}, SEQ k0 A k → SEQ k0 (A ++ [(lt, k, C)]) (k + C.length) := by
  intro A
  induction A with
  | nil => intro k0 k lt C z; cases z; exact ⟨rfl, rfl⟩
  | cons x A ih => rintro k0 k lt C ⟨z1, z2⟩; exact ⟨z1, ih z2⟩
theorem SEQ.le : ∀ {A : List Cl} {k0 k : Nat}, SEQ k0 A k → k0 ≤ k := by
  intro A
  induction A with
  | nil => intro k0 k z; cases z; exact Nat.le_refl _
  | cons x A ih => rintro k0 k ⟨z1, z2⟩; have := ih z2; omega
theorem SEQ.at : ∀ {A : List Cl} {k0 k : Nat}, SEQ k0 A k → ∀ (j : Nat) (x : Cl), A[j]? = some x → k0 ≤ x.2.1 ∧ x.2.1 + x.2.2.length ≤ k ∧ j < A.length := by
  intro A
  induction A with
  | nil => intro k0 k _ j x e; simp at e
  | cons y A ih =>
    rintro k0 k ⟨z1, z2⟩ j x e
    cases j with
    | zero => simp at e; subst e; have := z2.le; simp; omega
    | succ j => simp at e; have := ih z2 j x e; simp; omega
theorem CLS.c {h h' : Hp} {la : Nat} {A : List Cl} {k : Nat} (hA : lawA la) (a : CLS h la A) (hs : SEQ 0 A k) (f : Fr (SD la (k + A.length) A.length) h h') : CLS h' la A := by
  intro j x e
  obtain ⟨z1, z2, z3, z4⟩ := a j x e
  obtain ⟨s1, s2, s3⟩ := hs.at j x e
  have hy := law_y hA
  refine ⟨?_, ?_, fun i y hy2 => ?_, ?_⟩
  · rw [f.2.2 _ _ (by unfold SD SCl; omega)]; exact z1
  · rw [f.2.2 _ _ (by unfold SD SCl; omega)]; exact z2
  · have hi : i < x.2.2.length := by
      by_cases z : i < x.2.2.length
      · exact z
      · rw [List.getElem?_eq_none (by omega)] at hy2; cases hy2
    rw [f.2.2 (la + 1) _ (by unfold SD SCl; omega), f.2.2 (la + 2) _ (by unfold SD SCl; omega)]
    exact z3 i y hy2
  · rw [f.2.2 _ _ (by unfold SD SCl; omega)]; exact z4
def ansP (V : Except Nat (List Cl)) : Int32 := match V with
  | .ok L => nI L.length
  | .error f => -(nI f)
def SE (la a k : Nat) : Prop := (a = 146 ∧ 1 ≤ k ∧ k ≤ 3) ∨ (la ≤ a ∧ a ≤ la + 4)
def OL (la : Nat) (V : Except Nat (List Cl)) (h' : Hp) : Prop := match V with
  | .error f => h'.2.1 146 3 = -(nI f) ∧ h'.2.1 146 3 ≠ 0
  | .ok L => h'.2.1 146 3 = 0 ∧ h'.2.1 la 5 = nI L.length ∧ CLS h' la L ∧ ∃ k, SEQ 0 L k ∧ h'.2.1 la 4 = nI (k + L.length) ∧ k + L.length ≤ 160
theorem x_loop {s : Nat → Nat} {e la : Nat} {h : Hp} (q : RX s e la h) (hp : h.2.1 146 2 = nI 0) (hf : h.2.1 146 3 = 0) (hK : h.2.1 la 4 = nI 0) (hc : h.2.1 la 5 = nI 0) {V : Except Nat (List Cl)} (hV : lawP s e 13 0 0 0 = V) (n0 : Value) : wp (lp (cnt (cmp ogt (ldI 3) (icst 12))) (sq (kV (rcv 4) F_X4_clause (vR vn (ldR 0))) (sq (si (cor (cmz zne (fI 4 3 (ldR 0))) (cnt (cmp one (fI 4 2 (ldR 0)) (fI 4 1 (ldR 0))))) (sbr) sk) (kV (rcv 4) F_X4_expect (vI (vR vn (ldR 0)) (icst 59))))) (sC 3 1)) [.ref 146, n0, .ref la, .int (nI 0)] h fun o _ E1 h' => o = 0 ∧ E1[0]? = some (.ref 146) ∧ Fr (SD la 0 0) h h' ∧ OL la V h' := by
  have hA := q.2.1.2.2
  have hy := law_y hA
  have yl := hy.1
  have yl2 : la < 212 := by omega
  have he := q.2.2.2.1.2
  have hs := q.2.2.2.2.2.1
  have hz := q.2.2.2.2.2.2
  have k12 : (12 : Int32) = nI 12 := rfl
  refine w_lp (fun m E h' => ∃ n, m = 13 - n ∧ n ≤ 12 ∧ E = [.ref 146, n0, .ref la, .int (nI n)] ∧ Fr (SD la 0 0) h h' ∧ ((∃ A p k, A.length = n ∧ V = cmL A (lawP s e (13 - n) p k n) ∧ p ≤ e ∧ k + n ≤ p ∧ h'.2.1 146 2 = nI p ∧ h'.2.1 146 3 = 0 ∧ h'.2.1 la 4 = nI (k + n) ∧ h'.2.1 la 5 = nI n ∧ CLS h' la A ∧ SEQ 0 A k) ∨ (∃ f p c, V = .error f ∧ h'.2.1 146 3 = -(nI f) ∧ h'.2.1 146 3 ≠ 0 ∧ p ≤ e ∧ h'.2.1 146 2 = nI p ∧ h'.2.1 la 5 = nI c ∧ c ≤ 12))) ?_ 13 _ _ ⟨0, rfl, by omega, rfl, Fr.refl h, Or.inl ⟨[], 0, 0, rfl, ?_, by omega, by omega, hp, hf, hK, hc, (fun j x z => by simp at z), rfl⟩⟩
  · rintro m E h' ⟨n, rfl, hn12, rfl, f1, hI⟩
    have q1 := q.d f1
    have hn1 := q1.1
    have x2 : h'.2.1 146 1 = nI e := q1.2.2.2.1.1
    refine ev_T (by simp only [f_mkF, w_sI, w_sR, w_sL, w_sC, w_sk, w_sbr, w_sco, w_rV, w_rI, w_rR, w_rL, w_dI, w_sO, w_sq, w_si, w_pI, w_pZ, w_pR, w_pU, w_qI, w_qB, w_qZ, w_qU, w_qR, w_kV, q_icst, q_lcst, q_xR, q_ldI, q_ldR, q_ldL, q_bn, q_un, q_dv, q_fI, q_fR, q_aI, q_aR, q_aN, q_tn, q_cmp, q_cmz, q_cnt, q_ctt, q_cand, q_cor, q_vn, q_vI, q_vR, q_vL, q_kI, q_kR, q_kL, q_ckI, envN, argE, List.flatMap_cons, List.flatMap_nil, Value.category, junk, oadd, osub, omul, oand, oor, oxor, odiv, orem, oshl, oshr, oushr, omax, omin]; simp (disch := first | omega | simp) [rk_i, rk_b, rk_o, st1, kill, Value.category, rcv, nog, inI_b, nI_clamp, nI_ltI, nI_leI, nI_eq, nI_9, nI_6, nI_22, nI_12, nI_180, nI_add, nI_1, k12, hn12]) ⟨(fun z => by cases z), fun _ => ?_⟩
    rcases hI with ⟨A, p, k, i1, i2, i3, i4, i5, i6, i7, i8, i9, i10⟩ | ⟨f, p, c, i1, i2, i3, i4, i5, i6, i7⟩
    · refine w_sqS (fun E1 h2 => E1 = [.ref 146, n0, .ref la, .int (nI n)] ∧ OK2 e la n h' (k + n) (clsP s n p k) h2) (w_kVe [.ref 146] (by simp only [f_mkF, w_sI, w_sR, w_sL, w_sC, w_sk, w_sbr, w_sco, w_rV, w_rI, w_rR, w_rL, w_dI, w_sO, w_sq, w_si, w_pI, w_pZ, w_pR, w_pU, w_qI, w_qB, w_qZ, w_qU, w_qR, w_kV, q_icst, q_lcst, q_xR, q_ldI, q_ldR, q_ldL, q_bn, q_un, q_dv, q_fI, q_fR, q_aI, q_aR, q_aN, q_tn, q_cmp, q_cmz, q_cnt, q_ctt, q_cand, q_cor, q_vn, q_vI, q_vR, q_vL, q_kI, q_kR, q_kL, q_ckI, envN, argE, List.flatMap_cons, List.flatMap_nil, Value.category, junk, oadd, osub, omul, oand, oor, oxor, odiv, orem, oshl, oshr, oushr, omax, omin]; simp) (by simp [rcv, hn1, ly146]) (fq_mono (x_clause q1 i5 i3 i6 i7 i4 i8 hn12) (by rintro r h2 ⟨rfl, z⟩; exact ⟨rfl, rfl, rfl, z⟩))) ?_
      rintro E1 h2 ⟨rfl, o⟩
      have f2 : Fr (SD la 0 0) h h2 := f1.trans (o.1.sub fun a k z => by unfold SD SCl at *; omega)
      have q2 := q.d f2
      have hn2 := q2.1
      have x3 : h2.2.1 146 1 = nI e := q2.2.2.2.1.1
      rw [show 13 - n = 12 - n + 1 from by omega, lawP] at i2
      cases hR : clsP s n p k with
      | error f =>
        rw [hR] at o i2
        obtain ⟨-, w2, w3, -⟩ := o
        have hVf : V = .error f := i2
        rw [hVf]
        refine w_sq.mpr ((w_siT (by simp only [f_mkF, w_sI, w_sR, w_sL, w_sC, w_sk, w_sbr, w_sco, w_rV, w_rI, w_rR, w_rL, w_dI, w_sO, w_sq, w_si, w_pI, w_pZ, w_pR, w_pU, w_qI, w_qB, w_qZ, w_qU, w_qR, w_kV, q_icst, q_lcst, q_xR, q_ldI, q_ldR, q_ldL, q_bn, q_un, q_dv, q_fI, q_fR, q_aI, q_aR, q_aN, q_tn, q_cmp, q_cmz, q_cnt, q_ctt, q_cand, q_cor, q_vn, q_vI, q_vR, q_vL, q_kI, q_kR, q_kL, q_ckI, envN, argE, List.flatMap_cons, List.flatMap_nil, Value.category, junk, oadd, osub, omul, oand, oor, oxor, odiv, orem, oshl, oshr, oushr, omax, omin]; simp (disch := first | omega | simp) [rk_i, rk_b, rk_o, st1, kill, Value.category, rcv, nog, hn2, ly146, w3])).mpr ?_)
        rw [w_sbr]
        refine ⟨(fun z => by cases z), fun _ => ⟨(fun z => by rcases z with z | z <;> cases z), fun _ => ⟨rfl, rfl, f2, w2, w3⟩, fun _ _ z => absurd rfl z⟩⟩
      | ok x =>
        obtain ⟨p', lt, C⟩ := x
        rw [hR] at o i2
        obtain ⟨o1, w2, w3, w4, w5, w6, w7, w8, w9⟩ := o
        obtain ⟨b1, b2, b3, b4, b5, -⟩ := clsP_b hz hR
        simp only at i2
        have c2 : CLS h2 la (A ++ [(lt, k, C)]) := by
          intro j x hx
          by_cases z : j < A.length
          · rw [List.getElem?_append_left z] at hx
            exact i9.c hA i10 (by rw [i1]; exact o1) j x hx
          · rw [List.getElem?_append_right (by omega)] at hx
            have z0 : j - A.length = 0 := by
              refine Classical.byContradiction fun z2 => ?_
              rw [List.getElem?_eq_none (by simp; omega)] at hx
              cases hx
            rw [z0] at hx
            simp at hx
            subst hx
            have : j = n := by omega
            subst this
            exact ⟨w6, w7, w8, w9⟩
        have s2 : SEQ 0 (A ++ [(lt, k, C)]) (k + C.length) := i10.app
        by_cases ce : p' = e
        · rw [if_pos ce] at i2
          have hVf : V = .ok (A ++ [(lt, k, C)]) := i2
          rw [hVf]
          refine w_sq.mpr ((w_siT (by simp only [f_mkF, w_sI, w_sR, w_sL, w_sC, w_sk, w_sbr, w_sco, w_rV, w_rI, w_rR, w_rL, w_dI, w_sO, w_sq, w_si, w_pI, w_pZ, w_pR, w_pU, w_qI, w_qB, w_qZ, w_qU, w_qR, w_kV, q_icst, q_lcst, q_xR, q_ldI, q_ldR, q_ldL, q_bn, q_un, q_dv, q_fI, q_fR, q_aI, q_aR, q_aN, q_tn, q_cmp, q_cmz, q_cnt, q_ctt, q_cand, q_cor, q_vn, q_vI, q_vR, q_vL, q_kI, q_kR, q_kL, q_ckI, envN, argE, List.flatMap_cons, List.flatMap_nil, Value.category, junk, oadd, osub, omul, oand, oor, oxor, odiv, orem, oshl, oshr, oushr, omax, omin]; simp (disch := first | omega | simp) [rk_i, rk_b, rk_o, st1, kill, Value.category, rcv, nog, hn2, ly146, w2, w3, x3, ce])).mpr ?_)
          rw [w_sbr]
          refine ⟨(fun z => by cases z), fun _ => ⟨(fun z => by rcases z with z | z <;> cases z), fun _ => ⟨rfl, rfl, f2, w3, ?_, c2, k + C.length, s2, ?_, ?_⟩, fun _ _ z => absurd rfl z⟩⟩
          · rw [w5, List.length_append, i1]; rfl
          · rw [w4, List.length_append, i1]; congr 1; simp; omega
          · rw [List.length_append, i1]; simp; omega
        · rw [if_neg ce] at i2
          have npe : ¬ nI p' = nI e := fun z => ce ((nI_eq (by omega) (by omega)).mp z)
          refine w_sq.mpr ((w_siF (by simp only [f_mkF, w_sI, w_sR, w_sL, w_sC, w_sk, w_sbr, w_sco, w_rV, w_rI, w_rR, w_rL, w_dI, w_sO, w_sq, w_si, w_pI, w_pZ, w_pR, w_pU, w_qI, w_qB, w_qZ, w_qU, w_qR, w_kV, q_icst, q_lcst, q_xR, q_ldI, q_ldR, q_ldL, q_bn, q_un, q_dv, q_fI, q_fR, q_aI, q_aR, q_aN, q_tn, q_cmp, q_cmz, q_cnt, q_ctt, q_cand, q_cor, q_vn, q_vI, q_vR, q_vL, q_kI, q_kR, q_kL, q_ckI, envN, argE, List.flatMap_cons, List.flatMap_nil, Value.category, junk, oadd, osub, omul, oand, oor, oxor, odiv, orem, oshl, oshr, oushr, omax, omin]; simp (disch := first | omega | simp) [rk_i, rk_b, rk_o, st1, kill, Value.category, rcv, nog, hn2, ly146, w2, w3, x3, npe])).mpr (w_sk2.mpr ?_))
          have e59 := x_expect q2 w2 (c := 59) b2 (by omega)
          rw [if_pos w3] at e59
          by_cases c59 : s p' = 59
          · rw [if_pos c59] at e59 i2
            have hlt : p' < e := lt_e hz (by omega)
            refine w_kVe [.ref 146, .int (nI 59)] (by simp only [f_mkF, w_sI, w_sR, w_sL, w_sC, w_sk, w_sbr, w_sco, w_rV, w_rI, w_rR, w_rL, w_dI, w_sO, w_sq, w_si, w_pI, w_pZ, w_pR, w_pU, w_qI, w_qB, w_qZ, w_qU, w_qR, w_kV, q_icst, q_lcst, q_xR, q_ldI, q_ldR, q_ldL, q_bn, q_un, q_dv, q_fI, q_fR, q_aI, q_aR, q_aN, q_tn, q_cmp, q_cmz, q_cnt, q_ctt, q_cand, q_cor, q_vn, q_vI, q_vR, q_vL, q_kI, q_kR, q_kL, q_ckI, envN, argE, List.flatMap_cons, List.flatMap_nil, Value.category, junk, oadd, osub, omul, oand, oor, oxor, odiv, orem, oshl, oshr, oushr, omax, omin]; simp; rfl) (by simp [rcv, hn2, ly146]) ((fq_of e59).mpr ⟨rfl, ?_⟩)
            refine ⟨fun _ => w_sCe (nI n) (nI (n + 1)) rfl (nI_1 _) rfl ⟨rfl, 13 - (n + 1), by omega, n + 1, rfl, by omega, rfl, f2.w (by unfold SD SCl; omega), Or.inl ⟨A ++ [(lt, k, C)], p' + 1, k + C.length, ?_, ?_, by omega, by omega, ?_, ?_, ?_, ?_, ?_, s2⟩⟩, (fun z => by cases z), fun z => absurd rfl z⟩
            · simp [i1]
            · rw [i2, show 13 - (n + 1) = 12 - n from by omega]
              cases lawP s e (12 - n) (p' + 1) (k + C.length) (n + 1) with
              | error f => rfl
              | ok L => simp [cmL]
            · rw [wI_i, if_pos ⟨rfl, rfl⟩]
            · rw [wI_i, if_neg (by omega)]; exact w3
            · rw [wI_i, if_neg (by omega), w4]; congr 1; omega
            · rw [wI_i, if_neg (by omega)]; exact w5
            · exact c2.c hA s2 ((Fr.refl h2).w (by unfold SD SCl; omega))
          · rw [if_neg c59] at e59 i2
            have hVf : V = .error (1000 + p') := i2
            obtain ⟨t1, t2, t3, -⟩ := OC_fail (c := 0) (K := 0) hA (Fr.refl h2) w2 b2 he (w := 1) (by omega) (by omega) w4 (by omega) (by omega)
            refine w_kVe [.ref 146, .int (nI 59)] (by simp only [f_mkF, w_sI, w_sR, w_sL, w_sC, w_sk, w_sbr, w_sco, w_rV, w_rI, w_rR, w_rL, w_dI, w_sO, w_sq, w_si, w_pI, w_pZ, w_pR, w_pU, w_qI, w_qB, w_qZ, w_qU, w_qR, w_kV, q_icst, q_lcst, q_xR, q_ldI, q_ldR, q_ldL, q_bn, q_un, q_dv, q_fI, q_fR, q_aI, q_aR, q_aN, q_tn, q_cmp, q_cmz, q_cnt, q_ctt, q_cand, q_cor, q_vn, q_vI, q_vR, q_vL, q_kI, q_kR, q_kL, q_ckI, envN, argE, List.flatMap_cons, List.flatMap_nil, Value.category, junk, oadd, osub, omul, oand, oor, oxor, odiv, orem, oshl, oshr, oushr, omax, omin]; simp; rfl) (by simp [rcv, hn2, ly146]) ((fq_of e59).mpr ⟨rfl, ?_⟩)
            refine ⟨fun _ => w_sCe (nI n) (nI (n + 1)) rfl (nI_1 _) rfl ⟨rfl, 13 - (n + 1), by omega, n + 1, rfl, by omega, rfl, f2.w (by unfold SD SCl; omega), Or.inr ⟨1000 + p', p', n + 1, hVf, t2, t3, b2, ?_, ?_, by omega⟩⟩, (fun z => by cases z), fun z => absurd rfl z⟩
            · rw [wI_i, if_neg (by omega)]; exact w2
            · rw [wI_i, if_neg (by omega)]; exact w5
    · refine w_sqS (fun E1 h2 => E1 = [.ref 146, n0, .ref la, .int (nI n)] ∧ h2 = h') (w_kVe [.ref 146] (by simp only [f_mkF, w_sI, w_sR, w_sL, w_sC, w_sk, w_sbr, w_sco, w_rV, w_rI, w_rR, w_rL, w_dI, w_sO, w_sq, w_si, w_pI, w_pZ, w_pR, w_pU, w_qI, w_qB, w_qZ, w_qU, w_qR, w_kV, q_icst, q_lcst, q_xR, q_ldI, q_ldR, q_ldL, q_bn, q_un, q_dv, q_fI, q_fR, q_aI, q_aR, q_aN, q_tn, q_cmp, q_cmz, q_cnt, q_ctt, q_cand, q_cor, q_vn, q_vI, q_vR, q_vL, q_kI, q_kR, q_kL, q_ckI, envN, argE, List.flatMap_cons, List.flatMap_nil, Value.category, junk, oadd, osub, omul, oand, oor, oxor, odiv, orem, oshl, oshr, oushr, omax, omin]; simp) (by simp [rcv, hn1, ly146]) ((fq_of (x_clsF q1 i5 i4 i3 i6 i7)).mpr ⟨rfl, rfl, rfl, rfl⟩)) ?_
      rintro E1 h2 ⟨rfl, rfl⟩
      rw [i1]
      refine w_sq.mpr ((w_siT (by simp only [f_mkF, w_sI, w_sR, w_sL, w_sC, w_sk, w_sbr, w_sco, w_rV, w_rI, w_rR, w_rL, w_dI, w_sO, w_sq, w_si, w_pI, w_pZ, w_pR, w_pU, w_qI, w_qB, w_qZ, w_qU, w_qR, w_kV, q_icst, q_lcst, q_xR, q_ldI, q_ldR, q_ldL, q_bn, q_un, q_dv, q_fI, q_fR, q_aI, q_aR, q_aN, q_tn, q_cmp, q_cmz, q_cnt, q_ctt, q_cand, q_cor, q_vn, q_vI, q_vR, q_vL, q_kI, q_kR, q_kL, q_ckI, envN, argE, List.flatMap_cons, List.flatMap_nil, Value.category, junk, oadd, osub, omul, oand, oor, oxor, odiv, orem, oshl, oshr, oushr, omax, omin]; simp (disch := first | omega | simp) [rk_i, rk_b, rk_o, st1, kill, Value.category, rcv, nog, hn1, ly146, i3])).mpr ?_)
      rw [w_sbr]
      exact ⟨(fun z => by cases z), fun _ => ⟨(fun z => by rcases z with z | z <;> cases z), fun _ => ⟨rfl, rfl, f1, i2, i3⟩, fun _ _ z => absurd rfl z⟩⟩
  · rw [← hV]
    cases lawP s e (13 - 0) 0 0 0 with
    | error f => rfl
    | ok L => rfl

theorem and255 (x : Int32) : ∃ b, b < 256 ∧ oand x 255 = nI b := by
  refine ⟨(x &&& 255).toBitVec.toNat, ?_, ?_⟩
  · have : (x &&& 255).toBitVec = x.toBitVec &&& (255 : Int32).toBitVec := rfl
    rw [this, BitVec.toNat_and]
    have h2 : (255 : Int32).toBitVec.toNat = 255 := by decide
    rw [h2]
    have := @Nat.and_le_right x.toBitVec.toNat 255
    omega
  · show x &&& 255 = Int32.ofNat _
    refine Int32.toBitVec_inj.mp ?_
    rw [Int32.toBitVec_ofNat']
    simp
theorem x_read {h : Hp} (hn : h.1 = 212) {la : Nat} (hA : lawA la) (h0 : h.2.2 146 0 = some 13) (hr : h.2.2 la 0 = some (la + 1) ∧ h.2.2 la 1 = some (la + 2) ∧ h.2.2 la 2 = some (la + 3) ∧ h.2.2 la 3 = some (la + 4)) {n : Nat} (h160 : n ≤ 160) {s : Nat → Nat} (hb : ∀ p, p < n → oand (h.2.1 13 p) 255 = nI (s p)) (hs : ∀ p, s p < 256) (hz : ∀ p, n ≤ p → s p = 0) : fq F_X4_read [.ref 146, .int (nI n), .ref la] h fun r h' => r = some (.int (ansP (lawP s n 13 0 0 0))) ∧ h'.1 = 212 ∧ h'.2.2 = (wR h 146 4 (some la)).2.2 ∧ (∀ a k, ¬ SE la a k → h'.2.1 a k = h.2.1 a k) ∧ OL la (lawP s n 13 0 0 0) h' := by
  have hy := law_y hA
  have yl := hy.1
  have yl2 : la < 212 := by omega
  have om : ¬ (200 : Int32) < nI n := by
    rw [show (200 : Int32) = nI 200 from rfl, nI_ltI (by omega) (by omega)]
    omega
  unfold F_X4_read
  refine f_mkE [.ref 146, .int (nI n), .ref la, junk] rfl (by simp [argE, Value.category]) ?_
  refine w_sqS (fun E1 h1 => E1 = [.ref 146, .int (nI n), .ref la, junk] ∧ h1 = wI h 146 1 (nI n)) (by simp only [f_mkF, w_sI, w_sR, w_sL, w_sC, w_sk, w_sbr, w_sco, w_rV, w_rI, w_rR, w_rL, w_dI, w_sO, w_sq, w_si, w_pI, w_pZ, w_pR, w_pU, w_qI, w_qB, w_qZ, w_qU, w_qR, w_kV, q_icst, q_lcst, q_xR, q_ldI, q_ldR, q_ldL, q_bn, q_un, q_dv, q_fI, q_fR, q_aI, q_aR, q_aN, q_tn, q_cmp, q_cmz, q_cnt, q_ctt, q_cand, q_cor, q_vn, q_vI, q_vR, q_vL, q_kI, q_kR, q_kL, q_ckI, envN, argE, List.flatMap_cons, List.flatMap_nil, Value.category, junk, oadd, osub, omul, oand, oor, oxor, odiv, orem, oshl, oshr, oushr, omax, omin]; simp (disch := first | omega | simp) [rk_i, rk_b, rk_o, st1, kill, Value.category, rcv, nog, wI_1, wI_r, nI_1, hn, ly146, ly13, h0, om]) ?_
  rintro E1 h1 ⟨rfl, rfl⟩
  refine w_sqS (fun E1 h1 => E1 = [.ref 146, .int (nI n), .ref la, junk] ∧ h1 = wI (wI h 146 1 (nI n)) 146 2 0) (by simp only [f_mkF, w_sI, w_sR, w_sL, w_sC, w_sk, w_sbr, w_sco, w_rV, w_rI, w_rR, w_rL, w_dI, w_sO, w_sq, w_si, w_pI, w_pZ, w_pR, w_pU, w_qI, w_qB, w_qZ, w_qU, w_qR, w_kV, q_icst, q_lcst, q_xR, q_ldI, q_ldR, q_ldL, q_bn, q_un, q_dv, q_fI, q_fR, q_aI, q_aR, q_aN, q_tn, q_cmp, q_cmz, q_cnt, q_ctt, q_cand, q_cor, q_vn, q_vI, q_vR, q_vL, q_kI, q_kR, q_kL, q_ckI, envN, argE, List.flatMap_cons, List.flatMap_nil, Value.category, junk, oadd, osub, omul, oand, oor, oxor, odiv, orem, oshl, oshr, oushr, omax, omin]; simp (disch := first | omega | simp) [rk_i, rk_b, rk_o, st1, kill, Value.category, rcv, nog, wI_1, wI_r, nI_1, hn, ly146, ly13, h0]) ?_
  rintro E1 h1 ⟨rfl, rfl⟩
  refine w_sqS (fun E1 h1 => E1 = [.ref 146, .int (nI n), .ref la, junk] ∧ h1 = wI (wI (wI h 146 1 (nI n)) 146 2 0) 146 3 0) (by simp only [f_mkF, w_sI, w_sR, w_sL, w_sC, w_sk, w_sbr, w_sco, w_rV, w_rI, w_rR, w_rL, w_dI, w_sO, w_sq, w_si, w_pI, w_pZ, w_pR, w_pU, w_qI, w_qB, w_qZ, w_qU, w_qR, w_kV, q_icst, q_lcst, q_xR, q_ldI, q_ldR, q_ldL, q_bn, q_un, q_dv, q_fI, q_fR, q_aI, q_aR, q_aN, q_tn, q_cmp, q_cmz, q_cnt, q_ctt, q_cand, q_cor, q_vn, q_vI, q_vR, q_vL, q_kI, q_kR, q_kL, q_ckI, envN, argE, List.flatMap_cons, List.flatMap_nil, Value.category, junk, oadd, osub, omul, oand, oor, oxor, odiv, orem, oshl, oshr, oushr, omax, omin]; simp (disch := first | omega | simp) [rk_i, rk_b, rk_o, st1, kill, Value.category, rcv, nog, wI_1, wI_r, nI_1, hn, ly146, ly13, h0]) ?_
  rintro E1 h1 ⟨rfl, rfl⟩
  refine w_sqS (fun E1 h1 => E1 = [.ref 146, .int (nI n), .ref la, junk] ∧ h1 = wR (wI (wI (wI h 146 1 (nI n)) 146 2 0) 146 3 0) 146 4 (some la)) (by simp only [f_mkF, w_sI, w_sR, w_sL, w_sC, w_sk, w_sbr, w_sco, w_rV, w_rI, w_rR, w_rL, w_dI, w_sO, w_sq, w_si, w_pI, w_pZ, w_pR, w_pU, w_qI, w_qB, w_qZ, w_qU, w_qR, w_kV, q_icst, q_lcst, q_xR, q_ldI, q_ldR, q_ldL, q_bn, q_un, q_dv, q_fI, q_fR, q_aI, q_aR, q_aN, q_tn, q_cmp, q_cmz, q_cnt, q_ctt, q_cand, q_cor, q_vn, q_vI, q_vR, q_vL, q_kI, q_kR, q_kL, q_ckI, envN, argE, List.flatMap_cons, List.flatMap_nil, Value.category, junk, oadd, osub, omul, oand, oor, oxor, odiv, orem, oshl, oshr, oushr, omax, omin]; simp (disch := first | omega | simp) [rk_i, rk_b, rk_o, st1, kill, Value.category, rcv, nog, wI_1, wI_r, nI_1, hn, ly146, ly13, h0, yl, yl2]) ?_
  rintro E1 h1 ⟨rfl, rfl⟩
  refine w_sqS (fun E1 h1 => E1 = [.ref 146, .int (nI n), .ref la, junk] ∧ h1 = wI (wR (wI (wI (wI h 146 1 (nI n)) 146 2 0) 146 3 0) 146 4 (some la)) la 4 0) (by simp only [f_mkF, w_sI, w_sR, w_sL, w_sC, w_sk, w_sbr, w_sco, w_rV, w_rI, w_rR, w_rL, w_dI, w_sO, w_sq, w_si, w_pI, w_pZ, w_pR, w_pU, w_qI, w_qB, w_qZ, w_qU, w_qR, w_kV, q_icst, q_lcst, q_xR, q_ldI, q_ldR, q_ldL, q_bn, q_un, q_dv, q_fI, q_fR, q_aI, q_aR, q_aN, q_tn, q_cmp, q_cmz, q_cnt, q_ctt, q_cand, q_cor, q_vn, q_vI, q_vR, q_vL, q_kI, q_kR, q_kL, q_ckI, envN, argE, List.flatMap_cons, List.flatMap_nil, Value.category, junk, oadd, osub, omul, oand, oor, oxor, odiv, orem, oshl, oshr, oushr, omax, omin]; simp (disch := first | omega | simp) [rk_i, rk_b, rk_o, st1, kill, Value.category, rcv, nog, wI_1, wI_r, nI_1, hn, ly146, ly13, h0, yl, yl2, wR_1, wR_r]) ?_
  rintro E1 h1 ⟨rfl, rfl⟩
  refine w_sqS (fun E1 h1 => E1 = [.ref 146, .int (nI n), .ref la, junk] ∧ h1 = wI (wI (wR (wI (wI (wI h 146 1 (nI n)) 146 2 0) 146 3 0) 146 4 (some la)) la 4 0) la 5 0) (by simp only [f_mkF, w_sI, w_sR, w_sL, w_sC, w_sk, w_sbr, w_sco, w_rV, w_rI, w_rR, w_rL, w_dI, w_sO, w_sq, w_si, w_pI, w_pZ, w_pR, w_pU, w_qI, w_qB, w_qZ, w_qU, w_qR, w_kV, q_icst, q_lcst, q_xR, q_ldI, q_ldR, q_ldL, q_bn, q_un, q_dv, q_fI, q_fR, q_aI, q_aR, q_aN, q_tn, q_cmp, q_cmz, q_cnt, q_ctt, q_cand, q_cor, q_vn, q_vI, q_vR, q_vL, q_kI, q_kR, q_kL, q_ckI, envN, argE, List.flatMap_cons, List.flatMap_nil, Value.category, junk, oadd, osub, omul, oand, oor, oxor, odiv, orem, oshl, oshr, oushr, omax, omin]; simp (disch := first | omega | simp) [rk_i, rk_b, rk_o, st1, kill, Value.category, rcv, nog, wI_1, wI_r, nI_1, hn, ly146, ly13, h0, yl, yl2, wR_1, wR_r]) ?_
  rintro E1 h1 ⟨rfl, rfl⟩
  obtain ⟨h1, hh1⟩ : ∃ h1, h1 = wI (wI (wR (wI (wI (wI h 146 1 (nI n)) 146 2 0) 146 3 0) 146 4 (some la)) la 4 0) la 5 0 := ⟨_, rfl⟩
  rw [← hh1]
  have g1 : h1.1 = 212 := by rw [hh1]; exact hn
  have g2 : h1.2.2 = (wR h 146 4 (some la)).2.2 := by rw [hh1]; rfl
  have g3 : ∀ a k, ¬ SE la a k → h1.2.1 a k = h.2.1 a k := by
    intro a k z
    unfold SE at z
    rw [hh1, wI_i, if_neg (by omega), wI_i, if_neg (by omega), wR_i, wI_i, if_neg (by omega), wI_i, if_neg (by omega), wI_i, if_neg (by omega)]
  have g4 : h1.2.1 146 1 = nI n := by rw [hh1, wI_i, if_neg (by omega), wI_i, if_neg (by omega), wR_i, wI_i, if_neg (by omega), wI_i, if_neg (by omega), wI_i, if_pos ⟨rfl, rfl⟩]
  have g5 : h1.2.1 146 2 = nI 0 := by rw [hh1, wI_i, if_neg (by omega), wI_i, if_neg (by omega), wR_i, wI_i, if_neg (by omega), wI_i, if_pos ⟨rfl, rfl⟩]; rfl
  have g6 : h1.2.1 146 3 = 0 := by rw [hh1, wI_i, if_neg (by omega), wI_i, if_neg (by omega), wR_i, wI_i, if_pos ⟨rfl, rfl⟩]
  have g7 : h1.2.1 la 4 = nI 0 := by rw [hh1, wI_i, if_neg (by omega), wI_i, if_pos ⟨rfl, rfl⟩]; rfl
  have g8 : h1.2.1 la 5 = nI 0 := by rw [hh1, wI_i, if_pos ⟨rfl, rfl⟩]; rfl
  clear hh1
  have q : RX s n la h1 := by
    have rr : ∀ a k, ¬ (a = 146 ∧ k = 4) → h1.2.2 a k = h.2.2 a k := fun a k z => by rw [g2, wR_r, if_neg z]
    refine ⟨g1, ⟨?_, ?_, hA⟩, ⟨?_, ?_, ?_, ?_⟩, ⟨g4, h160⟩, fun p hp => ?_, hs, hz⟩
    · rw [rr _ _ (by omega)]; exact h0
    · rw [g2, wR_r, if_pos ⟨rfl, rfl⟩]
    · rw [rr _ _ (by omega)]; exact hr.1
    · rw [rr _ _ (by omega)]; exact hr.2.1
    · rw [rr _ _ (by omega)]; exact hr.2.2.1
    · rw [rr _ _ (by omega)]; exact hr.2.2.2
    · rw [g3 _ _ (by unfold SE; omega)]; exact hb p hp
  have r4 := q.2.1.2.1
  generalize hV : lawP s n 13 0 0 0 = V
  refine w_sqS (fun E1 h2 => E1[0]? = some (.ref 146) ∧ Fr (SD la 0 0) h1 h2 ∧ OL la V h2) (w_sqN (w_sIe (E' := [.ref 146, .int (nI n), .ref la, .int (nI 0)]) (nI 0) (by simp only [f_mkF, w_sI, w_sR, w_sL, w_sC, w_sk, w_sbr, w_sco, w_rV, w_rI, w_rR, w_rL, w_dI, w_sO, w_sq, w_si, w_pI, w_pZ, w_pR, w_pU, w_qI, w_qB, w_qZ, w_qU, w_qR, w_kV, q_icst, q_lcst, q_xR, q_ldI, q_ldR, q_ldL, q_bn, q_un, q_dv, q_fI, q_fR, q_aI, q_aR, q_aN, q_tn, q_cmp, q_cmz, q_cnt, q_ctt, q_cand, q_cor, q_vn, q_vI, q_vR, q_vL, q_kI, q_kR, q_kL, q_ckI, envN, argE, List.flatMap_cons, List.flatMap_nil, Value.category, junk, oadd, osub, omul, oand, oor, oxor, odiv, orem, oshl, oshr, oushr, omax, omin]; simp; rfl) rfl ⟨rfl, x_loop q g5 g6 g7 g8 hV (.int (nI n))⟩)) ?_
  rintro E1 h2 ⟨hE, f2, o⟩
  have q2 := q.d f2
  have hn2 := q2.1
  have r42 := q2.2.1.2.1
  have gg : h2.1 = 212 ∧ h2.2.2 = (wR h 146 4 (some la)).2.2 ∧ (∀ a k, ¬ SE la a k → h2.2.1 a k = h.2.1 a k) := by
    refine ⟨hn2, f2.2.1.trans g2, fun a k z => ?_⟩
    rw [f2.2.2 a k (by unfold SD SCl; unfold SE at z; omega)]
    exact g3 a k z
  obtain ⟨gg1, gg2, gg3⟩ := gg
  cases V with
  | error f =>
    obtain ⟨o1, o2⟩ := o
    have o3 : ¬ (-(nI f)) = 0 := by rw [← o1]; exact o2
    simp only [f_mkF, w_sI, w_sR, w_sL, w_sC, w_sk, w_sbr, w_sco, w_rV, w_rI, w_rR, w_rL, w_dI, w_sO, w_sq, w_si, w_pI, w_pZ, w_pR, w_pU, w_qI, w_qB, w_qZ, w_qU, w_qR, w_kV, q_icst, q_lcst, q_xR, q_ldI, q_ldR, q_ldL, q_bn, q_un, q_dv, q_fI, q_fR, q_aI, q_aR, q_aN, q_tn, q_cmp, q_cmz, q_cnt, q_ctt, q_cand, q_cor, q_vn, q_vI, q_vR, q_vL, q_kI, q_kR, q_kL, q_ckI, envN, argE, List.flatMap_cons, List.flatMap_nil, Value.category, junk, oadd, osub, omul, oand, oor, oxor, odiv, orem, oshl, oshr, oushr, omax, omin]
    simp (disch := first | omega | simp) [rk_i, rk_b, rk_o, st1, kill, Value.category, rcv, nog, wI_1, wI_r, nI_1, hE, hn2, ly146, o1, o3]
    exact ⟨rfl, gg2, gg3, o1, o2⟩
  | ok L =>
    have o' := o
    obtain ⟨o1, o2, -⟩ := o
    simp only [f_mkF, w_sI, w_sR, w_sL, w_sC, w_sk, w_sbr, w_sco, w_rV, w_rI, w_rR, w_rL, w_dI, w_sO, w_sq, w_si, w_pI, w_pZ, w_pR, w_pU, w_qI, w_qB, w_qZ, w_qU, w_qR, w_kV, q_icst, q_lcst, q_xR, q_ldI, q_ldR, q_ldL, q_bn, q_un, q_dv, q_fI, q_fR, q_aI, q_aR, q_aN, q_tn, q_cmp, q_cmz, q_cnt, q_ctt, q_cand, q_cor, q_vn, q_vI, q_vR, q_vL, q_kI, q_kR, q_kL, q_ckI, envN, argE, List.flatMap_cons, List.flatMap_nil, Value.category, junk, oadd, osub, omul, oand, oor, oxor, odiv, orem, oshl, oshr, oushr, omax, omin]
    simp (disch := first | omega | simp) [rk_i, rk_b, rk_o, st1, kill, Value.category, rcv, nog, wI_1, wI_r, nI_1, hE, hn2, ly146, o1, o2, r42, yl, yl2]
    exact ⟨rfl, gg2, gg3, o'⟩
