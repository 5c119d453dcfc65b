/-! the reference reads a law -/
def LAc (A : List Cl) : List Cd := A.flatMap fun x => x.2.2
theorem LAc_app (A : List Cl) (x : Cl) : LAc (A ++ [x]) = LAc A ++ x.2.2 := by unfold LAc; simp
def CLM (h : Hp) (A : List Cl) : Prop := ∀ j x, A[j]? = some x → h.2.1 186 j = chL x.1 ∧ h.2.1 187 j = nI x.2.1 ∧ h.2.1 188 j = nI (x.2.1 + x.2.2.length)
theorem w_sIh {i : Nat} {a : DI} {E E' : En} {h : Hp} {Q : Nat → Value → En → Hp → Prop} (v : Int32) (h1 : Hp) (ha : ev a E h fun x h2 => x = v ∧ h2 = h1) (hE : st1 E i (.int v) = E') (hb : Q 0 .null E' h1) : wp (sI i a) E h Q := by
  rw [w_sI]
  refine ev_mono ha ?_
  rintro x h2 ⟨rfl, rfl⟩
  rw [hE]
  exact hb
theorem m_takes {s : Nat → Nat} {e : Nat} {h : Hp} (q : MR s e h) {p c : Nat} (hp : h.2.1 166 21 = nI p) (hpe : p ≤ e) (hc : 0 < c ∧ c < 256) : F_X11_takes [.ref 166, .int (nI c)] h = if s p = c then some (some (.int 1), wI h 166 21 (nI (p + 1))) else some (some (.int 0), wI h 166 23 (-(nI (1000 + p)))) := by
  have hn := q.1
  have hh := m_here q hp hpe
  have a1 : hvM s e p = nI c ↔ s p = c := hvM_e q.2.2.2.2.2.1 q.2.2.2.2.2.2 hc
  by_cases z : s p = c
  · rw [if_pos z, ← fq_eq]
    have a2 := a1.mpr z
    unfold F_X11_takes
    refine f_mkE [.ref 166, .int (nI c)] rfl (by simp [argE, Value.category]) ?_
    simp only [f_mkF, w_sI, w_sR, w_sL, w_sC, w_sk, w_sbr, w_sco, w_rV, w_rI, w_rR, w_rL, w_dI, w_sO, w_sq, w_si, w_pI, w_pZ, w_pR, w_pU, w_qI, w_qB, w_qZ, w_qU, w_qR, w_kV, q_icst, q_lcst, q_xR, q_ldI, q_ldR, q_ldL, q_bn, q_un, q_dv, q_fI, q_fR, q_aI, q_aR, q_aN, q_tn, q_cmp, q_cmz, q_cnt, q_ctt, q_cand, q_cor, q_vn, q_vI, q_vR, q_vL, q_kI, q_kR, q_kL, q_ckI, envN, argE, List.flatMap_cons, List.flatMap_nil, Value.category, junk, oadd, osub, omul, oand, oor, oxor, odiv, orem, oshl, oshr, oushr, omax, omin]
    simp (disch := first | omega | simp) [rk_i, rk_b, rk_o, st1, kill, Value.category, rcv, nog, hn, ly166, fq_of hh, a2, hp, nI_1]
  · rw [if_neg z, ← fq_eq]
    have a2 : ¬ hvM s e p = nI c := fun y => z (a1.mp y)
    have e5 : F_X11_wrong [.ref 166, .int 1, .int (nI p)] h = _ := m_wrong hn 1 p
    unfold F_X11_takes
    refine f_mkE [.ref 166, .int (nI c)] rfl (by simp [argE, Value.category]) ?_
    simp only [f_mkF, w_sI, w_sR, w_sL, w_sC, w_sk, w_sbr, w_sco, w_rV, w_rI, w_rR, w_rL, w_dI, w_sO, w_sq, w_si, w_pI, w_pZ, w_pR, w_pU, w_qI, w_qB, w_qZ, w_qU, w_qR, w_kV, q_icst, q_lcst, q_xR, q_ldI, q_ldR, q_ldL, q_bn, q_un, q_dv, q_fI, q_fR, q_aI, q_aR, q_aN, q_tn, q_cmp, q_cmz, q_cnt, q_ctt, q_cand, q_cor, q_vn, q_vI, q_vR, q_vL, q_kI, q_kR, q_kL, q_ckI, envN, argE, List.flatMap_cons, List.flatMap_nil, Value.category, junk, oadd, osub, omul, oand, oor, oxor, odiv, orem, oshl, oshr, oushr, omax, omin]
    simp (disch := first | omega | simp) [rk_i, rk_b, rk_o, st1, kill, Value.category, rcv, nog, hn, ly166, fq_of hh, a2, hp, fq_of e5]
def nxP (s : Nat → Nat) (e p k c : Nat) : Except Nat (List Cl) := if p = e then .ok [] else if s p = 59 then lawP s e (13 - c) (p + 1) k c else .error (1000 + p)
theorem lawP_n {s : Nat → Nat} {e p k c : Nat} (hc : c ≤ 12) (A : List Cl) : cmL A (lawP s e (13 - c) p k c) = (match clsP s c p k with
    | .error f => .error f
    | .ok (p', lt, C) => cmL (A ++ [(lt, k, C)]) (nxP s e p' (k + C.length) (c + 1))) := by
  rw [show 13 - c = 12 - c + 1 from by omega, lawP]
  cases clsP s c p k with
  | error f => rfl
  | ok x =>
    obtain ⟨p', lt, C⟩ := x
    simp only
    unfold nxP
    by_cases c1 : p' = e
    · rw [if_pos c1, if_pos c1]; simp [cmL]
    · rw [if_neg c1, if_neg c1]
      by_cases c2 : s p' = 59
      · rw [if_pos c2, if_pos c2, show 13 - (c + 1) = 12 - c from by omega]
        cases lawP s e (12 - c) (p' + 1) (k + C.length) (c + 1) with
        | error f => rfl
        | ok L => simp [cmL]
      · rw [if_neg c2, if_neg c2]; rfl
/-- after a clause: what is read so far -/
def MLw (s : Nat → Nat) (e : Nat) (h0 : Hp) (V : Except Nat (List Cl)) (g : Int32) (m : Nat) (h' : Hp) : Prop := Fr (SMc2 0) h0 h' ∧ ((g = 1 ∧ ∃ A p L, m = 13 - A.length ∧ A.length ≤ 12 ∧ MCs s e h' p A.length L ∧ L = (LAc A).map rfc ∧ SEQ 0 A L.length ∧ CLM h' A ∧ V = cmL A (nxP s e p L.length A.length)) ∨ (g = 0 ∧ ∃ f, V = .error f ∧ h'.2.1 166 23 = -(nI f)))
theorem m_lawc {s : Nat → Nat} {e : Nat} {h0 h : Hp} {V : Except Nat (List Cl)} {A : List Cl} {p : Nat} {L : List Pr2} (fr : Fr (SMc2 0) h0 h) (ha : A.length ≤ 12) (g : MCs s e h p A.length L) (hl : L = (LAc A).map rfc) (hsq : SEQ 0 A L.length) (hcl : CLM h A) (hV : V = cmL A (lawP s e (13 - A.length) p L.length A.length)) : fq F_X11_readsClause [.ref 166] h fun r h' => ∃ v m, r = some (.int v) ∧ m < 13 - A.length ∧ MLw s e h0 V v m h' := by
  refine fq_mono (m_clause g ha) ?_
  rintro r h' ⟨f1, z⟩
  rw [lawP_n ha] at hV
  have fr1 : Fr (SMc2 0) h0 h' := fr.trans (f1.sub fun a k z => by unfold SMc2 SMr at *; omega)
  cases hR : clsP s A.length p L.length with
  | error f =>
    rw [hR] at z hV
    obtain ⟨rfl, z2⟩ := z
    exact ⟨0, 0, rfl, by omega, fr1, Or.inr ⟨rfl, f, hV, z2⟩⟩
  | ok x =>
    obtain ⟨p', lt, C⟩ := x
    have cb := clsP_b g.1.2.2.2.2.2.2 hR
    rw [hR] at z hV
    obtain ⟨rfl, g2, z2, z3, z4⟩ := z
    have lA : (A ++ [(lt, L.length, C)]).length = A.length + 1 := by simp
    have lL : (L ++ C.map rfc).length = L.length + C.length := by simp
    refine ⟨1, 13 - (A.length + 1), rfl, by omega, fr1, Or.inl ⟨rfl, A ++ [(lt, L.length, C)], p', L ++ C.map rfc, by rw [lA], by rw [lA]; omega, by rw [lA]; exact g2, ?_, by rw [lL]; exact hsq.app, ?_, by rw [lA, lL]; exact hV⟩⟩
    · rw [LAc_app, List.map_append, ← hl]
    · intro j y hy
      by_cases zj : j < A.length
      · rw [List.getElem?_append_left zj] at hy
        obtain ⟨y1, y2, y3⟩ := hcl j y hy
        rw [f1.2.2 186 j (by unfold SMc2 SMr; omega), f1.2.2 187 j (by unfold SMc2 SMr; omega), f1.2.2 188 j (by unfold SMc2 SMr; omega)]
        exact ⟨y1, y2, y3⟩
      · rw [List.getElem?_append_right (by omega)] at hy
        have z0 : j - A.length = 0 := by
          refine Classical.byContradiction fun zz => ?_
          rw [List.getElem?_eq_none (by simp; omega)] at hy
          cases hy
        rw [z0] at hy
        simp at hy
        subst hy
        rw [show j = A.length from by omega]
        exact ⟨z2, z3, z4⟩

/-- what the law's call leaves -/
def SFm (l : Nat) (a k : Nat) : Prop := (a = 166 ∧ 20 ≤ k ∧ k ≤ 28) ∨ (184 ≤ a ∧ a ≤ 188) ∨ (a = 189 ∧ 180 * l ≤ k ∧ k < 180 * l + 180) ∨ (a = 190 ∧ k = l) ∨ ((a = 191 ∨ a = 192 ∨ a = 193) ∧ 12 * l ≤ k ∧ k < 12 * l + 12)
def SFe (a k : Nat) : Prop := (a = 166 ∧ 20 ≤ k ∧ k ≤ 28) ∨ (184 ≤ a ∧ a ≤ 188)
def OMl (l : Nat) (V : Except Nat (List Cl)) (h h' : Hp) : Prop := match V with
  | .error _ => Fr SFe h h'
  | .ok A => Fr (SFm l) h h' ∧ h'.2.1 190 l = nI A.length ∧ (∀ j x, A[j]? = some x → h'.2.1 191 (12 * l + j) = chL x.1 ∧ h'.2.1 192 (12 * l + j) = nI (180 * l + x.2.1) ∧ h'.2.1 193 (12 * l + j) = nI (180 * l + (x.2.1 + x.2.2.length))) ∧ (∀ i y, (LAc A)[i]? = some y → h'.2.1 189 (180 * l + i) = nI (enc2 (rfc y))) ∧ ∃ k, SEQ 0 A k ∧ k ≤ 160
theorem m_loopl {s : Nat → Nat} {e : Nat} {h0 h : Hp} {V : Except Nat (List Cl)} {v : Int32} {m : Nat} {l n : Nat} (H : MLw s e h0 V v m h) : wp (lp (cand (cnt (cmz zeq (ldI 3))) (cnt (cmp oge (fI 11 21 (ldR 0)) (fI 11 22 (ldR 0))))) (sI 3 (tn (cand (cnt (cmz zeq (kI (rcv 11) F_X11_takes (vI (vR vn (ldR 0)) (icst 59))))) (cnt (cmz zeq (kI (rcv 11) F_X11_readsClause (vR vn (ldR 0)))))) (icst 1) (icst 0))) (sk)) [.ref 166, .int (nI l), .int (nI n), .int v, junk, junk] h fun o _ E1 h' => o = 0 ∧ ∃ v', E1 = [.ref 166, .int (nI l), .int (nI n), .int v', junk, junk] ∧ Fr (SMc2 0) h0 h' ∧ ((v' = 1 ∧ ∃ A L, V = .ok A ∧ A.length ≤ 12 ∧ h'.2.1 166 25 = nI L.length ∧ h'.2.1 166 27 = nI A.length ∧ ARr (h'.2.1 184) L ∧ L = (LAc A).map rfc ∧ SEQ 0 A L.length ∧ L.length ≤ 160 ∧ CLM h' A ∧ MR s e h') ∨ (v' = 0 ∧ ∃ f, V = .error f ∧ h'.2.1 166 23 = -(nI f))) := by
  refine w_lp (fun m E h' => ∃ v, E = [.ref 166, .int (nI l), .int (nI n), .int v, junk, junk] ∧ MLw s e h0 V v m h') ?_ m _ _ ⟨v, rfl, H⟩
  rintro m E h' ⟨v, rfl, fr, ⟨rfl, A, p, L, rfl, i1, g, i2, i3, i4, i5⟩ | ⟨rfl, f, i1, i2⟩⟩
  · have g' := g
    obtain ⟨q, m1, m2, m3, m4, m5, hpe, hL⟩ := g'
    have hn := q.1
    have he := q.2.2.1
    have h160 := q.2.2.2.1
    have hz := q.2.2.2.2.2.2
    unfold nxP at i5
    by_cases ce : p = e
    · rw [if_pos ce] at i5
      refine ev_F (by simp only [f_mkF, w_sI, w_sR, w_sL, w_sC, w_sk, w_sbr, w_sco, w_rV, w_rI, w_rR, w_rL, w_dI, w_sO, w_sq, w_si, w_pI, w_pZ, w_pR, w_pU, w_qI, w_qB, w_qZ, w_qU, w_qR, w_kV, q_icst, q_lcst, q_xR, q_ldI, q_ldR, q_ldL, q_bn, q_un, q_dv, q_fI, q_fR, q_aI, q_aR, q_aN, q_tn, q_cmp, q_cmz, q_cnt, q_ctt, q_cand, q_cor, q_vn, q_vI, q_vR, q_vL, q_kI, q_kR, q_kL, q_ckI, envN, argE, List.flatMap_cons, List.flatMap_nil, Value.category, junk, oadd, osub, omul, oand, oor, oxor, odiv, orem, oshl, oshr, oushr, omax, omin]; simp (disch := first | omega | simp) [rk_i, rk_b, rk_o, st1, kill, Value.category, rcv, nog, hn, ly166, m1, he, ce]) ⟨fun _ => ⟨rfl, 1, rfl, fr, Or.inl ⟨rfl, A, L, ?_, i1, m2, m5, m3, i2, i3, by omega, i4, q⟩⟩, fun z => by cases z⟩
      rw [i5]; simp [cmL]
    · rw [if_neg ce] at i5
      have clt : p < e := by omega
      refine ev_T (by simp only [f_mkF, w_sI, w_sR, w_sL, w_sC, w_sk, w_sbr, w_sco, w_rV, w_rI, w_rR, w_rL, w_dI, w_sO, w_sq, w_si, w_pI, w_pZ, w_pR, w_pU, w_qI, w_qB, w_qZ, w_qU, w_qR, w_kV, q_icst, q_lcst, q_xR, q_ldI, q_ldR, q_ldL, q_bn, q_un, q_dv, q_fI, q_fR, q_aI, q_aR, q_aN, q_tn, q_cmp, q_cmz, q_cnt, q_ctt, q_cand, q_cor, q_vn, q_vI, q_vR, q_vL, q_kI, q_kR, q_kL, q_ckI, envN, argE, List.flatMap_cons, List.flatMap_nil, Value.category, junk, oadd, osub, omul, oand, oor, oxor, odiv, orem, oshl, oshr, oushr, omax, omin]; simp (disch := first | omega | simp) [rk_i, rk_b, rk_o, st1, kill, Value.category, rcv, nog, inI_b, nI_clamp, nI_ltI, nI_leI, nI_eq, nI_9, nI_6, nI_22, nI_12, nI_180, nI_add, nI_1, hn, ly166, m1, he, clt]) ⟨(fun z => by cases z), fun _ => ?_⟩
      have et := m_takes q m1 hpe (c := 59) (by omega)
      by_cases c59 : s p = 59
      · rw [if_pos c59] at i5 et
        have et' : F_X11_takes [.ref 166, .int 59] h' = _ := et
        have f1 : Fr (SMc2 0) h' (wI h' 166 21 (nI (p + 1))) := (Fr.refl h').w (by unfold SMc2 SMr; omega)
        have g1 : MCs s e (wI h' 166 21 (nI (p + 1))) (p + 1) A.length L := ⟨q.k f1, by simp [wI_i], by simp [wI_i, m2], m3.c (fun i _ => by simp [wI_i]), m4, by simp [wI_i, m5], by omega, by omega⟩
        have c1 : CLM (wI h' 166 21 (nI (p + 1))) A := fun j x hx => by have := i4 j x hx; simpa [wI_i] using this
        have rc := m_lawc (fr.trans f1) i1 g1 i2 i3 c1 i5
        obtain ⟨r, h2, e3, v, m', rfl, hm', z⟩ := rc
        have v01 : v = 0 ∨ v = 1 := by
          rcases z.2 with ⟨z, -⟩ | ⟨z, -⟩
          · exact Or.inr z
          · exact Or.inl z
        refine w_sIh v h2 ?_ rfl ⟨fun _ => w_sk.mpr ⟨rfl, m', hm', v, rfl, z⟩, (fun z => by cases z), fun z => absurd rfl z⟩
        rcases v01 with rfl | rfl
        · simp only [f_mkF, w_sI, w_sR, w_sL, w_sC, w_sk, w_sbr, w_sco, w_rV, w_rI, w_rR, w_rL, w_dI, w_sO, w_sq, w_si, w_pI, w_pZ, w_pR, w_pU, w_qI, w_qB, w_qZ, w_qU, w_qR, w_kV, q_icst, q_lcst, q_xR, q_ldI, q_ldR, q_ldL, q_bn, q_un, q_dv, q_fI, q_fR, q_aI, q_aR, q_aN, q_tn, q_cmp, q_cmz, q_cnt, q_ctt, q_cand, q_cor, q_vn, q_vI, q_vR, q_vL, q_kI, q_kR, q_kL, q_ckI, envN, argE, List.flatMap_cons, List.flatMap_nil, Value.category, junk, oadd, osub, omul, oand, oor, oxor, odiv, orem, oshl, oshr, oushr, omax, omin]
          simp (disch := first | omega | simp) [rk_i, rk_b, rk_o, st1, kill, Value.category, rcv, nog, wI_1, hn, ly166, fq_of et', fq_of e3]
        · simp only [f_mkF, w_sI, w_sR, w_sL, w_sC, w_sk, w_sbr, w_sco, w_rV, w_rI, w_rR, w_rL, w_dI, w_sO, w_sq, w_si, w_pI, w_pZ, w_pR, w_pU, w_qI, w_qB, w_qZ, w_qU, w_qR, w_kV, q_icst, q_lcst, q_xR, q_ldI, q_ldR, q_ldL, q_bn, q_un, q_dv, q_fI, q_fR, q_aI, q_aR, q_aN, q_tn, q_cmp, q_cmz, q_cnt, q_ctt, q_cand, q_cor, q_vn, q_vI, q_vR, q_vL, q_kI, q_kR, q_kL, q_ckI, envN, argE, List.flatMap_cons, List.flatMap_nil, Value.category, junk, oadd, osub, omul, oand, oor, oxor, odiv, orem, oshl, oshr, oushr, omax, omin]
          simp (disch := first | omega | simp) [rk_i, rk_b, rk_o, st1, kill, Value.category, rcv, nog, wI_1, hn, ly166, fq_of et', fq_of e3]
      · rw [if_neg c59] at i5 et
        have et' : F_X11_takes [.ref 166, .int 59] h' = _ := et
        refine w_sIh 0 (wI h' 166 23 (-(nI (1000 + p)))) (by simp only [f_mkF, w_sI, w_sR, w_sL, w_sC, w_sk, w_sbr, w_sco, w_rV, w_rI, w_rR, w_rL, w_dI, w_sO, w_sq, w_si, w_pI, w_pZ, w_pR, w_pU, w_qI, w_qB, w_qZ, w_qU, w_qR, w_kV, q_icst, q_lcst, q_xR, q_ldI, q_ldR, q_ldL, q_bn, q_un, q_dv, q_fI, q_fR, q_aI, q_aR, q_aN, q_tn, q_cmp, q_cmz, q_cnt, q_ctt, q_cand, q_cor, q_vn, q_vI, q_vR, q_vL, q_kI, q_kR, q_kL, q_ckI, envN, argE, List.flatMap_cons, List.flatMap_nil, Value.category, junk, oadd, osub, omul, oand, oor, oxor, odiv, orem, oshl, oshr, oushr, omax, omin]; simp (disch := first | omega | simp) [rk_i, rk_b, rk_o, st1, kill, Value.category, rcv, nog, hn, ly166, fq_of et']) rfl ⟨fun _ => w_sk.mpr ⟨rfl, 0, by omega, 0, rfl, fr.w (by unfold SMc2 SMr; omega), Or.inr ⟨rfl, 1000 + p, i5, by rw [wI_i, if_pos ⟨rfl, rfl⟩]⟩⟩, (fun z => by cases z), fun z => absurd rfl z⟩
  · refine ev_F (by simp only [f_mkF, w_sI, w_sR, w_sL, w_sC, w_sk, w_sbr, w_sco, w_rV, w_rI, w_rR, w_rL, w_dI, w_sO, w_sq, w_si, w_pI, w_pZ, w_pR, w_pU, w_qI, w_qB, w_qZ, w_qU, w_qR, w_kV, q_icst, q_lcst, q_xR, q_ldI, q_ldR, q_ldL, q_bn, q_un, q_dv, q_fI, q_fR, q_aI, q_aR, q_aN, q_tn, q_cmp, q_cmz, q_cnt, q_ctt, q_cand, q_cor, q_vn, q_vI, q_vR, q_vL, q_kI, q_kR, q_kL, q_ckI, envN, argE, List.flatMap_cons, List.flatMap_nil, Value.category, junk, oadd, osub, omul, oand, oor, oxor, odiv, orem, oshl, oshr, oushr, omax, omin]; simp (disch := first | omega | simp) [rk_i, rk_b, rk_o, st1, kill, Value.category, rcv, nog]) ⟨fun _ => ⟨rfl, 0, rfl, fr, Or.inr ⟨rfl, f, i1, i2⟩⟩, fun z => by cases z⟩
