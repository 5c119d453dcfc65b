/-! the class's reader: pieces joined -/
noncomputable def JB (G : FN) (sg st : Int32) : FN := mkF 4 none (sq (sI 2 (icst (-1))) (sq (kV (rcv 4) G (vI (vR vn (ldR 0)) (ldI 1))) (sq (sq (sI 3 (icst 0)) (lp (cand (cand (cnt (cmp oge (ldI 3) (icst 160))) (cnt (cmz zne (fI 4 3 (ldR 0))))) (cnt (cmp one (kI (rcv 4) F_X4_sign (vR vn (ldR 0))) (icst sg)))) (sq (pU 4 2 oadd (ldR 0) (icst 1)) (sq (sI 2 (kI (rcv 3) F_X3_add (vI (vI (vR vn (fR 4 4 (ldR 0))) (icst st)) (ldI 2)))) (kV (rcv 4) G (vI (vR vn (ldR 0)) (ldI 1))))) (sC 3 1))) (sq (kV (rcv 3) F_X3_endSkips (vI (vR vn (fR 4 4 (ldR 0))) (ldI 2))) (rV)))))
theorem JB0 (d : Nat) : FL (d + 1) 0 = JB (FL d 1) (nI 124) (cop 12) := rfl
theorem JB1 (d : Nat) : FL (d + 1) 1 = JB (FL d 2) (nI 38) (cop 11) := rfl
/-- the codes, with the skips S still open, that will end at E -/
def CS (h : Hp) (la K c : Nat) (C : List Cd) (S : List Nat) (E : Nat) : Prop := ∀ i x, C[i]? = some x → h.2.1 (la + 1) (K + i) = cop x.1 ∧ (x.1 ≤ 1 → K + i ∉ S ∧ h.2.1 (la + 2) (K + i) = nI x.2.1) ∧ (11 ≤ x.1 → (K + i ∈ S ∧ x.2.2.1 = E) ∨ (K + i ∉ S ∧ h.2.1 (la + 2) (K + i) = nI (x.2.2.1 + c)))
def cmb (Cp : Nat → Nat → List Cd) (k : Nat) (R : Except Nat (Nat × Nat × List Cd)) : Rd := match R with
  | .error f => .error f
  | .ok (p', l, C) => .ok (p', Cp (k + C.length) (k + l) ++ C)
theorem joinR_c {s : Nat → Nat} {c op : Nat} {F : Nat → Nat → Rd} {p k : Nat} : joinR s c op F p k = cmb (fun _ _ => []) k (joinP s c op F 200 p k) := by
  unfold joinR cmb
  cases joinP s c op F 200 p k with
  | error f => rfl
  | ok x => rfl
theorem cmb_s {s : Nat → Nat} {c op : Nat} {F : Nat → Nat → Rd} {Cp : Nat → Nat → List Cd} {p k n px : Nat} {C1 : List Cd} (hF : F p k = .ok (px, C1)) (hs : s px = c) : cmb Cp k (joinP s c op F (n + 1) p k) = cmb (fun E x => Cp E (k + C1.length) ++ C1 ++ [(op, 0, E, x)]) (k + C1.length + 1) (joinP s c op F n (px + 1) (k + C1.length + 1)) := by
  rw [joinP, hF]
  simp only
  rw [if_pos hs]
  cases joinP s c op F n (px + 1) (k + C1.length + 1) with
  | error f => rfl
  | ok x =>
    obtain ⟨p2, l2, C2⟩ := x
    unfold cmb
    simp only [List.length_append, List.length_cons, List.append_assoc, List.cons_append, List.nil_append]
    rw [show k + (C1.length + (C2.length + 1)) = k + C1.length + 1 + C2.length from by omega]
theorem cmb_e {s : Nat → Nat} {c op : Nat} {F : Nat → Nat → Rd} {Cp : Nat → Nat → List Cd} {p k n px : Nat} {C1 : List Cd} (hF : F p k = .ok (px, C1)) (hs : ¬ s px = c) : cmb Cp k (joinP s c op F (n + 1) p k) = .ok (px, Cp (k + C1.length) (k + C1.length) ++ C1) := by
  rw [joinP, hF]
  simp only
  rw [if_neg hs]
  rfl
theorem cmb_f {s : Nat → Nat} {c op : Nat} {F : Nat → Nat → Rd} {Cp : Nat → Nat → List Cd} {p k n f : Nat} (hF : F p k = .error f) : cmb Cp k (joinP s c op F (n + 1) p k) = .error f := by
  rw [joinP, hF]
  rfl
theorem x_join {s : Nat → Nat} {e la c dp sg op : Nat} {G : FN} {F : Nat → Nat → Rd} (hG : GO2 e F) (hS : SPd s e la c G dp F) (hsg : 0 < sg ∧ sg < 256) (hop : 11 ≤ op) : SPd s e la c (JB G (nI sg) (cop op)) dp (joinR s sg op F) := by
  intro h p k q hp hpe hf hK hk
  have hn := q.1
  have hA := q.2.1.2.2
  have hy := law_y hA
  have yl := hy.1
  have yl2 : la < 212 := by omega
  have he := q.2.2.2.1.2
  have hs := q.2.2.2.2.2.1
  have hz := q.2.2.2.2.2.2
  generalize hV : joinR s sg op F p k = V
  unfold JB
  refine f_mkE [.ref 146, .int (nI dp), junk, junk] rfl (by simp [argE, Value.category]) ?_
  refine w_sqI (E' := [.ref 146, .int (nI dp), .int (-1), junk]) (-1) (by simp only [f_mkF, w_sI, w_sR, w_sL, w_sC, w_sk, w_sbr, w_sco, w_rV, w_rI, w_rR, w_rL, w_dI, w_sO, w_sq, w_si, w_pI, w_pZ, w_pR, w_pU, w_qI, w_qB, w_qZ, w_qU, w_qR, w_kV, q_icst, q_lcst, q_xR, q_ldI, q_ldR, q_ldL, q_bn, q_un, q_dv, q_fI, q_fR, q_aI, q_aR, q_aN, q_tn, q_cmp, q_cmz, q_cnt, q_ctt, q_cand, q_cor, q_vn, q_vI, q_vR, q_vL, q_kI, q_kR, q_kL, q_ckI, envN, argE, List.flatMap_cons, List.flatMap_nil, Value.category, junk, oadd, osub, omul, oand, oor, oxor, odiv, orem, oshl, oshr, oushr, omax, omin]; simp) rfl ?_
  refine w_sqS (fun E1 h1 => E1 = [.ref 146, .int (nI dp), .int (-1), junk] ∧ OC e la c h (k + c) (F p k) h1) (w_kVe [.ref 146, .int (nI dp)] (by simp only [f_mkF, w_sI, w_sR, w_sL, w_sC, w_sk, w_sbr, w_sco, w_rV, w_rI, w_rR, w_rL, w_dI, w_sO, w_sq, w_si, w_pI, w_pZ, w_pR, w_pU, w_qI, w_qB, w_qZ, w_qU, w_qR, w_kV, q_icst, q_lcst, q_xR, q_ldI, q_ldR, q_ldL, q_bn, q_un, q_dv, q_fI, q_fR, q_aI, q_aR, q_aN, q_tn, q_cmp, q_cmz, q_cnt, q_ctt, q_cand, q_cor, q_vn, q_vI, q_vR, q_vL, q_kI, q_kR, q_kL, q_ckI, envN, argE, List.flatMap_cons, List.flatMap_nil, Value.category, junk, oadd, osub, omul, oand, oor, oxor, odiv, orem, oshl, oshr, oushr, omax, omin]; simp) (by simp [rcv, hn, ly146]) (fq_mono (hS h p k q hp hpe hf hK hk) (by rintro r h2 ⟨rfl, z⟩; exact ⟨rfl, rfl, rfl, z⟩))) ?_
  rintro E1 h1 ⟨rfl, o⟩
  refine w_sqS (fun E1 h2 => ∃ (S : List Nat) (v : Int32) (K' : Nat) (w : Value), Ch h2 la v S ∧ S.Pairwise (· > ·) ∧ h2.2.1 la 4 = nI K' ∧ K' ≤ 160 ∧ (∀ y, y ∈ S → y < K') ∧ E1 = [.ref 146, .int (nI dp), .int v, w] ∧ RX s e la h2 ∧ ∀ h3, Fr (fun a j => a = la + 2 ∧ j ∈ S) h2 h3 → (∀ y, y ∈ S → h3.2.1 (la + 2) y = nI K') → OC e la c h (k + c) V h3) ?_ ?_
  · refine w_sqN (w_sIe 0 (by simp only [f_mkF, w_sI, w_sR, w_sL, w_sC, w_sk, w_sbr, w_sco, w_rV, w_rI, w_rR, w_rL, w_dI, w_sO, w_sq, w_si, w_pI, w_pZ, w_pR, w_pU, w_qI, w_qB, w_qZ, w_qU, w_qR, w_kV, q_icst, q_lcst, q_xR, q_ldI, q_ldR, q_ldL, q_bn, q_un, q_dv, q_fI, q_fR, q_aI, q_aR, q_aN, q_tn, q_cmp, q_cmz, q_cnt, q_ctt, q_cand, q_cor, q_vn, q_vI, q_vR, q_vL, q_kI, q_kR, q_kL, q_ckI, envN, argE, List.flatMap_cons, List.flatMap_nil, Value.category, junk, oadd, osub, omul, oand, oor, oxor, odiv, orem, oshl, oshr, oushr, omax, omin]; simp) rfl ⟨rfl, ?_⟩)
    have Zd : ∃ Z : Nat → Nat → En → Hp → Prop, Z = fun n m E h' => (∃ (Cp : Nat → Nat → List Cd) (p1 k1 px : Nat) (C1 : List Cd) (S : List Nat) (v : Int32), V = cmb Cp k1 (joinP s sg op F (200 - n) p1 k1) ∧ F p1 k1 = .ok (px, C1) ∧ n ≤ p1 ∧ k ≤ k1 ∧ k1 + c ≤ p1 ∧ (∀ E x, (Cp E x).length = k1 - k) ∧ (Fr (SCl la (k + c)) h h' ∧ h'.2.1 146 2 = nI px ∧ h'.2.1 146 3 = 0 ∧ h'.2.1 la 4 = nI (k1 + c + C1.length) ∧ CC h' la (k1 + c) c C1) ∧ (∀ E x, CS h' la (k + c) c (Cp E x) S E) ∧ Ch h' la v S ∧ S.Pairwise (· > ·) ∧ (∀ y, y ∈ S → k + c ≤ y ∧ y < k1 + c) ∧ E = [.ref 146, .int (nI dp), .int v, .int (nI m)]) ∨ (∃ (f : Nat) (S : List Nat) (v : Int32) (K' : Nat), V = .error f ∧ OC e la c h (k + c) (.error f) h' ∧ Ch h' la v S ∧ S.Pairwise (· > ·) ∧ h'.2.1 la 4 = nI K' ∧ k + c ≤ K' ∧ K' ≤ 160 ∧ (∀ y, y ∈ S → k + c ≤ y ∧ y < K') ∧ E = [.ref 146, .int (nI dp), .int v, .int (nI m)]) := ⟨_, rfl⟩
    obtain ⟨Z, hZ⟩ := Zd
    refine w_for (lo := 0) (hi := 160) (fun n => Z n n) (fun n => Z (n + 1) n) (by omega) ?_ ?_ ?_
    · rw [hZ]
      rw [joinR_c] at hV
      cases hF : F p k with
      | error f =>
        rw [hF] at o
        have o' := o
        obtain ⟨-, -, -, -, K', w6, w7, w8⟩ := o'
        exact Or.inr ⟨f, [], -1, K', by rw [← hV]; exact cmb_f hF, o, rfl, List.Pairwise.nil, w8, w6, w7, (fun y hy => by simp at hy), rfl⟩
      | ok x =>
        obtain ⟨px, C1⟩ := x
        rw [hF] at o
        exact Or.inl ⟨fun _ _ => [], p, k, px, C1, [], -1, hV.symm, hF, by omega, Nat.le_refl _, hk, (fun _ _ => by simp), o, (fun _ _ i x z => by simp at z), rfl, List.Pairwise.nil, (fun y hy => by simp at hy), rfl⟩
    · intro n E h' n1 n2 hI
      rw [hZ] at hI
      rcases hI with ⟨Cp, p1, k1, px, C1, S, v, i1, hF, i2, i3, i4, i5, ⟨o1, o2, o3, o4, o5⟩, i6, i7, i8, i9, rfl⟩ | ⟨f, S, v, K', i1, o1, i7, i8, w1, w2, w3, i9, rfl⟩
      · obtain ⟨g1, g2, g3⟩ := hG _ _ _ _ hF
        have q2 := q.c o1
        have hn2 := q2.1
        have n160 : n < 160 := by omega
        have e1 := x_sign q2 o2 g2
        have nsg : nI (s px) = nI sg ↔ s px = sg := nI_eq (by have := hs px; omega) (by omega)
        have ct : ev (cnt (cmp one (kI (rcv 4) F_X4_sign (vR vn (ldR 0))) (icst (nI sg)))) [.ref 146, .int (nI dp), .int v, .int (nI n)] h' fun t h2 => t = decide (s px = sg) ∧ h2 = h' := by
          simp only [f_mkF, w_sI, w_sR, w_sL, w_sC, w_sk, w_sbr, w_sco, w_rV, w_rI, w_rR, w_rL, w_dI, w_sO, w_sq, w_si, w_pI, w_pZ, w_pR, w_pU, w_qI, w_qB, w_qZ, w_qU, w_qR, w_kV, q_icst, q_lcst, q_xR, q_ldI, q_ldR, q_ldL, q_bn, q_un, q_dv, q_fI, q_fR, q_aI, q_aR, q_aN, q_tn, q_cmp, q_cmz, q_cnt, q_ctt, q_cand, q_cor, q_vn, q_vI, q_vR, q_vL, q_kI, q_kR, q_kL, q_ckI, envN, argE, List.flatMap_cons, List.flatMap_nil, Value.category, junk, oadd, osub, omul, oand, oor, oxor, odiv, orem, oshl, oshr, oushr, omax, omin]
          simp (disch := first | omega | simp) [rk_i, rk_b, rk_o, st1, kill, Value.category, rcv, nog, wI_1, wI_r, nI_1, hn2, ly146, fq_of e1, nsg]
        by_cases cg : s px = sg
        · have hlt : px < e := lt_e hz (by omega)
          refine ev_T (ev_mono (q_go q2 (n := n) rfl rfl n2 _ (fun _ _ => ct)) ?_) ⟨rfl, fun _ => ⟨n160, ?_⟩, fun z => by cases z⟩
          · rintro t h3 ⟨rfl, rfl⟩
            simp [cg, n160, o3]
          have f2 : Fr (SCl la (k1 + c + C1.length)) h' (wI h' 146 2 (nI (px + 1))) := (Fr.refl h').w (by unfold SCl; omega)
          have q3 := q2.c f2
          refine w_sqS (fun E1 h3 => E1 = [.ref 146, .int (nI dp), .int v, .int (nI n)] ∧ h3 = wI h' 146 2 (nI (px + 1))) (by simp only [f_mkF, w_sI, w_sR, w_sL, w_sC, w_sk, w_sbr, w_sco, w_rV, w_rI, w_rR, w_rL, w_dI, w_sO, w_sq, w_si, w_pI, w_pZ, w_pR, w_pU, w_qI, w_qB, w_qZ, w_qU, w_qR, w_kV, q_icst, q_lcst, q_xR, q_ldI, q_ldR, q_ldL, q_bn, q_un, q_dv, q_fI, q_fR, q_aI, q_aR, q_aN, q_tn, q_cmp, q_cmz, q_cnt, q_ctt, q_cand, q_cor, q_vn, q_vI, q_vR, q_vL, q_kI, q_kR, q_kL, q_ckI, envN, argE, List.flatMap_cons, List.flatMap_nil, Value.category, junk, oadd, osub, omul, oand, oor, oxor, odiv, orem, oshl, oshr, oushr, omax, omin]; simp (disch := first | omega | simp) [rk_i, rk_b, rk_o, st1, kill, Value.category, rcv, nog, hn2, ly146, o2, nI_1]) ?_
          rintro E1 h3 ⟨rfl, rfl⟩
          have k3 : (wI h' 146 2 (nI (px + 1))).2.1 la 4 = nI (k1 + c + C1.length) := by rw [wI_i, if_neg (by omega)]; exact o4
          have a1 := x_addL q3 k3 (by omega) (cop op) v
          have r4 := q3.2.1.2.1
          have hn3 := q3.1
          have m2 : (wI h' 146 2 (nI (px + 1))).2.1 146 2 = nI (px + 1) := by rw [wI_i, if_pos ⟨rfl, rfl⟩]
          have m3 : (wI h' 146 2 (nI (px + 1))).2.1 146 3 = 0 := by rw [wI_i, if_neg (by omega)]; exact o3
          generalize wI h' 146 2 (nI (px + 1)) = h3 at *
          obtain ⟨h5, hh5⟩ : ∃ h5, h5 = wI (wI (wI h3 (la + 1) (k1 + c + C1.length) (cop op)) (la + 2) (k1 + c + C1.length) v) la 4 (nI (k1 + c + C1.length + 1)) := ⟨_, rfl⟩
          rw [← hh5] at a1
          have f3 : Fr (SCl la (k1 + c + C1.length)) h3 h5 := by
            rw [hh5]
            exact (((Fr.refl h3).w (by unfold SCl; omega)).w (by unfold SCl; omega)).w (by unfold SCl; omega)
          refine w_sqS (fun E1 h4 => E1 = [.ref 146, .int (nI dp), .int (nI (k1 + c + C1.length)), .int (nI n)] ∧ h4 = h5) (by simp only [f_mkF, w_sI, w_sR, w_sL, w_sC, w_sk, w_sbr, w_sco, w_rV, w_rI, w_rR, w_rL, w_dI, w_sO, w_sq, w_si, w_pI, w_pZ, w_pR, w_pU, w_qI, w_qB, w_qZ, w_qU, w_qR, w_kV, q_icst, q_lcst, q_xR, q_ldI, q_ldR, q_ldL, q_bn, q_un, q_dv, q_fI, q_fR, q_aI, q_aR, q_aN, q_tn, q_cmp, q_cmz, q_cnt, q_ctt, q_cand, q_cor, q_vn, q_vI, q_vR, q_vL, q_kI, q_kR, q_kL, q_ckI, envN, argE, List.flatMap_cons, List.flatMap_nil, Value.category, junk, oadd, osub, omul, oand, oor, oxor, odiv, orem, oshl, oshr, oushr, omax, omin]; simp (disch := first | omega | simp) [rk_i, rk_b, rk_o, st1, kill, Value.category, rcv, nog, hn3, ly146, r4, yl, yl2, fq_of a1]) ?_
          rintro E1 h4 ⟨rfl, rfl⟩
          have q5 := q3.c f3
          have hn5 := q5.1
          have s1 := hS h4 (px + 1) (k1 + C1.length + 1) q5 (by rw [hh5, wI_i, if_neg (by omega), wI_i, if_neg (by omega), wI_i, if_neg (by omega)]; exact m2) (by omega) (by rw [hh5, wI_i, if_neg (by omega), wI_i, if_neg (by omega), wI_i, if_neg (by omega)]; exact m3) (by rw [hh5, wI_i, if_pos ⟨rfl, rfl⟩]; congr 1; omega) (by omega)
          rw [show k1 + C1.length + 1 + c = k1 + c + C1.length + 1 from by omega] at s1
          have i1' : V = cmb (fun E x => Cp E (k1 + C1.length) ++ C1 ++ [(op, 0, E, x)]) (k1 + C1.length + 1) (joinP s sg op F (200 - (n + 1)) (px + 1) (k1 + C1.length + 1)) := by
            rw [i1, show 200 - n = 200 - (n + 1) + 1 from by omega]
            exact cmb_s hF cg
          refine w_kVe [.ref 146, .int (nI dp)] (by simp only [f_mkF, w_sI, w_sR, w_sL, w_sC, w_sk, w_sbr, w_sco, w_rV, w_rI, w_rR, w_rL, w_dI, w_sO, w_sq, w_si, w_pI, w_pZ, w_pR, w_pU, w_qI, w_qB, w_qZ, w_qU, w_qR, w_kV, q_icst, q_lcst, q_xR, q_ldI, q_ldR, q_ldL, q_bn, q_un, q_dv, q_fI, q_fR, q_aI, q_aR, q_aN, q_tn, q_cmp, q_cmz, q_cnt, q_ctt, q_cand, q_cor, q_vn, q_vI, q_vR, q_vL, q_kI, q_kR, q_kL, q_ckI, envN, argE, List.flatMap_cons, List.flatMap_nil, Value.category, junk, oadd, osub, omul, oand, oor, oxor, odiv, orem, oshl, oshr, oushr, omax, omin]; simp) (by simp [rcv, hn5, ly146]) (fq_mono s1 ?_)
          rintro r h6 ⟨rfl, o7⟩
          refine ⟨rfl, rfl, ?_⟩
          have f6 := o7.1
          have f7 : Fr (SCl la (k1 + c + C1.length)) h' h6 := (f2.trans f3).trans (f6.sc (by omega))
          have f8 : Fr (SCl la (k + c)) h h6 := o1.trans (f7.sc (by omega))
          have y5 : h4.2.1 (la + 2) (k1 + c + C1.length) = v := by rw [hh5, wI_i, if_neg (by omega), wI_i, if_pos ⟨rfl, rfl⟩]
          have y4 : h4.2.1 (la + 1) (k1 + c + C1.length) = cop op := by rw [hh5, wI_i, if_neg (by omega), wI_i, if_neg (by omega), wI_i, if_pos ⟨rfl, rfl⟩]
          have y6 : h6.2.1 (la + 2) (k1 + c + C1.length) = v := by rw [f6.2.2 _ _ (by unfold SCl; omega)]; exact y5
          have y7 : h6.2.1 (la + 1) (k1 + c + C1.length) = cop op := by rw [f6.2.2 _ _ (by unfold SCl; omega)]; exact y4
          have c6 : Ch h6 la (nI (k1 + c + C1.length)) ((k1 + c + C1.length) :: S) := by
            refine ⟨rfl, ?_⟩
            rw [y6]
            refine Ch_c S v (fun y hy => ?_) i7
            have := i9 y hy
            exact f7.2.2 _ _ (by unfold SCl; omega)
          have p6 : ((k1 + c + C1.length) :: S).Pairwise (· > ·) := List.pairwise_cons.mpr ⟨fun y hy => by have := i9 y hy; omega, i8⟩
          rw [hZ]
          cases hF2 : F (px + 1) (k1 + C1.length + 1) with
          | error f =>
            rw [hF2] at o7
            obtain ⟨-, w2, w3, w4, K', w6, w7, w8⟩ := o7
            refine Or.inr ⟨f, _, _, K', ?_, ⟨f8, w2, w3, w4, K', by omega, w7, w8⟩, c6, p6, w8, by omega, w7, fun y hy => ?_, rfl⟩
            · rw [i1', show 200 - (n + 1) = 200 - (n + 2) + 1 from by omega]
              exact cmb_f hF2
            · rcases List.mem_cons.mp hy with rfl | hy
              · omega
              · have := i9 y hy; omega
          | ok x =>
            obtain ⟨p2, C2⟩ := x
            rw [hF2] at o7
            obtain ⟨-, w2, w3, w4, w5⟩ := o7
            refine Or.inl ⟨_, px + 1, k1 + C1.length + 1, p2, C2, _, _, i1', hF2, by omega, by omega, by omega, fun E x => ?_, ⟨f8, w2, w3, ?_, ?_⟩, fun E x => ?_, c6, p6, fun y hy => ?_, rfl⟩
            · simp only [List.length_append, List.length_singleton, i5]
              omega
            · rw [w4]; congr 1; omega
            · rw [show k1 + C1.length + 1 + c = k1 + c + C1.length + 1 from by omega]; exact w5
            · intro i y hy
              have lp := i5 E (k1 + C1.length)
              by_cases z1 : i < (Cp E (k1 + C1.length)).length
              · rw [List.append_assoc, List.getElem?_append_left z1] at hy
                obtain ⟨t1, t2, t3⟩ := i6 E (k1 + C1.length) i y hy
                rw [f7.2.2 (la + 1) (k + c + i) (by unfold SCl; omega), f7.2.2 (la + 2) (k + c + i) (by unfold SCl; omega)]
                refine ⟨t1, fun z => ⟨?_, (t2 z).2⟩, fun z => ?_⟩
                · intro zm
                  rcases List.mem_cons.mp zm with zm | zm
                  · omega
                  · exact (t2 z).1 zm
                · rcases t3 z with ⟨u1, u2⟩ | ⟨u1, u2⟩
                  · exact Or.inl ⟨List.mem_cons_of_mem _ u1, u2⟩
                  · refine Or.inr ⟨?_, u2⟩
                    intro zm
                    rcases List.mem_cons.mp zm with zm | zm
                    · omega
                    · exact u1 zm
              · rw [List.append_assoc, List.getElem?_append_right (by omega)] at hy
                by_cases z2 : i - (Cp E (k1 + C1.length)).length < C1.length
                · rw [List.getElem?_append_left z2] at hy
                  obtain ⟨t1, t2, t3⟩ := o5 _ y hy
                  rw [show k1 + c + (i - (Cp E (k1 + C1.length)).length) = k + c + i from by omega] at t1 t2 t3
                  have nm : k + c + i ∉ (k1 + c + C1.length) :: S := by
                    intro zm
                    rcases List.mem_cons.mp zm with zm | zm
                    · omega
                    · have := i9 _ zm; omega
                  rw [f7.2.2 (la + 1) (k + c + i) (by unfold SCl; omega), f7.2.2 (la + 2) (k + c + i) (by unfold SCl; omega)]
                  exact ⟨t1, fun z => ⟨nm, t2 z⟩, fun z => Or.inr ⟨nm, t3 z⟩⟩
                · rw [List.getElem?_append_right (by omega)] at hy
                  have z3 : i - (Cp E (k1 + C1.length)).length - C1.length = 0 := by
                    refine Classical.byContradiction fun z => ?_
                    rw [List.getElem?_eq_none (by simp; omega)] at hy
                    cases hy
                  rw [z3] at hy
                  simp at hy
                  subst hy
                  rw [show k + c + i = k1 + c + C1.length from by omega]
                  exact ⟨y7, (fun z => by simp only at z; omega), fun z => Or.inl ⟨List.mem_cons_self .., rfl⟩⟩
            · rcases List.mem_cons.mp hy with rfl | hy
              · omega
              · have := i9 y hy; omega
        · refine ev_F (ev_mono (q_go q2 (n := n) rfl rfl n2 _ (fun _ _ => ct)) ?_) ⟨rfl, (fun z => by cases z), fun _ => ⟨rfl, ?_⟩⟩
          · rintro t h3 ⟨rfl, rfl⟩
            simp [cg]
          · refine ⟨S, v, k1 + c + C1.length, _, i7, i8, o4, by omega, (fun y hy => by have := i9 y hy; omega), rfl, q2, fun h3 f3 hy3 => ?_⟩
            have i1' : V = .ok (px, Cp (k1 + C1.length) (k1 + C1.length) ++ C1) := by
              rw [i1, show 200 - n = 200 - (n + 1) + 1 from by omega]
              exact cmb_e hF cg
            have lp := i5 (k1 + C1.length) (k1 + C1.length)
            rw [i1']
            refine ⟨o1.trans (f3.sub fun a j z => ?_), ?_, ?_, ?_, CC.app (fun i y hy => ?_) (fun i y hy => ?_)⟩
            · have := i9 j z.2; unfold SCl; omega
            · rw [f3.2.2 146 2 (by omega)]; exact o2
            · rw [f3.2.2 146 3 (by omega)]; exact o3
            · rw [f3.2.2 la 4 (by omega), o4, List.length_append, lp]; congr 1; omega
            · obtain ⟨t1, t2, t3⟩ := i6 (k1 + C1.length) (k1 + C1.length) i y hy
              rw [f3.2.2 (la + 1) (k + c + i) (by omega)]
              refine ⟨t1, fun z => ?_, fun z => ?_⟩
              · rw [f3.2.2 _ _ (fun zz => (t2 z).1 zz.2)]; exact (t2 z).2
              · rcases t3 z with ⟨u1, u2⟩ | ⟨u1, u2⟩
                · rw [hy3 _ u1, u2]; congr 1; omega
                · rw [f3.2.2 _ _ (fun zz => u1 zz.2)]; exact u2
            · rw [lp, show k + c + (k1 - k) + i = k1 + c + i from by omega, f3.2.2 (la + 1) _ (by omega), f3.2.2 (la + 2) _ (fun zz => by have := i9 _ zz.2; omega)]
              exact o5 i y hy
      · have q2 := q.c o1.1
        have w4 := o1.2.2.1
        refine ev_F (ev_mono (q_go q2 (n := n) rfl rfl n2 false (fun _ z => absurd z w4)) ?_) ⟨rfl, (fun z => by cases z), fun _ => ⟨rfl, ?_⟩⟩
        · rintro t h3 ⟨rfl, rfl⟩
          simp
        · refine ⟨S, v, K', _, i7, i8, w1, w3, (fun y hy => (i9 y hy).2), rfl, q2, fun h3 f3 hy3 => ?_⟩
          rw [i1]
          obtain ⟨o2, o3, o4, ⟨p', o5, o6⟩, -⟩ := o1
          refine ⟨o2.trans (f3.sub fun a j z => ?_), ?_, ?_, ⟨p', o5, ?_⟩, K', w2, w3, ?_⟩
          · have := i9 j z.2; unfold SCl; omega
          · rw [f3.2.2 146 3 (by omega)]; exact o3
          · rw [f3.2.2 146 3 (by omega)]; exact o4
          · rw [f3.2.2 146 2 (by omega)]; exact o6
          · rw [f3.2.2 la 4 (by omega)]; exact w1
    · intro n E h' n1 n2 hJ
      rw [hZ] at hJ ⊢
      rcases hJ with ⟨Cp, p1, k1, px, C1, S, v, i1, hF, i2, i3, i4, i5, o1, i6, i7, i8, i9, rfl⟩ | ⟨f, S, v, K', i1, o1, i7, i8, w1, w2, w3, i9, rfl⟩
      · exact ⟨rfl, Or.inl ⟨Cp, p1, k1, px, C1, S, v, i1, hF, i2, i3, i4, i5, o1, i6, i7, i8, i9, rfl⟩⟩
      · exact ⟨rfl, Or.inr ⟨f, S, v, K', i1, o1, i7, i8, w1, w2, w3, i9, rfl⟩⟩
  · rintro E1 h2 ⟨S, v, K', w, z1, z2, z3, z4, z5, rfl, q2, z6⟩
    have hn2 := q2.1
    have r4 := q2.2.1.2.1
    refine w_sqS (fun _ h3 => OC e la c h (k + c) V h3) ?_ (fun E1 h1 z => by rw [w_rV]; exact Or.inl ⟨rfl, rfl, rfl, z⟩)
    refine w_kVe [.ref la, .int v] (by simp only [f_mkF, w_sI, w_sR, w_sL, w_sC, w_sk, w_sbr, w_sco, w_rV, w_rI, w_rR, w_rL, w_dI, w_sO, w_sq, w_si, w_pI, w_pZ, w_pR, w_pU, w_qI, w_qB, w_qZ, w_qU, w_qR, w_kV, q_icst, q_lcst, q_xR, q_ldI, q_ldR, q_ldL, q_bn, q_un, q_dv, q_fI, q_fR, q_aI, q_aR, q_aN, q_tn, q_cmp, q_cmz, q_cnt, q_ctt, q_cand, q_cor, q_vn, q_vI, q_vR, q_vL, q_kI, q_kR, q_kL, q_ckI, envN, argE, List.flatMap_cons, List.flatMap_nil, Value.category, junk, oadd, osub, omul, oand, oor, oxor, odiv, orem, oshl, oshr, oushr, omax, omin]; simp (disch := first | omega | simp) [rk_i, rk_b, rk_o, st1, kill, Value.category, rcv, nog, hn2, ly146, r4]) (by simp [rcv, hn2, yl, yl2]) (fq_mono (x_ends q2 z3 z4 z2 z5 z1) ?_)
    rintro r h3 ⟨rfl, t1, t2⟩
    exact ⟨rfl, rfl, z6 h3 t1 t2⟩
