/-! the reference reads: the stack -/
theorem ev_or {a b : DC} {E : En} {h : Hp} (ta tb : Bool) (ha : ev a E h fun t h1 => t = ta ∧ h1 = h) (hb : ta = false → ev b E h fun t h1 => t = tb ∧ h1 = h) : ev (cor a b) E h fun t h1 => t = (ta || tb) ∧ h1 = h := by
  rw [q_cor]
  refine ev_mono ha ?_
  rintro t h1 ⟨rfl, rfl⟩
  cases t with
  | true => exact ⟨fun _ => ⟨rfl, rfl⟩, fun z => by cases z⟩
  | false =>
    refine ⟨(fun z => by cases z), fun _ => ev_mono (hb rfl) ?_⟩
    rintro t h1 ⟨rfl, rfl⟩
    exact ⟨rfl, rfl⟩
theorem ev_cmpc {f : Int32 → Int32 → Bool} {a : DI} {c v : Int32} {E : En} {h : Hp} (ha : ev a E h fun x h1 => x = v ∧ h1 = h) : ev (cmp f a (icst c)) E h fun t h1 => t = f v c ∧ h1 = h := by
  rw [q_cmp]
  refine ev_mono ha ?_
  rintro x h1 ⟨rfl, rfl⟩
  rw [q_icst]
  exact ⟨rfl, rfl⟩
theorem ev_not {c : DC} {t : Bool} {E : En} {h : Hp} (hc : ev c E h fun x h1 => x = t ∧ h1 = h) : ev (cnt c) E h fun x h1 => x = (!t) ∧ h1 = h := by
  rw [q_cnt]
  refine ev_mono hc ?_
  rintro x h1 ⟨rfl, rfl⟩
  exact ⟨rfl, rfl⟩
theorem ev_cmzc {f : Int32 → Bool} {a : DI} {v : Int32} {E : En} {h : Hp} (ha : ev a E h fun x h1 => x = v ∧ h1 = h) : ev (cmz f a) E h fun t h1 => t = f v ∧ h1 = h := by
  rw [q_cmz]
  refine ev_mono ha ?_
  rintro x h1 ⟨rfl, rfl⟩
  exact ⟨rfl, rfl⟩
theorem ev_k0 {F : FN} {E : En} {h : Hp} {v : Int32} (hn : h.1 = 212) (hE : E[0]? = some (.ref 166)) (hF : F [.ref 166] h = some (some (.int v), h)) : ev (kI (rcv 11) F (vR vn (ldR 0))) E h fun x h1 => x = v ∧ h1 = h := by
  simp only [f_mkF, w_sI, w_sR, w_sL, w_sC, w_sk, w_sbr, w_sco, w_rV, w_rI, w_rR, w_rL, w_dI, w_sO, w_sq, w_si, w_pI, w_pZ, w_pR, w_pU, w_qI, w_qB, w_qZ, w_qU, w_qR, w_kV, q_icst, q_lcst, q_xR, q_ldI, q_ldR, q_ldL, q_bn, q_un, q_dv, q_fI, q_fR, q_aI, q_aR, q_aN, q_tn, q_cmp, q_cmz, q_cnt, q_ctt, q_cand, q_cor, q_vn, q_vI, q_vR, q_vL, q_kI, q_kR, q_kL, q_ckI, envN, argE, List.flatMap_cons, List.flatMap_nil, Value.category, junk, oadd, osub, omul, oand, oor, oxor, odiv, orem, oshl, oshr, oushr, omax, omin]
  simp (disch := first | omega | simp) [rk_i, rk_b, rk_o, st1, kill, Value.category, rcv, nog, hn, ly166, hE, fq_of hF]
theorem ev_ld {i : Nat} {E : En} {h : Hp} {v : Int32} (hE : E[i]? = some (.int v)) : ev (ldI i) E h fun x h1 => x = v ∧ h1 = h := by
  rw [q_ldI]
  exact ⟨v, hE, rfl, rfl⟩
theorem ev_eqt {c : DC} {t u : Bool} {E : En} {h : Hp} (hc : ev c E h fun x h1 => x = t ∧ h1 = h) (e : t = u) : ev c E h fun x h1 => x = u ∧ h1 = h := e ▸ hc
theorem w_pIe {c k : Nat} {a : DR} {b : DI} {E : En} {h : Hp} {Q : Nat → Value → En → Hp → Prop} (A : Nat) (v : Int32) (ha : ev a E h fun x h1 => x = A ∧ h1 = h) (hb : ev b E h fun x h1 => x = v ∧ h1 = h) (hA : A < h.1) (hL : (LY A).1 = c) (hQ : Q 0 .null E (wI h A k v)) : wp (pI c k a b) E h Q := by
  rw [w_pI]
  refine ev_mono ha ?_
  rintro x h1 ⟨rfl, rfl⟩
  refine ev_mono hb ?_
  rintro y h2 ⟨rfl, rfl⟩
  exact ⟨⟨hA, hL⟩, hQ⟩
theorem ev_r0 {E : En} {h : Hp} {a : Nat} (hE : E[0]? = some (.ref a)) : ev (ldR 0) E h fun x h1 => x = a ∧ h1 = h := by
  rw [q_ldR]
  exact ⟨a, hE, rfl, rfl⟩
/-- a field of the reference -/
theorem w_pMe {k : Nat} {b : DI} {E : En} {h : Hp} {Q : Nat → Value → En → Hp → Prop} (v : Int32) (hn : h.1 = 212) (hE : E[0]? = some (.ref 166)) (hb : ev b E h fun x h1 => x = v ∧ h1 = h) (hQ : Q 0 .null E (wI h 166 k v)) : wp (pI 11 k (ldR 0) b) E h Q := w_pIe 166 v (ev_r0 hE) hb (by omega) rfl hQ
theorem ev_fM {k : Nat} {E : En} {h : Hp} {v : Int32} (hn : h.1 = 212) (hE : E[0]? = some (.ref 166)) (hv : h.2.1 166 k = v) : ev (fI 11 k (ldR 0)) E h fun x h1 => x = v ∧ h1 = h := by
  simp only [f_mkF, w_sI, w_sR, w_sL, w_sC, w_sk, w_sbr, w_sco, w_rV, w_rI, w_rR, w_rL, w_dI, w_sO, w_sq, w_si, w_pI, w_pZ, w_pR, w_pU, w_qI, w_qB, w_qZ, w_qU, w_qR, w_kV, q_icst, q_lcst, q_xR, q_ldI, q_ldR, q_ldL, q_bn, q_un, q_dv, q_fI, q_fR, q_aI, q_aR, q_aN, q_tn, q_cmp, q_cmz, q_cnt, q_ctt, q_cand, q_cor, q_vn, q_vI, q_vR, q_vL, q_kI, q_kR, q_kL, q_ckI, envN, argE, List.flatMap_cons, List.flatMap_nil, Value.category, junk, oadd, osub, omul, oand, oor, oxor, odiv, orem, oshl, oshr, oushr, omax, omin]
  simp (disch := first | omega | simp) [rk_i, rk_b, rk_o, st1, kill, Value.category, rcv, nog, hn, ly166, hE, hv]
theorem ev_bc {f : Int32 → Int32 → Int32} {a : DI} {c v w : Int32} {E : En} {h : Hp} (ha : ev a E h fun x h1 => x = v ∧ h1 = h) (hw : f v c = w) : ev (bn f a (icst c)) E h fun x h1 => x = w ∧ h1 = h := by
  rw [q_bn]
  refine ev_mono ha ?_
  rintro x h1 ⟨rfl, rfl⟩
  rw [q_icst]
  exact ⟨hw, rfl⟩
theorem MS.pop {h h' : Hp} {p o o' : Nat} {l m L : List Pr2} (q : MS h p o (l ++ m) L) (h1 : h'.2.1 166 21 = h.2.1 166 21) (h2 : h'.2.1 166 24 = nI o') (h3 : h'.2.1 166 26 = nI l.length) (h4 : h'.2.1 166 25 = h.2.1 166 25) (h5 : ∀ i, h'.2.1 185 i = h.2.1 185 i) (h6 : ∀ i, h'.2.1 184 i = h.2.1 184 i) : MS h' p o' l L := by
  obtain ⟨m1, m2, m3, m4, m5, m6, m7, m8⟩ := q
  exact ⟨h1.trans m1, h2, h3, h4.trans m4, m5.pre fun i _ => h5 i, m6.c fun i _ => h6 i, m7.pre, m8⟩
theorem m_opens {h : Hp} (hn : h.1 = 212) (hm : PM h.2.2) {p o : Nat} {st L : List Pr2} (m : MS h p o st L) {w : Nat} (hw : w ≤ 14) (hl : st.length < 180) (ho : o ≤ 6) : fq F_X11_opens [.ref 166, .int (nI w)] h fun r h' => if o = 6 then r = some (.int 0) ∧ h' = wI h 166 23 (-(nI (5000 + p))) else r = some (.int 1) ∧ Fr SMr h h' ∧ MS h' (p + 1) (o + 1) (st ++ [(w, 0)]) L := by
  obtain ⟨m1, m2, m3, m4, m5, m6, m7, m8⟩ := m
  have p30 : h.2.2 166 30 = some 185 := hm 30
  have ev : 1048576 * nI w = nI (enc2 (w, 0)) := by
    rw [show (1048576 : Int32) = nI 1048576 from rfl, nI_mul]; rfl
  have e5 : F_X11_wrong [.ref 166, .int 5, .int (nI p)] h = _ := m_wrong hn 5 p
  have o6 : nI o = 6 ↔ o = 6 := nI_eq (a := o) (b := 6) (by omega) (by omega)
  unfold F_X11_opens
  refine f_mkE [.ref 166, .int (nI w)] rfl (by simp [argE, Value.category]) ?_
  by_cases c : o = 6
  · simp only [if_pos c]
    have o6' := o6.mpr c
    simp only [f_mkF, w_sI, w_sR, w_sL, w_sC, w_sk, w_sbr, w_sco, w_rV, w_rI, w_rR, w_rL, w_dI, w_sO, w_sq, w_si, w_pI, w_pZ, w_pR, w_pU, w_qI, w_qB, w_qZ, w_qU, w_qR, w_kV, q_icst, q_lcst, q_xR, q_ldI, q_ldR, q_ldL, q_bn, q_un, q_dv, q_fI, q_fR, q_aI, q_aR, q_aN, q_tn, q_cmp, q_cmz, q_cnt, q_ctt, q_cand, q_cor, q_vn, q_vI, q_vR, q_vL, q_kI, q_kR, q_kL, q_ckI, envN, argE, List.flatMap_cons, List.flatMap_nil, Value.category, junk, oadd, osub, omul, oand, oor, oxor, odiv, orem, oshl, oshr, oushr, omax, omin]
    simp (disch := first | omega | simp) [rk_i, rk_b, rk_o, st1, kill, Value.category, rcv, nog, hn, ly166, m1, m2, o6', fq_of e5]
  · simp only [if_neg c]
    have o6' : ¬ nI o = 6 := fun z => c (o6.mp z)
    refine w_sq.mpr ((w_siF (by simp only [f_mkF, w_sI, w_sR, w_sL, w_sC, w_sk, w_sbr, w_sco, w_rV, w_rI, w_rR, w_rL, w_dI, w_sO, w_sq, w_si, w_pI, w_pZ, w_pR, w_pU, w_qI, w_qB, w_qZ, w_qU, w_qR, w_kV, q_icst, q_lcst, q_xR, q_ldI, q_ldR, q_ldL, q_bn, q_un, q_dv, q_fI, q_fR, q_aI, q_aR, q_aN, q_tn, q_cmp, q_cmz, q_cnt, q_ctt, q_cand, q_cor, q_vn, q_vI, q_vR, q_vL, q_kI, q_kR, q_kL, q_ckI, envN, argE, List.flatMap_cons, List.flatMap_nil, Value.category, junk, oadd, osub, omul, oand, oor, oxor, odiv, orem, oshl, oshr, oushr, omax, omin]; simp (disch := first | omega | simp) [rk_i, rk_b, rk_o, st1, kill, Value.category, rcv, nog, hn, ly166, m2, o6'])).mpr (w_sk2.mpr ?_))
    simp only [f_mkF, w_sI, w_sR, w_sL, w_sC, w_sk, w_sbr, w_sco, w_rV, w_rI, w_rR, w_rL, w_dI, w_sO, w_sq, w_si, w_pI, w_pZ, w_pR, w_pU, w_qI, w_qB, w_qZ, w_qU, w_qR, w_kV, q_icst, q_lcst, q_xR, q_ldI, q_ldR, q_ldL, q_bn, q_un, q_dv, q_fI, q_fR, q_aI, q_aR, q_aN, q_tn, q_cmp, q_cmz, q_cnt, q_ctt, q_cand, q_cor, q_vn, q_vI, q_vR, q_vL, q_kI, q_kR, q_kL, q_ckI, envN, argE, List.flatMap_cons, List.flatMap_nil, Value.category, junk, oadd, osub, omul, oand, oor, oxor, odiv, orem, oshl, oshr, oushr, omax, omin]
    simp (disch := first | omega | simp) [rk_i, rk_b, rk_o, st1, kill, Value.category, rcv, nog, wI_1, wI_r, inI_b, nI_clamp, nI_ltI, nI_leI, nI_eq, nI_9, nI_6, nI_22, nI_12, nI_180, nI_add, nI_1, hn, ly166, ly185, p30, m1, m2, m3, hl, ev, wI_i]
    refine ⟨((((Fr.refl h).w (by unfold SMr; omega)).w (by unfold SMr; omega)).w (by unfold SMr; omega)).w (by unfold SMr; omega), ?_, ?_, ?_, ?_, ?_, ?_, m7.app (inr.one ⟨hw, by simp⟩), m8⟩
    · simp [wI_i]
    · simp [wI_i]
    · simp [wI_i]
    · simp [wI_i, m4]
    · refine m5.app (fun i hi => ?_) ?_
      · rw [wI_i, if_neg (by omega), wI_i, if_neg (by omega), wI_i, if_neg (by omega), wI_i, if_neg (by omega)]
      · rw [wI_i, if_neg (by omega), wI_i, if_neg (by omega), wI_i, if_pos ⟨rfl, rfl⟩]
    · exact m6.c fun i _ => by simp [wI_i]
def cloM (all : Bool) (x : Nat) : Bool := decide (4 ≤ x ∧ x ≤ 6) || (all && decide (x = 2 ∨ x = 3))
def cvM (t : Int32) (all : Bool) : Bool := ((!(olt t 4)) && (ole t 6)) || ((!(zeq (b2 (all = true)))) && (oeq t 2 || !(one t 3)))
theorem cv_c : ∀ x, x ≤ 14 → ∀ a, cvM (nI x) a = cloM a x := by decide +kernel
theorem cv_n : ∀ a, cvM (-1) a = false := by decide +kernel
/-- what stands below is not closed -/
def stopM (f : Nat → Bool) (σ : List Pr2) : Prop := ∀ l x, σ = l ++ [x] → f x.1 = false
theorem tp_app (l : List Pr2) (x : Pr2) : tpM (l ++ [x]) = nI x.1 := by unfold tpM; simp
theorem tp_nil : tpM [] = -1 := rfl
theorem cc_s (l : List Pr2) : l = [] ∨ ∃ m x, l = m ++ [x] := by
  cases h : l.getLast? with
  | none => exact Or.inl (List.getLast?_eq_none_iff.mp h)
  | some x => obtain ⟨m, e⟩ := List.getLast?_eq_some_iff.mp h; exact Or.inr ⟨m, x, e⟩
def ops (l : List Pr2) : List Pr2 := l.reverse.map fun x => (x.1, 0)
theorem ops_app (l : List Pr2) (x : Pr2) (m : List Pr2) : ops (l ++ x :: m) = ops m ++ (x.1, 0) :: ops l := by unfold ops; simp
theorem ops_l (l : List Pr2) : (ops l).length = l.length := by unfold ops; simp
theorem m_closes {h : Hp} (hn : h.1 = 212) (hm : PM h.2.2) {p o : Nat} {σ pend L : List Pr2} (m : MS h p o (σ ++ pend) L) (all : Bool) (hl : (σ ++ pend).length < 180) (hL : L.length + pend.length < 180) (hc : ∀ x, x ∈ pend → cloM all x.1 = true) (hσ : stopM (cloM all) σ) : fq F_X11_closesSums [.ref 166, .int (b2 (all = true))] h fun r h' => r = none ∧ Fr SMr h h' ∧ MS h' p o σ (L ++ ops pend) := by
  unfold F_X11_closesSums
  refine f_mkE [.ref 166, .int (b2 (all = true))] rfl (by simp [argE, Value.category]) ?_
  refine w_sqS (fun _ h' => Fr SMr h h' ∧ MS h' p o σ (L ++ ops pend)) ?_ (fun E1 h1 z => by rw [w_rV]; exact Or.inl ⟨rfl, rfl, rfl, z⟩)
  refine w_lp (fun k E h' => E = [.ref 166, .int (b2 (all = true))] ∧ Fr SMr h h' ∧ ∃ p1 p2, pend = p1 ++ p2 ∧ k = p1.length ∧ MS h' p o (σ ++ p1) (L ++ ops p2)) ?_ pend.length _ _ ⟨rfl, Fr.refl h, pend, [], by simp, rfl, by unfold ops; simpa using m⟩
  rintro k E h' ⟨rfl, f, p1, p2, i1, rfl, i2⟩
  have hn' : h'.1 = 212 := f.1.trans hn
  have hm' : PM h'.2.2 := by rw [f.2.1]; exact hm
  have ln : pend.length = p1.length + p2.length := by rw [i1]; simp
  have hl' : (σ ++ p1).length < 180 := by simp at hl ⊢; omega
  have e1 := m_top hn' hm' i2 hl'
  have ct : ev (cor (cand (cnt (cmp olt (kI (rcv 11) F_X11_top (vR vn (ldR 0))) (icst 4))) (cmp ole (kI (rcv 11) F_X11_top (vR vn (ldR 0))) (icst 6))) (cand (cnt (cmz zeq (ldI 1))) (cor (cmp oeq (kI (rcv 11) F_X11_top (vR vn (ldR 0))) (icst 2)) (cnt (cmp one (kI (rcv 11) F_X11_top (vR vn (ldR 0))) (icst 3)))))) [.ref 166, .int (b2 (all = true))] h' fun t h1 => t = cvM (tpM (σ ++ p1)) all ∧ h1 = h' := by
    have k1 := ev_k0 (E := [.ref 166, .int (b2 (all = true))]) hn' rfl e1
    exact ev_or _ _ (ev_and _ _ (ev_not (ev_cmpc k1)) fun _ => ev_cmpc k1) fun _ => ev_and _ _ (ev_not (ev_cmzc (ev_ld rfl))) fun _ => ev_or _ _ (ev_cmpc k1) fun _ => ev_not (ev_cmpc k1)
  rcases cc_s p1 with rfl | ⟨l, x, rfl⟩
  · have c0 : cvM (tpM (σ ++ [])) all = false := by
      rw [List.append_nil]
      rcases cc_s σ with rfl | ⟨l, x, rfl⟩
      · exact cv_n all
      · rw [tp_app, cv_c _ (i2.2.2.2.2.2.2.1 x (by simp)).1]; exact hσ l x rfl
    refine ev_F (ev_eqt ct c0) ⟨fun _ => ⟨rfl, f, ?_⟩, fun z => by cases z⟩
    rw [List.append_nil] at i2
    rw [i1]
    exact i2
  · have hx := i2.2.2.2.2.2.2.1 x (by simp)
    have c0 : cvM (tpM (σ ++ (l ++ [x]))) all = true := by
      rw [← List.append_assoc, tp_app, cv_c _ hx.1]
      exact hc x (by rw [i1]; simp)
    refine ev_T (ev_eqt ct c0) ⟨(fun z => by cases z), fun _ => ?_⟩
    have t1 : tpM (σ ++ (l ++ [x])) = nI x.1 := by rw [← List.append_assoc, tp_app]
    rw [t1] at e1
    have ll : L.length + (ops p2).length < 180 := by rw [ops_l]; simp at ln; omega
    have s1 := m_says hn' hm' i2 (op := x.1) (v := 0) hx.1 (by omega) (by simp; omega)
    refine w_sqS (fun E1 h2 => E1 = [.ref 166, .int (b2 (all = true))] ∧ Fr SMr h' h2 ∧ MS h2 p o (σ ++ (l ++ [x])) (L ++ ops p2 ++ [(x.1, 0)])) ?_ ?_
    · refine w_kVe [.ref 166, .int (nI x.1), .int (nI 0)] (by simp only [f_mkF, w_sI, w_sR, w_sL, w_sC, w_sk, w_sbr, w_sco, w_rV, w_rI, w_rR, w_rL, w_dI, w_sO, w_sq, w_si, w_pI, w_pZ, w_pR, w_pU, w_qI, w_qB, w_qZ, w_qU, w_qR, w_kV, q_icst, q_lcst, q_xR, q_ldI, q_ldR, q_ldL, q_bn, q_un, q_dv, q_fI, q_fR, q_aI, q_aR, q_aN, q_tn, q_cmp, q_cmz, q_cnt, q_ctt, q_cand, q_cor, q_vn, q_vI, q_vR, q_vL, q_kI, q_kR, q_kL, q_ckI, envN, argE, List.flatMap_cons, List.flatMap_nil, Value.category, junk, oadd, osub, omul, oand, oor, oxor, odiv, orem, oshl, oshr, oushr, omax, omin]; simp (disch := first | omega | simp) [rk_i, rk_b, rk_o, st1, kill, Value.category, rcv, nog, hn', ly166, fq_of e1]; rfl) (by simp [rcv, hn', ly166]) (fq_mono s1 ?_)
      rintro r h2 ⟨rfl, z1, z2⟩
      exact ⟨rfl, rfl, rfl, z1, z2⟩
    · rintro E1 h2 ⟨rfl, f2, m2⟩
      have hn2 : h2.1 = 212 := f2.1.trans hn'
      have w3 : h2.2.1 166 26 = nI ((σ ++ l).length + 1) := by rw [m2.2.2.1]; congr 1; simp; omega
      have w4 : nI ((σ ++ l).length + 1) - 1 = nI (σ ++ l).length := nI_pred _
      refine w_pMe (nI (σ ++ l).length) hn2 rfl (ev_bc (ev_fM hn2 rfl w3) w4) ⟨fun _ => w_sk.mpr ⟨rfl, l.length, by simp, rfl, (f.trans f2).w (by unfold SMr; omega), l, x :: p2, by rw [i1]; simp, rfl, ?_⟩, (fun z => by cases z), fun z => absurd rfl z⟩
      rw [show L ++ ops (x :: p2) = L ++ ops p2 ++ [(x.1, 0)] from by rw [show x :: p2 = [] ++ x :: p2 from rfl, ops_app]; unfold ops; simp]
      rw [← List.append_assoc] at m2
      exact m2.pop (by simp [wI_i]) (by simp [wI_i, m2.2.1]) (by simp [wI_i]) (by simp [wI_i]) (fun i => by simp [wI_i]) (fun i => by simp [wI_i])
theorem m_ends {h : Hp} (hn : h.1 = 212) (hm : PM h.2.2) {p o j : Nat} {σ L : List Pr2} (m : MS h p (o + j) (σ ++ List.replicate j (10, 0)) L) (hl : σ.length + j < 180) (hL : L.length + j < 180) (ho : o + j < 100) (hσ : stopM (fun x => decide (x = 10)) σ) : fq F_X11_endsPiece [.ref 166] h fun r h' => r = none ∧ Fr SMr h h' ∧ MS h' p o σ (L ++ List.replicate j (10, 0)) := by
  unfold F_X11_endsPiece
  refine f_mkE [.ref 166] rfl (by simp [argE, Value.category]) ?_
  refine w_sqS (fun _ h' => Fr SMr h h' ∧ MS h' p o σ (L ++ List.replicate j (10, 0))) ?_ (fun E1 h1 z => by rw [w_rV]; exact Or.inl ⟨rfl, rfl, rfl, z⟩)
  refine w_lp (fun k E h' => E = [.ref 166] ∧ Fr SMr h h' ∧ ∃ i, j = k + i ∧ MS h' p (o + k) (σ ++ List.replicate k (10, 0)) (L ++ List.replicate i (10, 0))) ?_ j _ _ ⟨rfl, Fr.refl h, 0, rfl, by simpa using m⟩
  rintro k E h' ⟨rfl, f, i, rfl, i2⟩
  have hn' : h'.1 = 212 := f.1.trans hn
  have hm' : PM h'.2.2 := by rw [f.2.1]; exact hm
  have e1 := m_top hn' hm' i2 (by simp; omega)
  have ct : ev (cnt (cmp one (kI (rcv 11) F_X11_top (vR vn (ldR 0))) (icst 10))) [.ref 166] h' fun t h1 => t = (!(one (tpM (σ ++ List.replicate k (10, 0))) 10)) ∧ h1 = h' := ev_not (ev_cmpc (ev_k0 hn' rfl e1))
  have cn : ∀ x, x ≤ 14 → (!(one (nI x) 10)) = decide (x = 10) := by decide +kernel
  cases k with
  | zero =>
    have c0 : (!(one (tpM (σ ++ List.replicate 0 (10, 0))) 10)) = false := by
      rw [List.replicate_zero, List.append_nil]
      rcases cc_s σ with rfl | ⟨l, x, rfl⟩
      · decide
      · rw [tp_app, cn _ (i2.2.2.2.2.2.2.1 x (by simp)).1]; exact hσ l x rfl
    refine ev_F (ev_eqt ct c0) ⟨fun _ => ⟨rfl, f, ?_⟩, fun z => by cases z⟩
    simpa using i2
  | succ k =>
    rw [List.replicate_succ', ← List.append_assoc] at i2 ct
    have c0 : (!(one (tpM (σ ++ List.replicate k (10, 0) ++ [(10, 0)])) 10)) = true := by rw [tp_app]; decide
    refine ev_T (ev_eqt ct c0) ⟨(fun z => by cases z), fun _ => ?_⟩
    have s1 := m_says hn' hm' i2 (op := 10) (v := 0) (by omega) (by omega) (by simp; omega)
    refine w_sqS (fun E1 h2 => E1 = [.ref 166] ∧ Fr SMr h' h2 ∧ MS h2 p (o + (k + 1)) (σ ++ List.replicate k (10, 0) ++ [(10, 0)]) (L ++ List.replicate i (10, 0) ++ [(10, 0)])) ?_ ?_
    · refine w_kVe [.ref 166, .int (nI 10), .int (nI 0)] (by simp only [f_mkF, w_sI, w_sR, w_sL, w_sC, w_sk, w_sbr, w_sco, w_rV, w_rI, w_rR, w_rL, w_dI, w_sO, w_sq, w_si, w_pI, w_pZ, w_pR, w_pU, w_qI, w_qB, w_qZ, w_qU, w_qR, w_kV, q_icst, q_lcst, q_xR, q_ldI, q_ldR, q_ldL, q_bn, q_un, q_dv, q_fI, q_fR, q_aI, q_aR, q_aN, q_tn, q_cmp, q_cmz, q_cnt, q_ctt, q_cand, q_cor, q_vn, q_vI, q_vR, q_vL, q_kI, q_kR, q_kL, q_ckI, envN, argE, List.flatMap_cons, List.flatMap_nil, Value.category, junk, oadd, osub, omul, oand, oor, oxor, odiv, orem, oshl, oshr, oushr, omax, omin]; simp (disch := first | omega | simp) [rk_i, rk_b, rk_o, st1, kill, Value.category, rcv, nog]; exact ⟨rfl, rfl⟩) (by simp [rcv, hn', ly166]) (fq_mono s1 ?_)
      rintro r h2 ⟨rfl, z1, z2⟩
      exact ⟨rfl, rfl, rfl, z1, z2⟩
    · rintro E1 h2 ⟨rfl, f2, m2⟩
      have hn2 : h2.1 = 212 := f2.1.trans hn'
      have w3 : h2.2.1 166 26 = nI (σ.length + k + 1) := by rw [m2.2.2.1]; congr 1; simp; omega
      have w4 : nI (σ.length + k + 1) - 1 = nI (σ.length + k) := nI_pred _
      have w5 : h2.2.1 166 24 = nI (o + k + 1) := by rw [m2.2.1]; rfl
      have w6 : nI (o + k + 1) - 1 = nI (o + k) := nI_pred _
      refine w_sqN (w_pMe (nI (σ.length + k)) hn2 rfl (ev_bc (ev_fM hn2 rfl w3) w4) ⟨rfl, ?_⟩)
      refine w_pMe (nI (o + k)) hn2 rfl (ev_bc (ev_fM hn2 rfl (by rw [wI_i, if_neg (by omega)]; exact w5)) w6) ⟨fun _ => w_sk.mpr ⟨rfl, k, by omega, rfl, ((f.trans f2).w (by unfold SMr; omega)).w (by unfold SMr; omega), i + 1, by omega, ?_⟩, (fun z => by cases z), fun z => absurd rfl z⟩
      rw [show L ++ List.replicate (i + 1) (10, 0) = L ++ List.replicate i (10, 0) ++ [(10, 0)] from by rw [List.replicate_succ']; simp]
      exact m2.pop (by simp [wI_i]) (by simp [wI_i]) (by simp [wI_i]) (by simp [wI_i]) (fun i => by simp [wI_i]) (fun i => by simp [wI_i])
