/-! the reference reads: small methods -/
/-- the reference at work: bytes s, end e -/
def MR (s : Nat → Nat) (e : Nat) (h : Hp) : Prop := h.1 = 212 ∧ PM h.2.2 ∧ h.2.1 166 22 = nI e ∧ e ≤ 160 ∧ (∀ p, p < e → oand (h.2.1 183 p) 255 = nI (s p)) ∧ (∀ p, s p < 256) ∧ ∀ p, e ≤ p → s p = 0
/-- what it writes -/
def SMr (a k : Nat) : Prop := (a = 166 ∧ (k = 21 ∨ (23 ≤ k ∧ k ≤ 26) ∨ k = 28)) ∨ a = 184 ∨ a = 185
theorem MR.c {s : Nat → Nat} {e : Nat} {h h' : Hp} (q : MR s e h) (f : Fr SMr h h') : MR s e h' := by
  obtain ⟨q1, q2, q3, q4, q5, q6, q7⟩ := q
  obtain ⟨f1, f2, f3⟩ := f
  refine ⟨f1.trans q1, by rw [f2]; exact q2, ?_, q4, fun p hp => ?_, q6, q7⟩
  · rw [f3 _ _ (by unfold SMr; omega)]; exact q3
  · rw [f3 _ _ (by unfold SMr; omega)]; exact q5 p hp
def hvM (s : Nat → Nat) (e p : Nat) : Int32 := if p < e then nI (s p) else -1
theorem hvM_e {s : Nat → Nat} {e p c : Nat} (hs : ∀ p, s p < 256) (hz : ∀ p, e ≤ p → s p = 0) (hc : 0 < c ∧ c < 256) : hvM s e p = nI c ↔ s p = c := by
  unfold hvM
  by_cases z : p < e
  · rw [if_pos z]
    exact nI_eq (by have := hs p; omega) (by omega)
  · rw [if_neg z, hz p (by omega)]
    constructor
    · intro y
      have : (-1 : Int32) < 0 := by decide
      rw [y] at this
      exact absurd this (Int32.not_lt.mpr (nI_0le (by omega)))
    · intro y; omega
theorem m_here {s : Nat → Nat} {e : Nat} {h : Hp} (q : MR s e h) {p : Nat} (hp : h.2.1 166 21 = nI p) (hpe : p ≤ e) : F_X11_here [.ref 166] h = some (some (.int (hvM s e p)), h) := by
  obtain ⟨hn, hm, he, h160, hb, hs, hz⟩ := q
  have p19 : h.2.2 166 19 = some 183 := hm 19
  rw [← fq_eq]
  unfold F_X11_here hvM
  refine f_mkE [.ref 166] rfl (by simp [argE, Value.category]) ?_
  rw [w_rI, q_tn]
  by_cases c : p < e
  · rw [if_pos c]
    refine ev_T (by simp only [f_mkF, w_sI, w_sR, w_sL, w_sC, w_sk, w_sbr, w_sco, w_rV, w_rI, w_rR, w_rL, w_dI, w_sO, w_sq, w_si, w_pI, w_pZ, w_pR, w_pU, w_qI, w_qB, w_qZ, w_qU, w_qR, w_kV, q_icst, q_lcst, q_xR, q_ldI, q_ldR, q_ldL, q_bn, q_un, q_dv, q_fI, q_fR, q_aI, q_aR, q_aN, q_tn, q_cmp, q_cmz, q_cnt, q_ctt, q_cand, q_cor, q_vn, q_vI, q_vR, q_vL, q_kI, q_kR, q_kL, q_ckI, envN, argE, List.flatMap_cons, List.flatMap_nil, Value.category, junk, oadd, osub, omul, oand, oor, oxor, odiv, orem, oshl, oshr, oushr, omax, omin]; simp (disch := first | omega | simp) [rk_i, rk_b, rk_o, st1, kill, Value.category, rcv, nog, inI_b, nI_clamp, nI_ltI, nI_leI, nI_eq, nI_9, nI_6, nI_22, nI_12, nI_180, nI_add, nI_1, hn, ly166, hp, he, c]) ⟨fun _ => ?_, fun z => by cases z⟩
    have hp2 : p < 200 := by omega
    rw [q_bn]
    refine ev_mono (P := fun v h1 => v = h.2.1 183 p ∧ h1 = h) (by simp only [f_mkF, w_sI, w_sR, w_sL, w_sC, w_sk, w_sbr, w_sco, w_rV, w_rI, w_rR, w_rL, w_dI, w_sO, w_sq, w_si, w_pI, w_pZ, w_pR, w_pU, w_qI, w_qB, w_qZ, w_qU, w_qR, w_kV, q_icst, q_lcst, q_xR, q_ldI, q_ldR, q_ldL, q_bn, q_un, q_dv, q_fI, q_fR, q_aI, q_aR, q_aN, q_tn, q_cmp, q_cmz, q_cnt, q_ctt, q_cand, q_cor, q_vn, q_vI, q_vR, q_vL, q_kI, q_kR, q_kL, q_ckI, envN, argE, List.flatMap_cons, List.flatMap_nil, Value.category, junk, oadd, osub, omul, oand, oor, oxor, odiv, orem, oshl, oshr, oushr, omax, omin]; simp (disch := first | omega | simp) [rk_i, rk_b, rk_o, st1, kill, Value.category, rcv, nog, inI_b, nI_clamp, nI_ltI, nI_leI, nI_eq, nI_9, nI_6, nI_22, nI_12, nI_180, nI_add, nI_1, hn, ly166, ly183, p19, hp, hp2]) ?_
    rintro v h1 ⟨rfl, rfl⟩
    rw [q_icst, hb p c]
    exact Or.inr ⟨rfl, rfl, rfl, rfl⟩
  · rw [if_neg c]
    have c2 : e ≤ p := by omega
    refine ev_F (by simp only [f_mkF, w_sI, w_sR, w_sL, w_sC, w_sk, w_sbr, w_sco, w_rV, w_rI, w_rR, w_rL, w_dI, w_sO, w_sq, w_si, w_pI, w_pZ, w_pR, w_pU, w_qI, w_qB, w_qZ, w_qU, w_qR, w_kV, q_icst, q_lcst, q_xR, q_ldI, q_ldR, q_ldL, q_bn, q_un, q_dv, q_fI, q_fR, q_aI, q_aR, q_aN, q_tn, q_cmp, q_cmz, q_cnt, q_ctt, q_cand, q_cor, q_vn, q_vI, q_vR, q_vL, q_kI, q_kR, q_kL, q_ckI, envN, argE, List.flatMap_cons, List.flatMap_nil, Value.category, junk, oadd, osub, omul, oand, oor, oxor, odiv, orem, oshl, oshr, oushr, omax, omin]; simp (disch := first | omega | simp) [rk_i, rk_b, rk_o, st1, kill, Value.category, rcv, nog, inI_b, nI_clamp, nI_ltI, nI_leI, nI_eq, nI_9, nI_6, nI_22, nI_12, nI_180, nI_add, nI_1, hn, ly166, hp, he, c, c2]) ⟨(fun z => by cases z), fun _ => ?_⟩
    rw [q_icst]
    exact Or.inr ⟨rfl, rfl, rfl, rfl⟩
theorem m_isD {s : Nat → Nat} {e : Nat} {h : Hp} (q : MR s e h) {p : Nat} (hp : h.2.1 166 21 = nI p) (hpe : p ≤ e) : F_X11_isDigit [.ref 166] h = some (some (.int (b2 (isD (s p) = true))), h) := by
  have e1 := m_here q hp hpe
  obtain ⟨hn, hm, he, h160, hb, hs, hz⟩ := q
  rw [← fq_eq]
  unfold F_X11_isDigit
  refine f_mkE [.ref 166] rfl (by simp [argE, Value.category]) ?_
  have e3 : isD (s p) = true ↔ 48 ≤ s p ∧ s p ≤ 57 := by simp [isD]
  have d1 : hvM s e p < 48 ↔ ¬ 48 ≤ s p := by
    unfold hvM
    by_cases c : p < e
    · rw [if_pos c]
      have := nI_ltI (a := s p) (b := 48) (by have := hs p; omega) (by omega)
      rw [show (48 : Int32) = nI 48 from rfl, this]; omega
    · rw [if_neg c, hz p (by omega)]; decide
  have d2 : 48 ≤ s p → (57 < hvM s e p ↔ ¬ s p ≤ 57) := by
    intro z
    unfold hvM
    have c : p < e := lt_e hz (by omega)
    rw [if_pos c]
    have := nI_ltI (a := 57) (b := s p) (by omega) (by have := hs p; omega)
    rw [show (57 : Int32) = nI 57 from rfl, this]; omega
  generalize hvM s e p = v at *
  by_cases c1 : 48 ≤ s p
  · have d1' : ¬ v < 48 := fun z => (d1.mp z) c1
    have d1'' : 48 ≤ v := Int32.not_lt.mp d1'
    by_cases c2 : s p ≤ 57
    · have d2' : ¬ 57 < v := fun z => ((d2 c1).mp z) c2
      have d2'' : v ≤ 57 := Int32.not_lt.mp d2'
      have b1 : b2 (isD (s p) = true) = 1 := b2_1.mpr (e3.mpr ⟨c1, c2⟩)
      rw [b1]
      simp only [f_mkF, w_sI, w_sR, w_sL, w_sC, w_sk, w_sbr, w_sco, w_rV, w_rI, w_rR, w_rL, w_dI, w_sO, w_sq, w_si, w_pI, w_pZ, w_pR, w_pU, w_qI, w_qB, w_qZ, w_qU, w_qR, w_kV, q_icst, q_lcst, q_xR, q_ldI, q_ldR, q_ldL, q_bn, q_un, q_dv, q_fI, q_fR, q_aI, q_aR, q_aN, q_tn, q_cmp, q_cmz, q_cnt, q_ctt, q_cand, q_cor, q_vn, q_vI, q_vR, q_vL, q_kI, q_kR, q_kL, q_ckI, envN, argE, List.flatMap_cons, List.flatMap_nil, Value.category, junk, oadd, osub, omul, oand, oor, oxor, odiv, orem, oshl, oshr, oushr, omax, omin]
      simp (disch := first | omega | simp) [rk_i, rk_b, rk_o, st1, kill, Value.category, rcv, nog, hn, ly166, fq_of e1, d1', d1'', d2', d2'']
    · have d2' : 57 < v := (d2 c1).mpr c2
      have b1 : b2 (isD (s p) = true) = 0 := b2_0.mpr (fun z => c2 (e3.mp z).2)
      rw [b1]
      simp only [f_mkF, w_sI, w_sR, w_sL, w_sC, w_sk, w_sbr, w_sco, w_rV, w_rI, w_rR, w_rL, w_dI, w_sO, w_sq, w_si, w_pI, w_pZ, w_pR, w_pU, w_qI, w_qB, w_qZ, w_qU, w_qR, w_kV, q_icst, q_lcst, q_xR, q_ldI, q_ldR, q_ldL, q_bn, q_un, q_dv, q_fI, q_fR, q_aI, q_aR, q_aN, q_tn, q_cmp, q_cmz, q_cnt, q_ctt, q_cand, q_cor, q_vn, q_vI, q_vR, q_vL, q_kI, q_kR, q_kL, q_ckI, envN, argE, List.flatMap_cons, List.flatMap_nil, Value.category, junk, oadd, osub, omul, oand, oor, oxor, odiv, orem, oshl, oshr, oushr, omax, omin]
      simp (disch := first | omega | simp) [rk_i, rk_b, rk_o, st1, kill, Value.category, rcv, nog, hn, ly166, fq_of e1, d1', d1'', d2', Int32.not_le.mpr d2']
  · have d1' : v < 48 := d1.mpr c1
    have b1 : b2 (isD (s p) = true) = 0 := b2_0.mpr (fun z => c1 (e3.mp z).1)
    rw [b1]
    simp only [f_mkF, w_sI, w_sR, w_sL, w_sC, w_sk, w_sbr, w_sco, w_rV, w_rI, w_rR, w_rL, w_dI, w_sO, w_sq, w_si, w_pI, w_pZ, w_pR, w_pU, w_qI, w_qB, w_qZ, w_qU, w_qR, w_kV, q_icst, q_lcst, q_xR, q_ldI, q_ldR, q_ldL, q_bn, q_un, q_dv, q_fI, q_fR, q_aI, q_aR, q_aN, q_tn, q_cmp, q_cmz, q_cnt, q_ctt, q_cand, q_cor, q_vn, q_vI, q_vR, q_vL, q_kI, q_kR, q_kL, q_ckI, envN, argE, List.flatMap_cons, List.flatMap_nil, Value.category, junk, oadd, osub, omul, oand, oor, oxor, odiv, orem, oshl, oshr, oushr, omax, omin]
    simp (disch := first | omega | simp) [rk_i, rk_b, rk_o, st1, kill, Value.category, rcv, nog, hn, ly166, fq_of e1, d1', Int32.not_le.mpr d1']
theorem m_wrong {h : Hp} (hn : h.1 = 212) (w p : Nat) : F_X11_wrong [.ref 166, .int (nI w), .int (nI p)] h = some (some (.int 0), wI h 166 23 (-(nI (1000 * w + p)))) := by
  rw [← flt_e, ← fq_eq]
  unfold F_X11_wrong
  refine f_mkE [.ref 166, .int (nI w), .int (nI p)] rfl (by simp [argE, Value.category]) ?_
  simp only [f_mkF, w_sI, w_sR, w_sL, w_sC, w_sk, w_sbr, w_sco, w_rV, w_rI, w_rR, w_rL, w_dI, w_sO, w_sq, w_si, w_pI, w_pZ, w_pR, w_pU, w_qI, w_qB, w_qZ, w_qU, w_qR, w_kV, q_icst, q_lcst, q_xR, q_ldI, q_ldR, q_ldL, q_bn, q_un, q_dv, q_fI, q_fR, q_aI, q_aR, q_aN, q_tn, q_cmp, q_cmz, q_cnt, q_ctt, q_cand, q_cor, q_vn, q_vI, q_vR, q_vL, q_kI, q_kR, q_kL, q_ckI, envN, argE, List.flatMap_cons, List.flatMap_nil, Value.category, junk, oadd, osub, omul, oand, oor, oxor, odiv, orem, oshl, oshr, oushr, omax, omin]
  simp (disch := first | omega | simp) [rk_i, rk_b, rk_o, st1, kill, Value.category, rcv, nog, hn, ly166]
/-- the stack and the codes -/
abbrev Pr2 : Type := Nat × Nat
def enc2 (x : Pr2) : Nat := 1048576 * x.1 + x.2
def ARr (f : Nat → Int32) (l : List Pr2) : Prop := ∀ i x, l[i]? = some x → f i = nI (enc2 x)
def inr (l : List Pr2) : Prop := ∀ x, x ∈ l → x.1 ≤ 14 ∧ x.2 < 1048576
def MS (h : Hp) (p o : Nat) (st L : List Pr2) : Prop := h.2.1 166 21 = nI p ∧ h.2.1 166 24 = nI o ∧ h.2.1 166 26 = nI st.length ∧ h.2.1 166 25 = nI L.length ∧ ARr (h.2.1 185) st ∧ ARr (h.2.1 184) L ∧ inr st ∧ inr L
theorem ARr.app {f f' : Nat → Int32} {l : List Pr2} {x : Pr2} (a : ARr f l) (h1 : ∀ i, i < l.length → f' i = f i) (h2 : f' l.length = nI (enc2 x)) : ARr f' (l ++ [x]) := by
  intro i y e
  by_cases z : i < l.length
  · rw [List.getElem?_append_left z] at e
    rw [h1 i z]; exact a i y e
  · rw [List.getElem?_append_right (by omega)] at e
    have z0 : i - l.length = 0 := by
      refine Classical.byContradiction fun z2 => ?_
      rw [List.getElem?_eq_none (by simp; omega)] at e
      cases e
    rw [z0] at e
    simp at e
    subst e
    rw [show i = l.length from by omega]; exact h2
theorem ARr.pre {f f' : Nat → Int32} {l m : List Pr2} (a : ARr f (l ++ m)) (h1 : ∀ i, i < l.length → f' i = f i) : ARr f' l := by
  intro i y e
  have hi : i < l.length := by
    by_cases z : i < l.length
    · exact z
    · rw [List.getElem?_eq_none (by omega)] at e; cases e
  rw [h1 i hi]
  exact a i y (by rw [List.getElem?_append_left hi]; exact e)
theorem ARr.c {f f' : Nat → Int32} {l : List Pr2} (a : ARr f l) (h1 : ∀ i, i < l.length → f' i = f i) : ARr f' l := ARr.pre (m := []) (by rw [List.append_nil]; exact a) h1
theorem inr.app {l m : List Pr2} (a : inr l) (b : inr m) : inr (l ++ m) := fun x hx => (List.mem_append.mp hx).elim (a x) (b x)
theorem inr.one {x : Pr2} (h : x.1 ≤ 14 ∧ x.2 < 1048576) : inr [x] := fun y hy => by simp at hy; subst hy; exact h
theorem inr.pre {l m : List Pr2} (a : inr (l ++ m)) : inr l := fun x hx => a x (by simp [hx])
theorem inr.suf {l m : List Pr2} (a : inr (l ++ m)) : inr m := fun x hx => a x (by simp [hx])
theorem enc_d {x : Pr2} (h : x.1 ≤ 14 ∧ x.2 < 1048576) : nI (enc2 x) / 1048576 = nI x.1 := by
  show nI (enc2 x) / nI 1048576 = _
  unfold enc2
  rw [nI_div (by omega) (by omega)]
  congr 1
  omega
theorem enc_r {x : Pr2} (h : x.1 ≤ 14 ∧ x.2 < 1048576) : orem (nI (enc2 x)) 1048576 = nI x.2 := by
  show orem (nI (enc2 x)) (nI 1048576) = _
  unfold enc2
  rw [nI_rem (by omega) (by omega)]
  congr 1
  omega
theorem m_says {h : Hp} (hn : h.1 = 212) (hm : PM h.2.2) {p o : Nat} {st L : List Pr2} (m : MS h p o st L) {op v : Nat} (ho : op ≤ 14) (hv : v < 1048576) (hl : L.length < 180) : fq F_X11_says [.ref 166, .int (nI op), .int (nI v)] h fun r h' => r = none ∧ Fr SMr h h' ∧ MS h' p o st (L ++ [(op, v)]) := by
  obtain ⟨m1, m2, m3, m4, m5, m6, m7, m8⟩ := m
  have p29 : h.2.2 166 29 = some 184 := hm 29
  have ev : 1048576 * nI op + nI v = nI (enc2 (op, v)) := by
    rw [show (1048576 : Int32) = nI 1048576 from rfl, nI_mul, nI_add]; rfl
  unfold F_X11_says
  refine f_mkE [.ref 166, .int (nI op), .int (nI v)] rfl (by simp [argE, Value.category]) ?_
  simp only [f_mkF, w_sI, w_sR, w_sL, w_sC, w_sk, w_sbr, w_sco, w_rV, w_rI, w_rR, w_rL, w_dI, w_sO, w_sq, w_si, w_pI, w_pZ, w_pR, w_pU, w_qI, w_qB, w_qZ, w_qU, w_qR, w_kV, q_icst, q_lcst, q_xR, q_ldI, q_ldR, q_ldL, q_bn, q_un, q_dv, q_fI, q_fR, q_aI, q_aR, q_aN, q_tn, q_cmp, q_cmz, q_cnt, q_ctt, q_cand, q_cor, q_vn, q_vI, q_vR, q_vL, q_kI, q_kR, q_kL, q_ckI, envN, argE, List.flatMap_cons, List.flatMap_nil, Value.category, junk, oadd, osub, omul, oand, oor, oxor, odiv, orem, oshl, oshr, oushr, omax, omin]
  simp (disch := first | omega | simp) [rk_i, rk_b, rk_o, st1, kill, Value.category, rcv, nog, wI_1, wI_r, inI_b, nI_clamp, nI_ltI, nI_leI, nI_eq, nI_9, nI_6, nI_22, nI_12, nI_180, nI_add, nI_1, hn, ly166, ly184, p29, m4, hl, ev, wI_i]
  refine ⟨((Fr.refl h).w (by unfold SMr; omega)).w (by unfold SMr; omega), ?_, ?_, ?_, ?_, ?_, ?_, m7, m8.app (inr.one ⟨ho, hv⟩)⟩
  · rw [wI_i, if_neg (by omega), wI_i, if_neg (by omega)]; exact m1
  · rw [wI_i, if_neg (by omega), wI_i, if_neg (by omega)]; exact m2
  · rw [wI_i, if_neg (by omega), wI_i, if_neg (by omega)]; exact m3
  · rw [wI_i, if_pos ⟨rfl, rfl⟩, List.length_append]; rfl
  · exact m5.c fun i _ => by rw [wI_i, if_neg (by omega), wI_i, if_neg (by omega)]
  · refine m6.app (fun i hi => ?_) ?_
    · rw [wI_i, if_neg (by omega), wI_i, if_neg (by omega)]
    · rw [wI_i, if_neg (by omega), wI_i, if_pos ⟨rfl, rfl⟩]
/-- the top of the stack -/
def tpM (st : List Pr2) : Int32 := match st.getLast? with
  | none => -1
  | some x => nI x.1
theorem m_top {h : Hp} (hn : h.1 = 212) (hm : PM h.2.2) {p o : Nat} {st L : List Pr2} (m : MS h p o st L) (hl : st.length < 180) : F_X11_top [.ref 166] h = some (some (.int (tpM st)), h) := by
  obtain ⟨m1, m2, m3, m4, m5, m6, m7, m8⟩ := m
  have p30 : h.2.2 166 30 = some 185 := hm 30
  rw [← fq_eq]
  unfold F_X11_top tpM
  refine f_mkE [.ref 166] rfl (by simp [argE, Value.category]) ?_
  cases hst : st.getLast? with
  | none =>
    have : st = [] := List.getLast?_eq_none_iff.mp hst
    subst this
    have m3' : h.2.1 166 26 = 0 := m3
    simp only [f_mkF, w_sI, w_sR, w_sL, w_sC, w_sk, w_sbr, w_sco, w_rV, w_rI, w_rR, w_rL, w_dI, w_sO, w_sq, w_si, w_pI, w_pZ, w_pR, w_pU, w_qI, w_qB, w_qZ, w_qU, w_qR, w_kV, q_icst, q_lcst, q_xR, q_ldI, q_ldR, q_ldL, q_bn, q_un, q_dv, q_fI, q_fR, q_aI, q_aR, q_aN, q_tn, q_cmp, q_cmz, q_cnt, q_ctt, q_cand, q_cor, q_vn, q_vI, q_vR, q_vL, q_kI, q_kR, q_kL, q_ckI, envN, argE, List.flatMap_cons, List.flatMap_nil, Value.category, junk, oadd, osub, omul, oand, oor, oxor, odiv, orem, oshl, oshr, oushr, omax, omin]
    simp (disch := first | omega | simp) [rk_i, rk_b, rk_o, st1, kill, Value.category, rcv, nog, hn, ly166, m3']
  | some x =>
    obtain ⟨l, rfl⟩ := List.getLast?_eq_some_iff.mp hst
    have hl2 : (l ++ [x]).length = l.length + 1 := by simp
    rw [hl2] at m3 hl
    have v1 : h.2.1 185 l.length = nI (enc2 x) := m5 l.length x (by simp)
    have v2 := enc_d (m7 x (by simp))
    have z0 : ¬ nI (l.length + 1) = 0 := fun z => by have := (nI_eq (a := l.length + 1) (b := 0) (by omega) (by omega)).mp z; omega
    have z1 : nI (l.length + 1) - 1 = nI l.length := nI_pred _
    have l180 : l.length < 180 := by omega
    simp only [f_mkF, w_sI, w_sR, w_sL, w_sC, w_sk, w_sbr, w_sco, w_rV, w_rI, w_rR, w_rL, w_dI, w_sO, w_sq, w_si, w_pI, w_pZ, w_pR, w_pU, w_qI, w_qB, w_qZ, w_qU, w_qR, w_kV, q_icst, q_lcst, q_xR, q_ldI, q_ldR, q_ldL, q_bn, q_un, q_dv, q_fI, q_fR, q_aI, q_aR, q_aN, q_tn, q_cmp, q_cmz, q_cnt, q_ctt, q_cand, q_cor, q_vn, q_vI, q_vR, q_vL, q_kI, q_kR, q_kL, q_ckI, envN, argE, List.flatMap_cons, List.flatMap_nil, Value.category, junk, oadd, osub, omul, oand, oor, oxor, odiv, orem, oshl, oshr, oushr, omax, omin]
    simp (disch := first | omega | simp) [rk_i, rk_b, rk_o, st1, kill, Value.category, rcv, nog, inI_b, nI_clamp, hn, ly166, ly185, m3, z0, z1, p30, v1, v2, l180]
