/-! the class's reader: a clause -/
def SD (la K c : Nat) (a k : Nat) : Prop := SCl la K a k ∨ (a = la ∧ k = 5) ∨ ((a = la + 3 ∨ a = la + 4) ∧ c ≤ k)
theorem RX.d {s : Nat → Nat} {e la K c : Nat} {h h' : Hp} (q : RX s e la h) (f : Fr (SD la K c) h h') : RX s e la h' := by
  obtain ⟨hn, ⟨p1, p2, p3⟩, p4, ⟨e1, e2⟩, hb, hs, hz⟩ := q
  obtain ⟨f1, f2, f3⟩ := f
  have hy := law_y p3
  refine ⟨f1.trans hn, by rw [f2]; exact ⟨p1, p2, p3⟩, by rw [f2]; exact p4, ⟨?_, e2⟩, fun p hp => ?_, hs, hz⟩
  · rw [f3 _ _ (by unfold SD SCl; omega)]; exact e1
  · rw [f3 _ _ (by unfold SD SCl; omega)]; exact hb p hp
theorem Fr.sd {la K c : Nat} {h h' : Hp} (f : Fr (SCl la K) h h') : Fr (SD la K c) h h' := f.sub fun _ _ z => Or.inl z
theorem x_begin {s : Nat → Nat} {e la : Nat} {h : Hp} (q : RX s e la h) {K c : Nat} (hK : h.2.1 la 4 = nI K) (hc : h.2.1 la 5 = nI c) (hc12 : c < 12) (v : Int32) : F_X3_begin [.ref la, .int v] h = some (none, wI (wI (wI h (la + 3) c v) (la + 4) c (nI K)) la 5 (nI (c + 1))) := by
  obtain ⟨hn, ⟨p1, p2, p3⟩, ⟨r0, r1, r2, r3⟩, -⟩ := q
  obtain ⟨y0, y1, y2, y3, y4, yb, -⟩ := law_y p3
  have k12 : (12 : Int32) = nI 12 := rfl
  have a1 : la < 212 := by omega
  have a2 : la + 3 < 212 := by omega
  have a3 : la + 4 < 212 := by omega
  rw [← fq_eq]
  unfold F_X3_begin
  refine f_mkE [.ref la, .int v] rfl (by simp [argE, Value.category]) ?_
  refine w_sqS (fun E1 h1 => h1 = wI (wI (wI h (la + 3) c v) (la + 4) c (nI K)) la 5 (nI (c + 1))) ?_ (fun E1 h1 z => by rw [w_rV]; exact Or.inl ⟨rfl, rfl, rfl, z⟩)
  refine (w_siT (by simp only [f_mkF, w_sI, w_sR, w_sL, w_sC, w_sk, w_sbr, w_sco, w_rV, w_rI, w_rR, w_rL, w_dI, w_sO, w_sq, w_si, w_pI, w_pZ, w_pR, w_pU, w_qI, w_qB, w_qZ, w_qU, w_qR, w_kV, q_icst, q_lcst, q_xR, q_ldI, q_ldR, q_ldL, q_bn, q_un, q_dv, q_fI, q_fR, q_aI, q_aR, q_aN, q_tn, q_cmp, q_cmz, q_cnt, q_ctt, q_cand, q_cor, q_vn, q_vI, q_vR, q_vL, q_kI, q_kR, q_kL, q_ckI, envN, argE, List.flatMap_cons, List.flatMap_nil, Value.category, junk, oadd, osub, omul, oand, oor, oxor, odiv, orem, oshl, oshr, oushr, omax, omin]; simp (disch := first | omega | simp) [rk_i, rk_b, rk_o, st1, kill, Value.category, rcv, nog, inI_b, nI_clamp, nI_ltI, nI_leI, nI_eq, nI_9, nI_6, nI_22, nI_12, nI_180, nI_add, nI_1, hn, y0, a1, hc, k12, hc12])).mpr ?_
  simp only [f_mkF, w_sI, w_sR, w_sL, w_sC, w_sk, w_sbr, w_sco, w_rV, w_rI, w_rR, w_rL, w_dI, w_sO, w_sq, w_si, w_pI, w_pZ, w_pR, w_pU, w_qI, w_qB, w_qZ, w_qU, w_qR, w_kV, q_icst, q_lcst, q_xR, q_ldI, q_ldR, q_ldL, q_bn, q_un, q_dv, q_fI, q_fR, q_aI, q_aR, q_aN, q_tn, q_cmp, q_cmz, q_cnt, q_ctt, q_cand, q_cor, q_vn, q_vI, q_vR, q_vL, q_kI, q_kR, q_kL, q_ckI, envN, argE, List.flatMap_cons, List.flatMap_nil, Value.category, junk, oadd, osub, omul, oand, oor, oxor, odiv, orem, oshl, oshr, oushr, omax, omin]
  simp (disch := first | omega | simp) [rk_i, rk_b, rk_o, st1, kill, Value.category, rcv, nog, wI_1, wI_r, nI_1, inI_b, nI_clamp, nI_ltI, nI_leI, nI_eq, nI_9, nI_6, nI_22, nI_12, nI_180, nI_add, nI_1, hn, y0, y3, y4, a1, a2, a3, r2, r3, hK, hc, hc12, wI_i]
def clsP (s : Nat → Nat) (c p k : Nat) : Except Nat (Nat × Nat × List Cd) :=
  if (txT 0).idxOf (s p) < 8 then (if c < 12 then (match expP s 41 (if s (p + 1) = 40 then cndP s (pceP s 5) (p + 2) k else .error (1000 + (p + 1))) with
    | .error f => .error f
    | .ok (p', C) => .ok (p', (txT 0).idxOf (s p), C)) else .error (4000 + p)) else .error (1000 + p)
def OK2 (e la c : Nat) (h : Hp) (K : Nat) (R : Except Nat (Nat × Nat × List Cd)) (h' : Hp) : Prop := Fr (SD la K c) h h' ∧ match R with
  | .error f => h'.2.1 146 3 = -(nI f) ∧ h'.2.1 146 3 ≠ 0 ∧ ∃ p', p' ≤ e ∧ h'.2.1 146 2 = nI p'
  | .ok (p', lt, C) => h'.2.1 146 2 = nI p' ∧ h'.2.1 146 3 = 0 ∧ h'.2.1 la 4 = nI (K + C.length + 1) ∧ h'.2.1 la 5 = nI (c + 1) ∧ h'.2.1 (la + 3) c = nI lt ∧ h'.2.1 (la + 4) c = nI K ∧ CC h' la K c C ∧ h'.2.1 (la + 1) (K + C.length) = 5
theorem expP_b {s : Nat → Nat} {e p k : Nat} (hz : ∀ p, e ≤ p → s p = 0) {p' : Nat} {C : List Cd} (h : expP s 41 (if s (p + 1) = 40 then cndP s (pceP s 5) (p + 2) k else .error (1000 + (p + 1))) = .ok (p', C)) : p + 3 < p' ∧ p' ≤ e ∧ C.length + p + 3 ≤ p' := by
  unfold expP at h
  by_cases c1 : s (p + 1) = 40
  · rw [if_pos c1] at h
    cases hR : cndP s (pceP s 5) (p + 2) k with
    | error f => rw [hR] at h; cases h
    | ok x =>
      obtain ⟨p1, C1⟩ := x
      rw [hR] at h
      simp only at h
      by_cases c2 : s p1 = 41
      · rw [if_pos c2] at h
        cases h
        have := GO_cnd hz 5 _ _ _ _ hR
        have := lt_e (p := p1) hz (by omega)
        omega
      · rw [if_neg c2] at h; cases h
  · rw [if_neg c1] at h
    cases h
theorem clsP_b {s : Nat → Nat} {e c p k : Nat} (hz : ∀ p, e ≤ p → s p = 0) {p' lt : Nat} {C : List Cd} (h : clsP s c p k = .ok (p', lt, C)) : p + 3 < p' ∧ p' ≤ e ∧ C.length + p + 3 ≤ p' ∧ lt < 8 ∧ c < 12 ∧ expP s 41 (if s (p + 1) = 40 then cndP s (pceP s 5) (p + 2) k else .error (1000 + (p + 1))) = .ok (p', C) := by
  unfold clsP at h
  by_cases c1 : (txT 0).idxOf (s p) < 8
  · rw [if_pos c1] at h
    by_cases c2 : c < 12
    · rw [if_pos c2] at h
      cases hR : expP s 41 (if s (p + 1) = 40 then cndP s (pceP s 5) (p + 2) k else .error (1000 + (p + 1))) with
      | error f => rw [hR] at h; cases h
      | ok x =>
        obtain ⟨p1, C1⟩ := x
        rw [hR] at h
        cases h
        have := expP_b hz hR
        exact ⟨by omega, by omega, by omega, c1, c2, rfl⟩
    · rw [if_neg c2] at h; cases h
  · rw [if_neg c1] at h; cases h
theorem x_clause {s : Nat → Nat} {e la : Nat} {h : Hp} (q : RX s e la h) {p k c : Nat} (hp : h.2.1 146 2 = nI p) (hpe : p ≤ e) (hf : h.2.1 146 3 = 0) (hK : h.2.1 la 4 = nI (k + c)) (hk : k + c ≤ p) (hc : h.2.1 la 5 = nI c) (hc12 : c ≤ 12) : fq F_X4_clause [.ref 146] h fun r h' => r = none ∧ OK2 e la c h (k + c) (clsP s c p k) h' := by
  have hn := q.1
  have hA := q.2.1.2.2
  have r4 := q.2.1.2.1
  have hy := law_y hA
  have yl := hy.1
  have yl2 : la < 212 := by omega
  have he := q.2.2.2.1.2
  have hs := q.2.2.2.2.2.1
  have hz := q.2.2.2.2.2.2
  have e1 := x_sign q hp hpe
  have e3 := x_idx (t := 0) (by omega) (hs p) h
  have lt_n : (txT 0).length = 8 := rfl
  have k12 : (12 : Int32) = nI 12 := rfl
  generalize hV : clsP s c p k = V
  unfold clsP at hV
  unfold F_X4_clause
  refine f_mkE [.ref 146, junk] rfl (by simp [argE, Value.category]) ?_
  refine w_sqI (E' := [.ref 146, .int (ixT 0 (s p))]) (ixT 0 (s p)) (by simp only [f_mkF, w_sI, w_sR, w_sL, w_sC, w_sk, w_sbr, w_sco, w_rV, w_rI, w_rR, w_rL, w_dI, w_sO, w_sq, w_si, w_pI, w_pZ, w_pR, w_pU, w_qI, w_qB, w_qZ, w_qU, w_qR, w_kV, q_icst, q_lcst, q_xR, q_ldI, q_ldR, q_ldL, q_bn, q_un, q_dv, q_fI, q_fR, q_aI, q_aR, q_aN, q_tn, q_cmp, q_cmz, q_cnt, q_ctt, q_cand, q_cor, q_vn, q_vI, q_vR, q_vL, q_kI, q_kR, q_kL, q_ckI, envN, argE, List.flatMap_cons, List.flatMap_nil, Value.category, junk, oadd, osub, omul, oand, oor, oxor, odiv, orem, oshl, oshr, oushr, omax, omin]; simp (disch := first | omega | simp) [rk_i, rk_b, rk_o, st1, kill, Value.category, rcv, nog, hn, ly146, fq_of e1, rcx, fq_of e3]) rfl ?_
  refine w_sqS (fun _ h1 => OK2 e la c h (k + c) V h1) ?_ (fun E1 h1 z => by rw [w_rV]; exact Or.inl ⟨rfl, rfl, rfl, z⟩)
  have fl : ∀ w, 0 < w → w < 10 → OK2 e la c h (k + c) (.error (1000 * w + p)) (wI h 146 3 (-1000 * nI w - nI p)) := by
    intro w w1 w2
    obtain ⟨t1, t2, t3, t4, -⟩ := OC_fail (c := c) hA (Fr.refl h) hp hpe he w1 w2 hK (Nat.le_refl _) (by omega)
    exact ⟨t1.sd, t2, t3, t4⟩
  by_cases c3 : (txT 0).idxOf (s p) < 8
  · rw [if_pos c3] at hV
    have hlt : p < e := lt_e (p := p) hz fun z => by rw [z] at c3; exact absurd c3 (by decide)
    have i1 : ixT 0 (s p) = nI ((txT 0).idxOf (s p)) := by unfold ixT; rw [lt_n, if_pos c3]
    have i2 : ¬ nI ((txT 0).idxOf (s p)) < 0 := Int32.not_lt.mpr (nI_0le (by omega))
    have i3 := nI_0le (a := (txT 0).idxOf (s p)) (by omega)
    generalize (txT 0).idxOf (s p) = lt at *
    rw [i1]
    refine (w_siF (by simp only [f_mkF, w_sI, w_sR, w_sL, w_sC, w_sk, w_sbr, w_sco, w_rV, w_rI, w_rR, w_rL, w_dI, w_sO, w_sq, w_si, w_pI, w_pZ, w_pR, w_pU, w_qI, w_qB, w_qZ, w_qU, w_qR, w_kV, q_icst, q_lcst, q_xR, q_ldI, q_ldR, q_ldL, q_bn, q_un, q_dv, q_fI, q_fR, q_aI, q_aR, q_aN, q_tn, q_cmp, q_cmz, q_cnt, q_ctt, q_cand, q_cor, q_vn, q_vI, q_vR, q_vL, q_kI, q_kR, q_kL, q_ckI, envN, argE, List.flatMap_cons, List.flatMap_nil, Value.category, junk, oadd, osub, omul, oand, oor, oxor, odiv, orem, oshl, oshr, oushr, omax, omin]; simp (disch := first | omega | simp) [rk_i, rk_b, rk_o, st1, kill, Value.category, rcv, nog, i2, i3])).mpr ?_
    by_cases c4 : c < 12
    · rw [if_pos c4] at hV
      refine (w_siF (by simp only [f_mkF, w_sI, w_sR, w_sL, w_sC, w_sk, w_sbr, w_sco, w_rV, w_rI, w_rR, w_rL, w_dI, w_sO, w_sq, w_si, w_pI, w_pZ, w_pR, w_pU, w_qI, w_qB, w_qZ, w_qU, w_qR, w_kV, q_icst, q_lcst, q_xR, q_ldI, q_ldR, q_ldL, q_bn, q_un, q_dv, q_fI, q_fR, q_aI, q_aR, q_aN, q_tn, q_cmp, q_cmz, q_cnt, q_ctt, q_cand, q_cor, q_vn, q_vI, q_vR, q_vL, q_kI, q_kR, q_kL, q_ckI, envN, argE, List.flatMap_cons, List.flatMap_nil, Value.category, junk, oadd, osub, omul, oand, oor, oxor, odiv, orem, oshl, oshr, oushr, omax, omin]; simp (disch := first | omega | simp) [rk_i, rk_b, rk_o, st1, kill, Value.category, rcv, nog, inI_b, nI_clamp, nI_ltI, nI_leI, nI_eq, nI_9, nI_6, nI_22, nI_12, nI_180, nI_add, nI_1, hn, ly146, r4, yl, yl2, hc, k12, c4])).mpr ?_
      refine (w_siT (by simp only [f_mkF, w_sI, w_sR, w_sL, w_sC, w_sk, w_sbr, w_sco, w_rV, w_rI, w_rR, w_rL, w_dI, w_sO, w_sq, w_si, w_pI, w_pZ, w_pR, w_pU, w_qI, w_qB, w_qZ, w_qU, w_qR, w_kV, q_icst, q_lcst, q_xR, q_ldI, q_ldR, q_ldL, q_bn, q_un, q_dv, q_fI, q_fR, q_aI, q_aR, q_aN, q_tn, q_cmp, q_cmz, q_cnt, q_ctt, q_cand, q_cor, q_vn, q_vI, q_vR, q_vL, q_kI, q_kR, q_kL, q_ckI, envN, argE, List.flatMap_cons, List.flatMap_nil, Value.category, junk, oadd, osub, omul, oand, oor, oxor, odiv, orem, oshl, oshr, oushr, omax, omin]; simp (disch := first | omega | simp) [rk_i, rk_b, rk_o, st1, kill, Value.category, rcv, nog, hn, ly146, hf])).mpr ?_
      have b1 := x_begin q hK hc c4 (nI lt)
      obtain ⟨h1, hh1⟩ : ∃ h1, h1 = wI (wI (wI h (la + 3) c (nI lt)) (la + 4) c (nI (k + c))) la 5 (nI (c + 1)) := ⟨_, rfl⟩
      rw [← hh1] at b1
      have fr1 : Fr (SD la (k + c) c) h h1 := by
        rw [hh1]
        exact (((Fr.refl h).w (by unfold SD; omega)).w (by unfold SD; omega)).w (by unfold SD; omega)
      have q1 := q.d fr1
      have hn1 := q1.1
      have v1 : h1.2.1 146 2 = nI p := by rw [hh1, wI_i, if_neg (by omega), wI_i, if_neg (by omega), wI_i, if_neg (by omega)]; exact hp
      have v2 : h1.2.1 146 3 = 0 := by rw [hh1, wI_i, if_neg (by omega), wI_i, if_neg (by omega), wI_i, if_neg (by omega)]; exact hf
      have v3 : h1.2.1 la 4 = nI (k + c) := by rw [hh1, wI_i, if_neg (by omega), wI_i, if_neg (by omega), wI_i, if_neg (by omega)]; exact hK
      have v4 : h1.2.1 la 5 = nI (c + 1) := by rw [hh1, wI_i, if_pos ⟨rfl, rfl⟩]
      have v5 : h1.2.1 (la + 3) c = nI lt := by rw [hh1, wI_i, if_neg (by omega), wI_i, if_neg (by omega), wI_i, if_pos ⟨rfl, rfl⟩]
      have v6 : h1.2.1 (la + 4) c = nI (k + c) := by rw [hh1, wI_i, if_neg (by omega), wI_i, if_pos ⟨rfl, rfl⟩]
      clear hh1
      refine w_sqS (fun E1 h2 => E1 = [.ref 146, .int (nI lt)] ∧ h2 = h1) (by simp only [f_mkF, w_sI, w_sR, w_sL, w_sC, w_sk, w_sbr, w_sco, w_rV, w_rI, w_rR, w_rL, w_dI, w_sO, w_sq, w_si, w_pI, w_pZ, w_pR, w_pU, w_qI, w_qB, w_qZ, w_qU, w_qR, w_kV, q_icst, q_lcst, q_xR, q_ldI, q_ldR, q_ldL, q_bn, q_un, q_dv, q_fI, q_fR, q_aI, q_aR, q_aN, q_tn, q_cmp, q_cmz, q_cnt, q_ctt, q_cand, q_cor, q_vn, q_vI, q_vR, q_vL, q_kI, q_kR, q_kL, q_ckI, envN, argE, List.flatMap_cons, List.flatMap_nil, Value.category, junk, oadd, osub, omul, oand, oor, oxor, odiv, orem, oshl, oshr, oushr, omax, omin]; simp (disch := first | omega | simp) [rk_i, rk_b, rk_o, st1, kill, Value.category, rcv, nog, hn, ly146, r4, yl, yl2, fq_of b1]) ?_
      rintro E1 h2 ⟨rfl, rfl⟩
      refine w_sqS (fun E1 h3 => E1 = [.ref 146, .int (nI lt)] ∧ h3 = wI h2 146 2 (nI (p + 1))) (by simp only [f_mkF, w_sI, w_sR, w_sL, w_sC, w_sk, w_sbr, w_sco, w_rV, w_rI, w_rR, w_rL, w_dI, w_sO, w_sq, w_si, w_pI, w_pZ, w_pR, w_pU, w_qI, w_qB, w_qZ, w_qU, w_qR, w_kV, q_icst, q_lcst, q_xR, q_ldI, q_ldR, q_ldL, q_bn, q_un, q_dv, q_fI, q_fR, q_aI, q_aR, q_aN, q_tn, q_cmp, q_cmz, q_cnt, q_ctt, q_cand, q_cor, q_vn, q_vI, q_vR, q_vL, q_kI, q_kR, q_kL, q_ckI, envN, argE, List.flatMap_cons, List.flatMap_nil, Value.category, junk, oadd, osub, omul, oand, oor, oxor, odiv, orem, oshl, oshr, oushr, omax, omin]; simp (disch := first | omega | simp) [rk_i, rk_b, rk_o, st1, kill, Value.category, rcv, nog, hn1, ly146, v1, nI_1]) ?_
      rintro E1 h3 ⟨rfl, rfl⟩
      have f2 : Fr (SCl la (k + c)) h2 (wI h2 146 2 (nI (p + 1))) := (Fr.refl h2).w (by unfold SCl; omega)
      have q2 := q1.c f2
      have hn2 := q2.1
      have m2 : (wI h2 146 2 (nI (p + 1))).2.1 146 2 = nI (p + 1) := by rw [wI_i, if_pos ⟨rfl, rfl⟩]
      have m3 : (wI h2 146 2 (nI (p + 1))).2.1 146 3 = 0 := by rw [wI_i, if_neg (by omega)]; exact v2
      have m4 : (wI h2 146 2 (nI (p + 1))).2.1 la 4 = nI (k + c) := by rw [wI_i, if_neg (by omega)]; exact v3
      generalize wI h2 146 2 (nI (p + 1)) = h3 at *
      have e40 := x_expect q2 m2 (c := 40) (by omega) (by omega)
      rw [if_pos m3] at e40
      have o0 : ∃ h4, F_X4_expect [.ref 146, .int (nI 40)] h3 = some (none, h4) ∧ OC e la c h3 (k + c) (if s (p + 1) = 40 then .ok (p + 2, []) else .error (1000 + (p + 1))) h4 := by
        by_cases c5 : s (p + 1) = 40
        · have := lt_e (p := p + 1) hz (by omega)
          rw [if_pos c5] at e40
          refine ⟨_, e40, ?_⟩
          rw [if_pos c5]
          refine ⟨(Fr.refl h3).w (by unfold SCl; omega), ?_, ?_, ?_, CC.nil⟩
          · rw [wI_i, if_pos ⟨rfl, rfl⟩]
          · rw [wI_i, if_neg (by omega)]; exact m3
          · rw [wI_i, if_neg (by omega)]; exact m4
        · rw [if_neg c5] at e40
          refine ⟨_, e40, ?_⟩
          rw [if_neg c5]
          exact OC_fail hA (Fr.refl h3) m2 (by omega) he (w := 1) (by omega) (by omega) m4 (Nat.le_refl _) (by omega)
      obtain ⟨h4, e4, o4⟩ := o0
      refine w_sqS (fun E1 h5 => E1 = [.ref 146, .int (nI lt)] ∧ h5 = h4) (w_kVe [.ref 146, .int (nI 40)] (by simp only [f_mkF, w_sI, w_sR, w_sL, w_sC, w_sk, w_sbr, w_sco, w_rV, w_rI, w_rR, w_rL, w_dI, w_sO, w_sq, w_si, w_pI, w_pZ, w_pR, w_pU, w_qI, w_qB, w_qZ, w_qU, w_qR, w_kV, q_icst, q_lcst, q_xR, q_ldI, q_ldR, q_ldL, q_bn, q_un, q_dv, q_fI, q_fR, q_aI, q_aR, q_aN, q_tn, q_cmp, q_cmz, q_cnt, q_ctt, q_cand, q_cor, q_vn, q_vI, q_vR, q_vL, q_kI, q_kR, q_kL, q_ckI, envN, argE, List.flatMap_cons, List.flatMap_nil, Value.category, junk, oadd, osub, omul, oand, oor, oxor, odiv, orem, oshl, oshr, oushr, omax, omin]; simp; rfl) (by simp [rcv, hn2, ly146]) ((fq_of e4).mpr ⟨rfl, rfl, rfl, rfl⟩)) ?_
      rintro E1 h5 ⟨rfl, rfl⟩
      have q5 := q2.c o4.1
      have hn5 := q5.1
      refine w_sqS (fun E1 h6 => E1 = [.ref 146, .int (nI lt)] ∧ OC e la c h3 (k + c) (if s (p + 1) = 40 then cndP s (pceP s 5) (p + 2) k else .error (1000 + (p + 1))) h6) ?_ ?_
      · by_cases c5 : s (p + 1) = 40
        · have := lt_e (p := p + 1) hz (by omega)
          rw [if_pos c5] at o4
          obtain ⟨t1, t2, t3, t4, -⟩ := o4
          refine w_kVe [.ref 146, .int (nI 1)] (by simp only [f_mkF, w_sI, w_sR, w_sL, w_sC, w_sk, w_sbr, w_sco, w_rV, w_rI, w_rR, w_rL, w_dI, w_sO, w_sq, w_si, w_pI, w_pZ, w_pR, w_pU, w_qI, w_qB, w_qZ, w_qU, w_qR, w_kV, q_icst, q_lcst, q_xR, q_ldI, q_ldR, q_ldL, q_bn, q_un, q_dv, q_fI, q_fR, q_aI, q_aR, q_aN, q_tn, q_cmp, q_cmz, q_cnt, q_ctt, q_cand, q_cor, q_vn, q_vI, q_vR, q_vL, q_kI, q_kR, q_kL, q_ckI, envN, argE, List.flatMap_cons, List.flatMap_nil, Value.category, junk, oadd, osub, omul, oand, oor, oxor, odiv, orem, oshl, oshr, oushr, omax, omin]; simp; rfl) (by simp [rcv, hn5, ly146]) (fq_mono (x_cnd hz h5 (p + 2) k q5 t2 (by omega) t3 t4 (by omega)) ?_)
          rintro r h6 ⟨rfl, z1, z2⟩
          rw [if_pos c5]
          exact ⟨rfl, rfl, rfl, t1.trans z1, z2⟩
        · rw [if_neg c5] at o4
          have o4' := o4
          obtain ⟨t1, t2, t3, ⟨p', t4, t5⟩, K', t6, t7, t8⟩ := o4'
          refine w_kVe [.ref 146, .int (nI 1)] (by simp only [f_mkF, w_sI, w_sR, w_sL, w_sC, w_sk, w_sbr, w_sco, w_rV, w_rI, w_rR, w_rL, w_dI, w_sO, w_sq, w_si, w_pI, w_pZ, w_pR, w_pU, w_qI, w_qB, w_qZ, w_qU, w_qR, w_kV, q_icst, q_lcst, q_xR, q_ldI, q_ldR, q_ldL, q_bn, q_un, q_dv, q_fI, q_fR, q_aI, q_aR, q_aN, q_tn, q_cmp, q_cmz, q_cnt, q_ctt, q_cand, q_cor, q_vn, q_vI, q_vR, q_vL, q_kI, q_kR, q_kL, q_ckI, envN, argE, List.flatMap_cons, List.flatMap_nil, Value.category, junk, oadd, osub, omul, oand, oor, oxor, odiv, orem, oshl, oshr, oushr, omax, omin]; simp; rfl) (by simp [rcv, hn5, ly146]) ((fq_of (x_nop q5 t3 t5 t4 t8 t7 1)).mpr ?_)
          rw [if_neg c5]
          exact ⟨rfl, rfl, rfl, o4⟩
      rintro E1 h6 ⟨rfl, o6⟩
      have q6 := q2.c o6.1
      have hn6 := q6.1
      refine w_sqS (fun E1 h7 => E1 = [.ref 146, .int (nI lt)] ∧ OC e la c h3 (k + c) (expP s 41 (if s (p + 1) = 40 then cndP s (pceP s 5) (p + 2) k else .error (1000 + (p + 1)))) h7) (w_kVe [.ref 146, .int (nI 41)] (by simp only [f_mkF, w_sI, w_sR, w_sL, w_sC, w_sk, w_sbr, w_sco, w_rV, w_rI, w_rR, w_rL, w_dI, w_sO, w_sq, w_si, w_pI, w_pZ, w_pR, w_pU, w_qI, w_qB, w_qZ, w_qU, w_qR, w_kV, q_icst, q_lcst, q_xR, q_ldI, q_ldR, q_ldL, q_bn, q_un, q_dv, q_fI, q_fR, q_aI, q_aR, q_aN, q_tn, q_cmp, q_cmz, q_cnt, q_ctt, q_cand, q_cor, q_vn, q_vI, q_vR, q_vL, q_kI, q_kR, q_kL, q_ckI, envN, argE, List.flatMap_cons, List.flatMap_nil, Value.category, junk, oadd, osub, omul, oand, oor, oxor, odiv, orem, oshl, oshr, oushr, omax, omin]; simp; rfl) (by simp [rcv, hn6, ly146]) (fq_mono (OC_exp q2 o6 (sg := 41) (by omega) fun p' C z => ?_) ?_)) ?_
      · by_cases c5 : s (p + 1) = 40
        · rw [if_pos c5] at z
          have := GO_cnd hz 5 _ _ _ _ z
          omega
        · rw [if_neg c5] at z; cases z
      · rintro r h7 ⟨rfl, z⟩
        exact ⟨rfl, rfl, rfl, z⟩
      rintro E1 h7 ⟨rfl, o7⟩
      have q7 := q2.c o7.1
      have hn7 := q7.1
      have r7 := q7.2.1.2.1
      cases hR : expP s 41 (if s (p + 1) = 40 then cndP s (pceP s 5) (p + 2) k else .error (1000 + (p + 1))) with
      | error f =>
        rw [hR] at hV o7
        simp only at hV
        subst hV
        obtain ⟨t1, t2, t3, ⟨p', t4, t5⟩, K', t6, t7, t8⟩ := o7
        rw [w_dI, q_kI]
        simp only [f_mkF, w_sI, w_sR, w_sL, w_sC, w_sk, w_sbr, w_sco, w_rV, w_rI, w_rR, w_rL, w_dI, w_sO, w_sq, w_si, w_pI, w_pZ, w_pR, w_pU, w_qI, w_qB, w_qZ, w_qU, w_qR, w_kV, q_icst, q_lcst, q_xR, q_ldI, q_ldR, q_ldL, q_bn, q_un, q_dv, q_fI, q_fR, q_aI, q_aR, q_aN, q_tn, q_cmp, q_cmz, q_cnt, q_ctt, q_cand, q_cor, q_vn, q_vI, q_vR, q_vL, q_kI, q_kR, q_kL, q_ckI, envN, argE, List.flatMap_cons, List.flatMap_nil, Value.category, junk, oadd, osub, omul, oand, oor, oxor, odiv, orem, oshl, oshr, oushr, omax, omin]
        simp (disch := first | omega | simp) [rk_i, rk_b, rk_o, st1, kill, Value.category, rcv, nog, hn7, ly146, r7, yl, yl2]
        refine fq_mono (x_addF q7 t8 t7 5 0) ?_
        rintro r h8 ⟨⟨v5, rfl⟩, z2, K2, z3, z4, z5⟩
        refine ⟨⟨v5, rfl⟩, fr1.trans ((f2.trans (t1.trans (z2.sub fun a k z => by unfold SCl; omega))).sd), ?_, ?_, p', t4, ?_⟩
        · rw [z2.2.2 146 3 (by omega)]; exact t2
        · rw [z2.2.2 146 3 (by omega)]; exact t3
        · rw [z2.2.2 146 2 (by omega)]; exact t5
      | ok x =>
        obtain ⟨p2, C2⟩ := x
        have xb := expP_b hz hR
        rw [hR] at hV o7
        simp only at hV
        subst hV
        obtain ⟨w1, w2, w3, w4, w5⟩ := o7
        have a1 := x_addL q7 w4 (by omega) 5 0
        simp only [f_mkF, w_sI, w_sR, w_sL, w_sC, w_sk, w_sbr, w_sco, w_rV, w_rI, w_rR, w_rL, w_dI, w_sO, w_sq, w_si, w_pI, w_pZ, w_pR, w_pU, w_qI, w_qB, w_qZ, w_qU, w_qR, w_kV, q_icst, q_lcst, q_xR, q_ldI, q_ldR, q_ldL, q_bn, q_un, q_dv, q_fI, q_fR, q_aI, q_aR, q_aN, q_tn, q_cmp, q_cmz, q_cnt, q_ctt, q_cand, q_cor, q_vn, q_vI, q_vR, q_vL, q_kI, q_kR, q_kL, q_ckI, envN, argE, List.flatMap_cons, List.flatMap_nil, Value.category, junk, oadd, osub, omul, oand, oor, oxor, odiv, orem, oshl, oshr, oushr, omax, omin]
        simp (disch := first | omega | simp) [rk_i, rk_b, rk_o, st1, kill, Value.category, rcv, nog, hn7, ly146, r7, yl, yl2, fq_of a1]
        have f6 : Fr (SCl la (k + c + C2.length)) h7 (wI (wI (wI h7 (la + 1) (k + c + C2.length) 5) (la + 2) (k + c + C2.length) 0) la 4 (nI (k + c + C2.length + 1))) := (((Fr.refl h7).w (by unfold SCl; omega)).w (by unfold SCl; omega)).w (by unfold SCl; omega)
        have f7 : Fr (SCl la (k + c)) h2 (wI (wI (wI h7 (la + 1) (k + c + C2.length) 5) (la + 2) (k + c + C2.length) 0) la 4 (nI (k + c + C2.length + 1))) := f2.trans (w1.trans (f6.sc (by omega)))
        refine ⟨fr1.trans f7.sd, ?_, ?_, ?_, ?_, ?_, ?_, w5.c hA f6 (by omega), ?_⟩
        · rw [wI_i, if_neg (by omega), wI_i, if_neg (by omega), wI_i, if_neg (by omega)]; exact w2
        · rw [wI_i, if_neg (by omega), wI_i, if_neg (by omega), wI_i, if_neg (by omega)]; exact w3
        · rw [wI_i, if_pos ⟨rfl, rfl⟩]
        · rw [f7.2.2 la 5 (by unfold SCl; omega)]; exact v4
        · rw [f7.2.2 (la + 3) c (by unfold SCl; omega)]; exact v5
        · rw [f7.2.2 (la + 4) c (by unfold SCl; omega)]; exact v6
        · rw [wI_i, if_neg (by omega), wI_i, if_neg (by omega), wI_i, if_pos ⟨rfl, rfl⟩]
    · rw [if_neg c4] at hV
      subst hV
      have c4' : 12 ≤ c := by omega
      refine (w_siT (by simp only [f_mkF, w_sI, w_sR, w_sL, w_sC, w_sk, w_sbr, w_sco, w_rV, w_rI, w_rR, w_rL, w_dI, w_sO, w_sq, w_si, w_pI, w_pZ, w_pR, w_pU, w_qI, w_qB, w_qZ, w_qU, w_qR, w_kV, q_icst, q_lcst, q_xR, q_ldI, q_ldR, q_ldL, q_bn, q_un, q_dv, q_fI, q_fR, q_aI, q_aR, q_aN, q_tn, q_cmp, q_cmz, q_cnt, q_ctt, q_cand, q_cor, q_vn, q_vI, q_vR, q_vL, q_kI, q_kR, q_kL, q_ckI, envN, argE, List.flatMap_cons, List.flatMap_nil, Value.category, junk, oadd, osub, omul, oand, oor, oxor, odiv, orem, oshl, oshr, oushr, omax, omin]; simp (disch := first | omega | simp) [rk_i, rk_b, rk_o, st1, kill, Value.category, rcv, nog, inI_b, nI_clamp, nI_ltI, nI_leI, nI_eq, nI_9, nI_6, nI_22, nI_12, nI_180, nI_add, nI_1, hn, ly146, r4, yl, yl2, hc, k12, c4, c4'])).mpr ?_
      have e4 : F_X4_fail [.ref 146, .int 4] h = _ := x_fail q (w := 4) hp
      rw [if_pos hf] at e4
      simp only [f_mkF, w_sI, w_sR, w_sL, w_sC, w_sk, w_sbr, w_sco, w_rV, w_rI, w_rR, w_rL, w_dI, w_sO, w_sq, w_si, w_pI, w_pZ, w_pR, w_pU, w_qI, w_qB, w_qZ, w_qU, w_qR, w_kV, q_icst, q_lcst, q_xR, q_ldI, q_ldR, q_ldL, q_bn, q_un, q_dv, q_fI, q_fR, q_aI, q_aR, q_aN, q_tn, q_cmp, q_cmz, q_cnt, q_ctt, q_cand, q_cor, q_vn, q_vI, q_vR, q_vL, q_kI, q_kR, q_kL, q_ckI, envN, argE, List.flatMap_cons, List.flatMap_nil, Value.category, junk, oadd, osub, omul, oand, oor, oxor, odiv, orem, oshl, oshr, oushr, omax, omin]
      simp (disch := first | omega | simp) [rk_i, rk_b, rk_o, st1, kill, Value.category, rcv, nog, hn, ly146, fq_of e4]
      exact fl 4 (by omega) (by omega)
  · rw [if_neg c3] at hV
    subst hV
    have i1 : ixT 0 (s p) = -1 := by unfold ixT; rw [lt_n, if_neg c3]
    rw [i1]
    refine (w_siT (by simp only [f_mkF, w_sI, w_sR, w_sL, w_sC, w_sk, w_sbr, w_sco, w_rV, w_rI, w_rR, w_rL, w_dI, w_sO, w_sq, w_si, w_pI, w_pZ, w_pR, w_pU, w_qI, w_qB, w_qZ, w_qU, w_qR, w_kV, q_icst, q_lcst, q_xR, q_ldI, q_ldR, q_ldL, q_bn, q_un, q_dv, q_fI, q_fR, q_aI, q_aR, q_aN, q_tn, q_cmp, q_cmz, q_cnt, q_ctt, q_cand, q_cor, q_vn, q_vI, q_vR, q_vL, q_kI, q_kR, q_kL, q_ckI, envN, argE, List.flatMap_cons, List.flatMap_nil, Value.category, junk, oadd, osub, omul, oand, oor, oxor, odiv, orem, oshl, oshr, oushr, omax, omin]; simp (disch := first | omega | simp) [rk_i, rk_b, rk_o, st1, kill, Value.category, rcv, nog])).mpr ?_
    have e4 : F_X4_fail [.ref 146, .int 1] h = _ := x_fail q (w := 1) hp
    rw [if_pos hf] at e4
    simp only [f_mkF, w_sI, w_sR, w_sL, w_sC, w_sk, w_sbr, w_sco, w_rV, w_rI, w_rR, w_rL, w_dI, w_sO, w_sq, w_si, w_pI, w_pZ, w_pR, w_pU, w_qI, w_qB, w_qZ, w_qU, w_qR, w_kV, q_icst, q_lcst, q_xR, q_ldI, q_ldR, q_ldL, q_bn, q_un, q_dv, q_fI, q_fR, q_aI, q_aR, q_aN, q_tn, q_cmp, q_cmz, q_cnt, q_ctt, q_cand, q_cor, q_vn, q_vI, q_vR, q_vL, q_kI, q_kR, q_kL, q_ckI, envN, argE, List.flatMap_cons, List.flatMap_nil, Value.category, junk, oadd, osub, omul, oand, oor, oxor, odiv, orem, oshl, oshr, oushr, omax, omin]
    simp (disch := first | omega | simp) [rk_i, rk_b, rk_o, st1, kill, Value.category, rcv, nog, hn, ly146, fq_of e4]
    exact fl 1 (by omega) (by omega)
theorem x_clsF {s : Nat → Nat} {e la : Nat} {h : Hp} (q : RX s e la h) {p c : Nat} (hp : h.2.1 146 2 = nI p) (hpe : p ≤ e) (hf : h.2.1 146 3 ≠ 0) (hc : h.2.1 la 5 = nI c) (hc12 : c ≤ 12) : F_X4_clause [.ref 146] h = some (none, h) := by
  have hn := q.1
  have hA := q.2.1.2.2
  have r4 := q.2.1.2.1
  have hy := law_y hA
  have yl := hy.1
  have yl2 : la < 212 := by omega
  have hs := q.2.2.2.2.2.1
  have e1 := x_sign q hp hpe
  have e3 := x_idx (t := 0) (by omega) (hs p) h
  have k12 : (12 : Int32) = nI 12 := rfl
  have e4 : F_X4_fail [.ref 146, .int 1] h = _ := x_fail q (w := 1) hp
  have e5 : F_X4_fail [.ref 146, .int 4] h = _ := x_fail q (w := 4) hp
  rw [if_neg hf] at e4 e5
  rw [← fq_eq]
  unfold F_X4_clause
  refine f_mkE [.ref 146, junk] rfl (by simp [argE, Value.category]) ?_
  refine w_sqI (E' := [.ref 146, .int (ixT 0 (s p))]) (ixT 0 (s p)) (by simp only [f_mkF, w_sI, w_sR, w_sL, w_sC, w_sk, w_sbr, w_sco, w_rV, w_rI, w_rR, w_rL, w_dI, w_sO, w_sq, w_si, w_pI, w_pZ, w_pR, w_pU, w_qI, w_qB, w_qZ, w_qU, w_qR, w_kV, q_icst, q_lcst, q_xR, q_ldI, q_ldR, q_ldL, q_bn, q_un, q_dv, q_fI, q_fR, q_aI, q_aR, q_aN, q_tn, q_cmp, q_cmz, q_cnt, q_ctt, q_cand, q_cor, q_vn, q_vI, q_vR, q_vL, q_kI, q_kR, q_kL, q_ckI, envN, argE, List.flatMap_cons, List.flatMap_nil, Value.category, junk, oadd, osub, omul, oand, oor, oxor, odiv, orem, oshl, oshr, oushr, omax, omin]; simp (disch := first | omega | simp) [rk_i, rk_b, rk_o, st1, kill, Value.category, rcv, nog, hn, ly146, fq_of e1, rcx, fq_of e3]) rfl ?_
  refine w_sqS (fun _ h1 => h1 = h) ?_ (fun E1 h1 z => by rw [w_rV]; exact Or.inl ⟨rfl, rfl, rfl, z⟩)
  generalize ixT 0 (s p) = v
  refine w_siN (decide (v < 0)) (by simp only [f_mkF, w_sI, w_sR, w_sL, w_sC, w_sk, w_sbr, w_sco, w_rV, w_rI, w_rR, w_rL, w_dI, w_sO, w_sq, w_si, w_pI, w_pZ, w_pR, w_pU, w_qI, w_qB, w_qZ, w_qU, w_qR, w_kV, q_icst, q_lcst, q_xR, q_ldI, q_ldR, q_ldL, q_bn, q_un, q_dv, q_fI, q_fR, q_aI, q_aR, q_aN, q_tn, q_cmp, q_cmz, q_cnt, q_ctt, q_cand, q_cor, q_vn, q_vI, q_vR, q_vL, q_kI, q_kR, q_kL, q_ckI, envN, argE, List.flatMap_cons, List.flatMap_nil, Value.category, junk, oadd, osub, omul, oand, oor, oxor, odiv, orem, oshl, oshr, oushr, omax, omin]; simp [rk_i, rk_b, rk_o, st1, kill, Value.category, rcv, nog]) (fun _ => by simp only [f_mkF, w_sI, w_sR, w_sL, w_sC, w_sk, w_sbr, w_sco, w_rV, w_rI, w_rR, w_rL, w_dI, w_sO, w_sq, w_si, w_pI, w_pZ, w_pR, w_pU, w_qI, w_qB, w_qZ, w_qU, w_qR, w_kV, q_icst, q_lcst, q_xR, q_ldI, q_ldR, q_ldL, q_bn, q_un, q_dv, q_fI, q_fR, q_aI, q_aR, q_aN, q_tn, q_cmp, q_cmz, q_cnt, q_ctt, q_cand, q_cor, q_vn, q_vI, q_vR, q_vL, q_kI, q_kR, q_kL, q_ckI, envN, argE, List.flatMap_cons, List.flatMap_nil, Value.category, junk, oadd, osub, omul, oand, oor, oxor, odiv, orem, oshl, oshr, oushr, omax, omin]; simp (disch := first | omega | simp) [rk_i, rk_b, rk_o, st1, kill, Value.category, rcv, nog, hn, ly146, fq_of e4]) fun _ => ?_
  refine w_siN (!(olt (nI c) 12)) (by simp only [f_mkF, w_sI, w_sR, w_sL, w_sC, w_sk, w_sbr, w_sco, w_rV, w_rI, w_rR, w_rL, w_dI, w_sO, w_sq, w_si, w_pI, w_pZ, w_pR, w_pU, w_qI, w_qB, w_qZ, w_qU, w_qR, w_kV, q_icst, q_lcst, q_xR, q_ldI, q_ldR, q_ldL, q_bn, q_un, q_dv, q_fI, q_fR, q_aI, q_aR, q_aN, q_tn, q_cmp, q_cmz, q_cnt, q_ctt, q_cand, q_cor, q_vn, q_vI, q_vR, q_vL, q_kI, q_kR, q_kL, q_ckI, envN, argE, List.flatMap_cons, List.flatMap_nil, Value.category, junk, oadd, osub, omul, oand, oor, oxor, odiv, orem, oshl, oshr, oushr, omax, omin]; simp (disch := first | omega | simp) [rk_i, rk_b, rk_o, st1, kill, Value.category, rcv, nog, hn, ly146, r4, yl, yl2, hc]) (fun _ => by simp only [f_mkF, w_sI, w_sR, w_sL, w_sC, w_sk, w_sbr, w_sco, w_rV, w_rI, w_rR, w_rL, w_dI, w_sO, w_sq, w_si, w_pI, w_pZ, w_pR, w_pU, w_qI, w_qB, w_qZ, w_qU, w_qR, w_kV, q_icst, q_lcst, q_xR, q_ldI, q_ldR, q_ldL, q_bn, q_un, q_dv, q_fI, q_fR, q_aI, q_aR, q_aN, q_tn, q_cmp, q_cmz, q_cnt, q_ctt, q_cand, q_cor, q_vn, q_vI, q_vR, q_vL, q_kI, q_kR, q_kL, q_ckI, envN, argE, List.flatMap_cons, List.flatMap_nil, Value.category, junk, oadd, osub, omul, oand, oor, oxor, odiv, orem, oshl, oshr, oushr, omax, omin]; simp (disch := first | omega | simp) [rk_i, rk_b, rk_o, st1, kill, Value.category, rcv, nog, hn, ly146, fq_of e5]) fun _ => ?_
  refine (w_siF (by simp only [f_mkF, w_sI, w_sR, w_sL, w_sC, w_sk, w_sbr, w_sco, w_rV, w_rI, w_rR, w_rL, w_dI, w_sO, w_sq, w_si, w_pI, w_pZ, w_pR, w_pU, w_qI, w_qB, w_qZ, w_qU, w_qR, w_kV, q_icst, q_lcst, q_xR, q_ldI, q_ldR, q_ldL, q_bn, q_un, q_dv, q_fI, q_fR, q_aI, q_aR, q_aN, q_tn, q_cmp, q_cmz, q_cnt, q_ctt, q_cand, q_cor, q_vn, q_vI, q_vR, q_vL, q_kI, q_kR, q_kL, q_ckI, envN, argE, List.flatMap_cons, List.flatMap_nil, Value.category, junk, oadd, osub, omul, oand, oor, oxor, odiv, orem, oshl, oshr, oushr, omax, omin]; simp (disch := first | omega | simp) [rk_i, rk_b, rk_o, st1, kill, Value.category, rcv, nog, hn, ly146, hf])).mpr ?_
  rw [w_sk]
  exact ⟨rfl, rfl⟩
