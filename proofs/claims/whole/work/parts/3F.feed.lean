/-! feed: five numbers -/
def FV (a b k L : Nat) (vs : List Int32) (h h' : Hp) : Prop := h'.1 = h.1 ∧ h'.2.2 = h.2.2 ∧ h'.2.1 b k = nI (L + 4 * vs.length) ∧ (∀ x y, ¬ (x = b ∧ y = k) → ¬ (x = a ∧ L ≤ y ∧ y < L + 4 * vs.length) → h'.2.1 x y = h.2.1 x y) ∧ ∀ x, x < 4 * vs.length → h'.2.1 a (L + x) = bt (vs.getD (x / 4) 0) (x % 4)
theorem FV_0 {a b k L : Nat} {h : Hp} (e : h.2.1 b k = nI L) : FV a b k L [] h h := ⟨rfl, rfl, e, fun _ _ _ _ => rfl, fun x hx => absurd hx (by simp)⟩
theorem FV_snoc {a b k L : Nat} {vs : List Int32} {v : Int32} {h h' h'' : Hp} (hab : a ≠ b) (p : FV a b k L vs h h') (q : FD a b k (L + 4 * vs.length) v 4 h' h'') : FV a b k L (vs ++ [v]) h h'' := by
  obtain ⟨p1, p2, p3, p4, p5⟩ := p
  obtain ⟨q1, q2, q3, q4, q5⟩ := q
  have hl : (vs ++ [v]).length = vs.length + 1 := by simp
  refine ⟨q1.trans p1, q2.trans p2, ?_, fun x y h1 h2 => ?_, fun x hx => ?_⟩
  · rw [q3, hl]
    rfl
  · rw [hl] at h2
    rw [q4 x y h1 (by omega)]
    exact p4 x y h1 (by omega)
  · rw [hl] at hx
    by_cases hxl : x < 4 * vs.length
    · rw [q4 _ _ (by omega) (by omega), p5 x hxl]
      congr 1
      rw [List.getD_eq_getElem?_getD, List.getD_eq_getElem?_getD, List.getElem?_append_left (by omega)]
    · have := q5 (x - 4 * vs.length) (by omega)
      rw [show L + 4 * vs.length + (x - 4 * vs.length) = L + x by omega] at this
      rw [this, List.getD_eq_getElem?_getD, show x / 4 = vs.length by omega, show x % 4 = x - 4 * vs.length by omega]
      simp
theorem FV_Ip {a b k L : Nat} {vs : List Int32} {h h' : Hp} (p : FV a b k L vs h h') (hp : Ip h) : Ip h' := Ip_c p.1 p.2.1 hp
theorem f_x_put {h0 h : Hp} {L : Nat} {vs : List Int32} (v : Int32) (p : FV 13 12 1 L vs h0 h) (hp : Ip h) (hL : L + 4 * vs.length + 4 ≤ 200) {P : Option Value → Hp → Prop} (hP : ∀ h', Ip h' → FV 13 12 1 L (vs ++ [v]) h0 h' → P none h') : fq F_X8_put [.ref 12, .int v] h P := by
  refine fq_mono (e_x_put hp v hL p.2.2.1) ?_
  rintro r h' ⟨rfl, f⟩
  exact hP h' (Ip_c f.1 f.2.1 hp) (FV_snoc (by decide) p f)
theorem f_m_put {h0 h : Hp} {L : Nat} {vs : List Int32} (v : Int32) (p : FV 183 166 20 L vs h0 h) (hp : Ip h) (hL : L + 4 * vs.length + 4 ≤ 200) {P : Option Value → Hp → Prop} (hP : ∀ h', Ip h' → FV 183 166 20 L (vs ++ [v]) h0 h' → P none h') : fq F_X11_types [.ref 166, .int v] h P := by
  refine fq_mono (e_m_types hp v hL p.2.2.1) ?_
  rintro r h' ⟨rfl, f⟩
  exact hP h' (Ip_c f.1 f.2.1 hp) (FV_snoc (by decide) p f)
theorem e_x_feed {h : Hp} (hp : Ip h) {L : Nat} (a b c d e : Int32) (hL : L + 20 ≤ 200) (hc : h.2.1 12 1 = nI L) : fq F_X10_feed [.ref 0, .int a, .int b, .int c, .int d, .int e] h fun r h' => r = some (.int (nI (L + 20))) ∧ FV 13 12 1 L [a, b, c, d, e] h h' := by
  have hn := hp.1
  have v5 : h.2.2 0 5 = some 12 := hp.2.1.at 5 rfl
  unfold F_X10_feed
  simp only [f_mkF, w_sI, w_sR, w_sL, w_sC, w_sk, w_sbr, w_sco, w_rV, w_rI, w_rR, w_rL, w_dI, w_sO, w_sq, w_si, w_pI, w_pZ, w_pR, w_pU, w_qI, w_qB, w_qZ, w_qU, w_qR, w_kV, q_icst, q_lcst, q_xR, q_ldI, q_ldR, q_ldL, q_bn, q_un, q_dv, q_fI, q_fR, q_aI, q_aR, q_aN, q_tn, q_cmp, q_cmz, q_cnt, q_ctt, q_cand, q_cor, q_vn, q_vI, q_vR, q_vL, q_kI, q_kR, q_kL, q_ckI, envN, argE, List.flatMap_cons, List.flatMap_nil, Value.category, junk, oadd, osub, omul, oand, oor, oxor, odiv, orem, oshl, oshr, oushr, omax, omin]
  have g1 : nI L + 20 ≤ 200 := by
    rw [show nI L + 20 = nI (L + 20) from nI_add L 20, show (200 : Int32) = nI 200 from rfl, nI_leI (by omega) (by omega)]
    omega
  simp [rk_i, rk_b, rk_o, st1, kill, Value.category, rcv, nog, hn, ly0, ly12, v5, hc, g1, ole]
  refine ⟨fun z => absurd g1 (Int32.not_le.mpr z), ?_⟩
  refine f_x_put a (FV_0 hc) hp (by simp; omega) fun h1 i1 f1 => ?_
  have w1 : h1.2.2 0 5 = some 12 := i1.2.1.at 5 rfl
  simp [i1.1, w1, ly12]
  refine f_x_put b f1 i1 (by simp; omega) fun h2 i2 f2 => ?_
  have w2 : h2.2.2 0 5 = some 12 := i2.2.1.at 5 rfl
  simp [i2.1, w2, ly12]
  refine f_x_put c f2 i2 (by simp; omega) fun h3 i3 f3 => ?_
  have w3 : h3.2.2 0 5 = some 12 := i3.2.1.at 5 rfl
  simp [i3.1, w3, ly12]
  refine f_x_put d f3 i3 (by simp; omega) fun h4 i4 f4 => ?_
  have w4 : h4.2.2 0 5 = some 12 := i4.2.1.at 5 rfl
  simp [i4.1, w4, ly12]
  refine f_x_put e f4 i4 (by simp; omega) fun h5 i5 f5 => ?_
  have w5 : h5.2.2 0 5 = some 12 := i5.2.1.at 5 rfl
  simp [i5.1, w5, ly12]
  exact ⟨f5.2.2.1, f5⟩
theorem e_m_feed {h : Hp} (hp : Ip h) {L : Nat} (a b c d e : Int32) (hL : L + 20 ≤ 200) (hc : h.2.1 166 20 = nI L) : fq F_X11_feed [.ref 166, .int a, .int b, .int c, .int d, .int e] h fun r h' => r = some (.int (nI (L + 20))) ∧ FV 183 166 20 L [a, b, c, d, e] h h' := by
  have hn := hp.1
  unfold F_X11_feed
  simp only [f_mkF, w_sI, w_sR, w_sL, w_sC, w_sk, w_sbr, w_sco, w_rV, w_rI, w_rR, w_rL, w_dI, w_sO, w_sq, w_si, w_pI, w_pZ, w_pR, w_pU, w_qI, w_qB, w_qZ, w_qU, w_qR, w_kV, q_icst, q_lcst, q_xR, q_ldI, q_ldR, q_ldL, q_bn, q_un, q_dv, q_fI, q_fR, q_aI, q_aR, q_aN, q_tn, q_cmp, q_cmz, q_cnt, q_ctt, q_cand, q_cor, q_vn, q_vI, q_vR, q_vL, q_kI, q_kR, q_kL, q_ckI, envN, argE, List.flatMap_cons, List.flatMap_nil, Value.category, junk, oadd, osub, omul, oand, oor, oxor, odiv, orem, oshl, oshr, oushr, omax, omin]
  have g1 : nI L + 20 ≤ 200 := by
    rw [show nI L + 20 = nI (L + 20) from nI_add L 20, show (200 : Int32) = nI 200 from rfl, nI_leI (by omega) (by omega)]
    omega
  simp [rk_i, rk_b, rk_o, st1, kill, Value.category, rcv, nog, hn, ly166, hc, g1, ole]
  refine ⟨fun z => absurd g1 (Int32.not_le.mpr z), ?_⟩
  refine f_m_put a (FV_0 hc) hp (by simp; omega) fun h1 i1 f1 => ?_
  simp [i1.1]
  refine f_m_put b f1 i1 (by simp; omega) fun h2 i2 f2 => ?_
  simp [i2.1]
  refine f_m_put c f2 i2 (by simp; omega) fun h3 i3 f3 => ?_
  simp [i3.1]
  refine f_m_put d f3 i3 (by simp; omega) fun h4 i4 f4 => ?_
  simp [i4.1]
  refine f_m_put e f4 i4 (by simp; omega) fun h5 i5 f5 => ?_
  simp [i5.1]
  exact ⟨f5.2.2.1, f5⟩
theorem g_feed {LW : Hp → Prop} (hW : LWok LW) : AG (INV LW) F_X10_feed F_X11_feed 5 := by
  intro n h vs hl hn q
  match vs, hl with
  | [a, b, c, d, e], _ =>
    have q' := q
    obtain ⟨q0, q1, q2, q3, q4, ⟨a1, a2, a3⟩, q6, q7, q8, q9, q10⟩ := q
    have hL := nI_toI a2.1
    have hL2 := clampI a2.1
    generalize (h.2.1 166 20).toNatClampNeg = L at *
    by_cases hc : L + 20 ≤ 200
    · obtain ⟨r1, h1, e1, rfl, f1⟩ := e_x_feed q0 a b c d e hc (a1.trans hL)
      have i1 := FV_Ip f1 q0
      have m1 : h1.2.1 166 20 = nI L := (f1.2.2.2.1 166 20 (by omega) (by omega)).trans hL
      obtain ⟨r2, h2, e2, rfl, f2⟩ := e_m_feed i1 a b c d e hc m1
      have i2 := FV_Ip f2 i1
      have sm : ∀ S : Nat → Nat → Prop, (∀ y, ¬ S 13 y) → ¬ S 12 1 → (∀ y, ¬ S 183 y) → ¬ S 166 20 → same S h h2 := by
        intro S x1 x2 x3 x4 x y s
        rw [f2.2.2.2.1 x y (by rintro ⟨rfl, rfl⟩; exact x4 s) (by rintro ⟨rfl, -⟩; exact x3 y s)]
        exact f1.2.2.2.1 x y (by rintro ⟨rfl, rfl⟩; exact x2 s) (by rintro ⟨rfl, -⟩; exact x1 y s)
      have rr : h2.2.2 = h.2.2 := f2.2.1.trans f1.2.1
      refine ⟨_, h1, h2, e1, i1.1, e2, i2, Iclk_c (sm _ ?_ ?_ ?_ ?_) q1, Iper_c (sm _ ?_ ?_ ?_ ?_) q2, Isen_c (sm _ ?_ ?_ ?_ ?_) q3, Iroa_c (sm _ ?_ ?_ ?_ ?_) q4, ?itap, Ithi_c (sm _ ?_ ?_ ?_ ?_) ?hnp q6, Irow_c (sm _ ?_ ?_ ?_ ?_) (sameR_of rr) ?hnp ?hw q7, Icla_c (sm _ ?_ ?_ ?_ ?_) (sameR_of rr) q8, hW _ _ (sm _ ?_ ?_ ?_ ?_) (sameR_of rr) q9, Icou_c (sm _ ?_ ?_ ?_ ?_) q10⟩
      case hnp => rw [sm (fun x y => x = 166 ∧ y = 1) (by simp) (by simp) (by simp) (by simp) 166 1 ⟨rfl, rfl⟩]; exact Int.le_refl _
      case hw => rw [sm (fun x y => x = 166 ∧ y = 0) (by simp) (by simp) (by simp) (by simp) 166 0 ⟨rfl, rfl⟩]; exact Int.le_refl _
      case itap =>
        have b1 : h2.2.1 166 20 = nI (L + 20) := f2.2.2.1
        have b2 : h2.2.1 12 1 = nI (L + 20) := (f2.2.2.2.1 12 1 (by omega) (by omega)).trans f1.2.2.1
        refine ⟨b2.trans b1.symm, by rw [b1, nI_toInt (by omega)]; omega, fun i => ?_⟩
        have c1 : h2.2.1 13 i = h1.2.1 13 i := f2.2.2.2.1 13 i (by omega) (by omega)
        rw [c1]
        by_cases hi : L ≤ i ∧ i < L + 20
        · have d1 := f1.2.2.2.2 (i - L) (by simp; omega)
          have d2 := f2.2.2.2.2 (i - L) (by simp; omega)
          rw [show L + (i - L) = i by omega] at d1 d2
          rw [d1, d2]
        · rw [f2.2.2.2.1 183 i (by omega) (by simp; omega), f1.2.2.2.1 183 i (by omega) (by omega), f1.2.2.2.1 13 i (by omega) (by simp; omega)]
          exact a3 i
      all_goals first | (intro y; simp only [Sclk, Sper, Ssen, Sroa, Stap, Sthi, Srow, Slaw, Scou]; omega) | (simp only [Sclk, Sper, Ssen, Sroa, Stap, Sthi, Srow, Slaw, Scou]; omega)
    · have g1 : ¬ nI L + 20 ≤ 200 := by
        rw [show nI L + 20 = nI (L + 20) from nI_add L 20, show (200 : Int32) = nI 200 from rfl, nI_leI (by omega) (by omega)]
        omega
      have hn := q0.1
      have v5 : h.2.2 0 5 = some 12 := q0.2.1.at 5 rfl
      refine ⟨-1, h, h, ?_, hn, ?_, INV_up q'⟩
      · rw [← fq_eq]
        unfold F_X10_feed
        simp only [List.map_cons, List.map_nil, f_mkF, w_sI, w_sR, w_sL, w_sC, w_sk, w_sbr, w_sco, w_rV, w_rI, w_rR, w_rL, w_dI, w_sO, w_sq, w_si, w_pI, w_pZ, w_pR, w_pU, w_qI, w_qB, w_qZ, w_qU, w_qR, w_kV, q_icst, q_lcst, q_xR, q_ldI, q_ldR, q_ldL, q_bn, q_un, q_dv, q_fI, q_fR, q_aI, q_aR, q_aN, q_tn, q_cmp, q_cmz, q_cnt, q_ctt, q_cand, q_cor, q_vn, q_vI, q_vR, q_vL, q_kI, q_kR, q_kL, q_ckI, envN, argE, List.flatMap_cons, List.flatMap_nil, Value.category, junk, oadd, osub, omul, oand, oor, oxor, odiv, orem, oshl, oshr, oushr, omax, omin]
        simp [rk_i, rk_b, rk_o, st1, kill, Value.category, rcv, nog, hn, ly0, ly12, v5, a1, hL, g1, ole]
      · rw [← fq_eq]
        unfold F_X11_feed
        simp only [List.map_cons, List.map_nil, f_mkF, w_sI, w_sR, w_sL, w_sC, w_sk, w_sbr, w_sco, w_rV, w_rI, w_rR, w_rL, w_dI, w_sO, w_sq, w_si, w_pI, w_pZ, w_pR, w_pU, w_qI, w_qB, w_qZ, w_qU, w_qR, w_kV, q_icst, q_lcst, q_xR, q_ldI, q_ldR, q_ldL, q_bn, q_un, q_dv, q_fI, q_fR, q_aI, q_aR, q_aN, q_tn, q_cmp, q_cmz, q_cnt, q_ctt, q_cand, q_cor, q_vn, q_vI, q_vR, q_vL, q_kI, q_kR, q_kL, q_ckI, envN, argE, List.flatMap_cons, List.flatMap_nil, Value.category, junk, oadd, osub, omul, oand, oor, oxor, odiv, orem, oshl, oshr, oushr, omax, omin]
        simp [rk_i, rk_b, rk_o, st1, kill, Value.category, rcv, nog, hn, ly166, hL, g1, ole]
