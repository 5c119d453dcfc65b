/-! sends, road -/
theorem ptS {h : Hp} (hp : Ip h) {l : Nat} (hl : l < 6) : h.2.2 5 l = some (6 + l) ∧ LY (6 + l) = (13, 9) := by
  obtain ⟨-, hm, -⟩ := hp
  match l, hl with
  | 0, _ => exact ⟨hm.at 15 rfl, rfl⟩
  | 1, _ => exact ⟨hm.at 16 rfl, rfl⟩
  | 2, _ => exact ⟨hm.at 17 rfl, rfl⟩
  | 3, _ => exact ⟨hm.at 18 rfl, rfl⟩
  | 4, _ => exact ⟨hm.at 19 rfl, rfl⟩
  | 5, _ => exact ⟨hm.at 20 rfl, rfl⟩
theorem ptC {h : Hp} (hp : Ip h) {l : Nat} (hl : l < 6) : h.2.2 15 l = some (16 + l) ∧ LY (16 + l) = (13, 6) := by
  obtain ⟨-, hm, -⟩ := hp
  match l, hl with
  | 0, _ => exact ⟨hm.at 24 rfl, rfl⟩
  | 1, _ => exact ⟨hm.at 25 rfl, rfl⟩
  | 2, _ => exact ⟨hm.at 26 rfl, rfl⟩
  | 3, _ => exact ⟨hm.at 27 rfl, rfl⟩
  | 4, _ => exact ⟨hm.at 28 rfl, rfl⟩
  | 5, _ => exact ⟨hm.at 29 rfl, rfl⟩
theorem ptT {h : Hp} (hp : Ip h) {t : Nat} (ht : t < 4) : h.2.2 3 t = some (28 + 22 * t) ∧ (LY (28 + 22 * t)).1 = 9 ∧ h.2.2 (28 + 22 * t) 0 = some (29 + 22 * t) ∧ LY (29 + 22 * t) = (16, 20) := by
  obtain ⟨-, hm, -⟩ := hp
  match t, ht with
  | 0, _ => exact ⟨hm.at 11 rfl, rfl, hm.at 34 rfl, rfl⟩
  | 1, _ => exact ⟨hm.at 12 rfl, rfl, hm.at 35 rfl, rfl⟩
  | 2, _ => exact ⟨hm.at 13 rfl, rfl, hm.at 36 rfl, rfl⟩
  | 3, _ => exact ⟨hm.at 14 rfl, rfl, hm.at 37 rfl, rfl⟩
theorem lyRow {t a : Nat} (ht : t < 4) (h1 : 30 + 22 * t ≤ a) (h2 : a < 50 + 22 * t) : (LY a).1 = 5 := by
  have : ∀ t, t < 4 → ∀ j, j < 20 → (LY (30 + 22 * t + j)).1 = 5 := by decide
  have z := this t ht (a - (30 + 22 * t)) (by omega)
  rwa [show 30 + 22 * t + (a - (30 + 22 * t)) = a by omega] at z
/-- a number within bounds is one of the naturals -/
theorem nI_in2 {x : Int32} {m : Nat} {M : Int32} (hM : M.toInt = m) (h0 : 0 ≤ x) (h1 : x ≤ M) : ∃ j : Nat, j ≤ m ∧ x = nI j := nI_of2 hM (by rw [Int32.lt_iff_toInt_lt]; rw [Int32.le_iff_toInt_le] at h0; omega) h1
theorem nI_toI {x : Int32} (h0 : 0 ≤ x.toInt) : x = nI x.toNatClampNeg := by
  have h1 := clampI h0
  have h2 := Int32.toInt_lt x
  apply Int32.toInt_inj.mp
  rw [nI_toInt (by omega)]
  omega
theorem inI_b {a n : Nat} (ha : a < 2 ^ 31) : inI (nI a) n = decide (a < n) := by
  unfold inI
  rw [nI_toInt ha]
  simp
theorem nI_mul (a b : Nat) : nI a * nI b = nI (a * b) := (Int32.ofNat_mul a b).symm
theorem nI_9 (a : Nat) : 9 * nI a = nI (9 * a) := nI_mul 9 a
theorem nI_6 (a : Nat) : 6 * nI a = nI (6 * a) := nI_mul 6 a
theorem nI_22 (a : Nat) : 22 * nI a = nI (22 * a) := nI_mul 22 a
theorem nI_12 (a : Nat) : 12 * nI a = nI (12 * a) := nI_mul 12 a
theorem nI_180 (a : Nat) : 180 * nI a = nI (180 * a) := nI_mul 180 a
theorem e_x_sends (a b c : Int32) (h : Hp) (hp : Ip h) : F_X10_sends [.ref 0, .int a, .int b, .int c] h = if (0 ≤ a ∧ a ≤ 5) ∧ (0 ≤ b ∧ b ≤ 8) ∧ (0 ≤ c ∧ c ≤ 5) then some (some (.int 1), wI h (6 + a.toNatClampNeg) b.toNatClampNeg c) else some (some (.int 0), h) := by
  have hn := hp.1
  have p4 : h.2.2 0 4 = some 5 := hp.2.1.at 4 rfl
  by_cases hc : (0 ≤ a ∧ a ≤ 5) ∧ (0 ≤ b ∧ b ≤ 8) ∧ (0 ≤ c ∧ c ≤ 5)
  · obtain ⟨l, hl, rfl⟩ := nI_in2 (m := 5) rfl hc.1.1 hc.1.2
    obtain ⟨k, hk, rfl⟩ := nI_in2 (m := 8) rfl hc.2.1.1 hc.2.1.2
    obtain ⟨s1, s2⟩ := ptS hp (l := l) (by omega)
    have s3 : 6 + l < 212 := by omega
    apply eq_of_fq
    unfold F_X10_sends
    simp only [f_mkF, w_sI, w_sR, w_sL, w_sC, w_sk, w_sbr, w_sco, w_rV, w_rI, w_rR, w_rL, w_dI, w_sO, w_sq, w_si, w_pI, w_pZ, w_pR, w_pU, w_qI, w_qB, w_qZ, w_qU, w_qR, w_kV, q_icst, q_lcst, q_xR, q_ldI, q_ldR, q_ldL, q_bn, q_un, q_dv, q_fI, q_fR, q_aI, q_aR, q_aN, q_tn, q_cmp, q_cmz, q_cnt, q_ctt, q_cand, q_cor, q_vn, q_vI, q_vR, q_vL, q_kI, q_kR, q_kL, q_ckI, envN, argE, List.flatMap_cons, List.flatMap_nil, Value.category, junk, oadd, osub, omul, oand, oor, oxor, odiv, orem, oshl, oshr, oushr, omax, omin]
    simp (disch := first | omega | simp) [rok, rcv, fq_of (e_x_isWithin _ _ _ _), fq_of (e_x_isLand _ _), nog, hn, ly0, ly5, b2_0, wI_1, p4, s1, s2, s3, inI_b, nI_clamp, hc]
    omega
  · apply eq_of_fq
    unfold F_X10_sends
    simp only [f_mkF, w_sI, w_sR, w_sL, w_sC, w_sk, w_sbr, w_sco, w_rV, w_rI, w_rR, w_rL, w_dI, w_sO, w_sq, w_si, w_pI, w_pZ, w_pR, w_pU, w_qI, w_qB, w_qZ, w_qU, w_qR, w_kV, q_icst, q_lcst, q_xR, q_ldI, q_ldR, q_ldL, q_bn, q_un, q_dv, q_fI, q_fR, q_aI, q_aR, q_aN, q_tn, q_cmp, q_cmz, q_cnt, q_ctt, q_cand, q_cor, q_vn, q_vI, q_vR, q_vL, q_kI, q_kR, q_kL, q_ckI, envN, argE, List.flatMap_cons, List.flatMap_nil, Value.category, junk, oadd, osub, omul, oand, oor, oxor, odiv, orem, oshl, oshr, oushr, omax, omin]
    simp [rok, rcv, fq_of (e_x_isWithin _ _ _ _), fq_of (e_x_isLand _ _), nog, b2_0]
    grind
theorem e_m_sends (a b c : Int32) (h : Hp) (hp : Ip h) : F_X11_sends [.ref 166, .int a, .int b, .int c] h = if (0 ≤ a ∧ a ≤ 5) ∧ (0 ≤ b ∧ b ≤ 8) ∧ (0 ≤ c ∧ c ≤ 5) then some (some (.int 1), wI h 181 (9 * a.toNatClampNeg + b.toNatClampNeg) c) else some (some (.int 0), h) := by
  have hn := hp.1
  have hm := hp.2.2
  by_cases hc : (0 ≤ a ∧ a ≤ 5) ∧ (0 ≤ b ∧ b ≤ 8) ∧ (0 ≤ c ∧ c ≤ 5)
  · obtain ⟨l, hl, rfl⟩ := nI_in2 (m := 5) rfl hc.1.1 hc.1.2
    obtain ⟨k, hk, rfl⟩ := nI_in2 (m := 8) rfl hc.2.1.1 hc.2.1.2
    apply eq_of_fq
    unfold F_X11_sends
    simp only [f_mkF, w_sI, w_sR, w_sL, w_sC, w_sk, w_sbr, w_sco, w_rV, w_rI, w_rR, w_rL, w_dI, w_sO, w_sq, w_si, w_pI, w_pZ, w_pR, w_pU, w_qI, w_qB, w_qZ, w_qU, w_qR, w_kV, q_icst, q_lcst, q_xR, q_ldI, q_ldR, q_ldL, q_bn, q_un, q_dv, q_fI, q_fR, q_aI, q_aR, q_aN, q_tn, q_cmp, q_cmz, q_cnt, q_ctt, q_cand, q_cor, q_vn, q_vI, q_vR, q_vL, q_kI, q_kR, q_kL, q_ckI, envN, argE, List.flatMap_cons, List.flatMap_nil, Value.category, junk, oadd, osub, omul, oand, oor, oxor, odiv, orem, oshl, oshr, oushr, omax, omin]
    simp (disch := first | omega | simp) [rok, rcv, fq_of (e_m_in _ _ _ _), fq_of (e_m_isLand _ _), nog, hn, ly166, ly181, b2_0, wI_1, hm 17, mp, inI_b, nI_clamp, hc, nI_9, nI_add]
    omega
  · apply eq_of_fq
    unfold F_X11_sends
    simp only [f_mkF, w_sI, w_sR, w_sL, w_sC, w_sk, w_sbr, w_sco, w_rV, w_rI, w_rR, w_rL, w_dI, w_sO, w_sq, w_si, w_pI, w_pZ, w_pR, w_pU, w_qI, w_qB, w_qZ, w_qU, w_qR, w_kV, q_icst, q_lcst, q_xR, q_ldI, q_ldR, q_ldL, q_bn, q_un, q_dv, q_fI, q_fR, q_aI, q_aR, q_aN, q_tn, q_cmp, q_cmz, q_cnt, q_ctt, q_cand, q_cor, q_vn, q_vI, q_vR, q_vL, q_kI, q_kR, q_kL, q_ckI, envN, argE, List.flatMap_cons, List.flatMap_nil, Value.category, junk, oadd, osub, omul, oand, oor, oxor, odiv, orem, oshl, oshr, oushr, omax, omin]
    simp [rok, rcv, fq_of (e_m_in _ _ _ _), fq_of (e_m_isLand _ _), nog, b2_0]
    grind
theorem g_sends {LW : Hp → Prop} (hW : LWok LW) : AG (INV LW) F_X10_sends F_X11_sends 3 := by
  intro n h vs hl hn q
  match vs, hl with
  | [a, b, c], _ =>
    have q' := q
    obtain ⟨q0, q1, q2, q3, q4, q5, q6, q7, q8, q9, q10⟩ := q
    have e1 := e_x_sends a b c h q0
    by_cases hc : (0 ≤ a ∧ a ≤ 5) ∧ (0 ≤ b ∧ b ≤ 8) ∧ (0 ≤ c ∧ c ≤ 5)
    · rw [if_pos hc] at e1
      have c1 : 0 ≤ c.toInt := Int32.le_iff_toInt_le.mp hc.2.2.1
      have c2 : c.toInt ≤ 5 := Int32.le_iff_toInt_le.mp hc.2.2.2
      have e2 := e_m_sends a b c (wI h (6 + a.toNatClampNeg) b.toNatClampNeg c) (Ip_c rfl rfl q0)
      rw [if_pos hc] at e2
      obtain ⟨l, hl, rfl⟩ := nI_in2 (m := 5) rfl hc.1.1 hc.1.2
      obtain ⟨k, hk, rfl⟩ := nI_in2 (m := 8) rfl hc.2.1.1 hc.2.1.2
      rw [nI_clamp (by omega), nI_clamp (by omega)] at e1
      rw [nI_clamp (by omega), nI_clamp (by omega)] at e2
      refine ⟨_, _, _, e1, q0.1, e2, Ip_c rfl rfl q0, Iclk_c (same_w (same_w same_0 ?_) ?_) q1, Iper_c (same_w (same_w same_0 ?_) ?_) q2, ?isen, Iroa_c (same_w (same_w same_0 ?_) ?_) q4, Itap_c (same_w (same_w same_0 ?_) ?_) q5, Ithi_c (same_w (same_w same_0 ?_) ?_) ?hn q6, Irow_c (same_w (same_w same_0 ?_) ?_) (sameR_of rfl) ?hn ?hw q7, Icla_c (same_w (same_w same_0 ?_) ?_) (sameR_of rfl) q8, hW _ _ (same_w (same_w same_0 ?_) ?_) (sameR_of rfl) q9, Icou_c (same_w (same_w same_0 ?_) ?_) q10⟩
      case hn => simp only [wI_i]; rw [if_neg (by omega), if_neg (by omega)]; exact Int.le_refl _
      case hw => simp only [wI_i]; rw [if_neg (by omega), if_neg (by omega)]; exact Int.le_refl _
      case isen =>
        intro x y hx hy
        have z := q3 x y hx hy
        simp only [wI_i]
        rw [if_neg (by omega : ¬ (181 = 6 + l ∧ 9 * x + y = k))]
        rw [if_neg (by omega : ¬ (6 + x = 181 ∧ y = 9 * l + k))]
        by_cases hxy : x = l ∧ y = k
        · obtain ⟨rfl, rfl⟩ := hxy
          simp [c1, c2]
        · rw [if_neg (by omega), if_neg (by omega)]
          exact z
      all_goals (simp only [Sclk, Sper, Ssen, Sroa, Stap, Sthi, Srow, Slaw, Scou]; omega)
    · rw [if_neg hc] at e1
      have e2 := e_m_sends a b c h q0
      rw [if_neg hc] at e2
      exact ⟨0, _, _, e1, q0.1, e2, INV_up q'⟩
theorem e_x_build (a b : Nat) (c : Int32) (h : Hp) (hp : Ip h) (ha : a < 6) (hb : b < 6) : F_X7_build [.ref 14, .int (nI a), .int (nI b), .int c] h = some (none, wI (wI h (16 + a) b c) (16 + b) a c) := by
  have hn := hp.1
  have p4 : h.2.2 14 0 = some 15 := hp.2.1.at 22 rfl
  obtain ⟨s1, s2⟩ := ptC hp ha
  obtain ⟨s4, s5⟩ := ptC hp hb
  have s3 : 16 + a < 212 := by omega
  have s6 : 16 + b < 212 := by omega
  rw [← fq_eq]
  unfold F_X7_build
  simp only [f_mkF, w_sI, w_sR, w_sL, w_sC, w_sk, w_sbr, w_sco, w_rV, w_rI, w_rR, w_rL, w_dI, w_sO, w_sq, w_si, w_pI, w_pZ, w_pR, w_pU, w_qI, w_qB, w_qZ, w_qU, w_qR, w_kV, q_icst, q_lcst, q_xR, q_ldI, q_ldR, q_ldL, q_bn, q_un, q_dv, q_fI, q_fR, q_aI, q_aR, q_aN, q_tn, q_cmp, q_cmz, q_cnt, q_ctt, q_cand, q_cor, q_vn, q_vI, q_vR, q_vL, q_kI, q_kR, q_kL, q_ckI, envN, argE, List.flatMap_cons, List.flatMap_nil, Value.category, junk, oadd, osub, omul, oand, oor, oxor, odiv, orem, oshl, oshr, oushr, omax, omin]
  simp (disch := first | omega | simp) [rok, rcv, nog, hn, ly14, ly15, wI_1, wI_r, p4, s1, s2, s3, s4, s5, s6, inI_b, nI_clamp, nI_ltI, nI_leI, nI_eq, nI_9, nI_6, nI_22, nI_12, nI_180, nI_add, nI_1]
  omega
theorem e_x_road (a b c : Int32) (h : Hp) (hp : Ip h) : F_X10_road [.ref 0, .int a, .int b, .int c] h = if (0 ≤ a ∧ a ≤ 5) ∧ (0 ≤ b ∧ b ≤ 5) ∧ a ≠ b ∧ (0 ≤ c ∧ c ≤ 10000) then some (some (.int 1), wI (wI h (16 + a.toNatClampNeg) b.toNatClampNeg c) (16 + b.toNatClampNeg) a.toNatClampNeg c) else some (some (.int 0), h) := by
  have hn := hp.1
  have p7 : h.2.2 0 7 = some 14 := hp.2.1.at 7 rfl
  by_cases hc : (0 ≤ a ∧ a ≤ 5) ∧ (0 ≤ b ∧ b ≤ 5) ∧ a ≠ b ∧ (0 ≤ c ∧ c ≤ 10000)
  · obtain ⟨l, hl, rfl⟩ := nI_in2 (m := 5) rfl hc.1.1 hc.1.2
    obtain ⟨k, hk, rfl⟩ := nI_in2 (m := 5) rfl hc.2.1.1 hc.2.1.2
    apply eq_of_fq
    unfold F_X10_road
    simp only [f_mkF, w_sI, w_sR, w_sL, w_sC, w_sk, w_sbr, w_sco, w_rV, w_rI, w_rR, w_rL, w_dI, w_sO, w_sq, w_si, w_pI, w_pZ, w_pR, w_pU, w_qI, w_qB, w_qZ, w_qU, w_qR, w_kV, q_icst, q_lcst, q_xR, q_ldI, q_ldR, q_ldL, q_bn, q_un, q_dv, q_fI, q_fR, q_aI, q_aR, q_aN, q_tn, q_cmp, q_cmz, q_cnt, q_ctt, q_cand, q_cor, q_vn, q_vI, q_vR, q_vL, q_kI, q_kR, q_kL, q_ckI, envN, argE, List.flatMap_cons, List.flatMap_nil, Value.category, junk, oadd, osub, omul, oand, oor, oxor, odiv, orem, oshl, oshr, oushr, omax, omin]
    simp (disch := first | omega | simp) [rok, rcv, fq_of (e_x_isWithin _ _ _ _), fq_of (e_x_isLand _ _), fq_of (e_x_build l k c h hp (by omega) (by omega)), nog, hn, ly0, ly14, b2_0, wI_1, p7, nI_clamp, hc]
  · apply eq_of_fq
    unfold F_X10_road
    simp only [f_mkF, w_sI, w_sR, w_sL, w_sC, w_sk, w_sbr, w_sco, w_rV, w_rI, w_rR, w_rL, w_dI, w_sO, w_sq, w_si, w_pI, w_pZ, w_pR, w_pU, w_qI, w_qB, w_qZ, w_qU, w_qR, w_kV, q_icst, q_lcst, q_xR, q_ldI, q_ldR, q_ldL, q_bn, q_un, q_dv, q_fI, q_fR, q_aI, q_aR, q_aN, q_tn, q_cmp, q_cmz, q_cnt, q_ctt, q_cand, q_cor, q_vn, q_vI, q_vR, q_vL, q_kI, q_kR, q_kL, q_ckI, envN, argE, List.flatMap_cons, List.flatMap_nil, Value.category, junk, oadd, osub, omul, oand, oor, oxor, odiv, orem, oshl, oshr, oushr, omax, omin]
    simp [rok, rcv, fq_of (e_x_isWithin _ _ _ _), fq_of (e_x_isLand _ _), nog, b2_0]
    grind
theorem e_m_road (a b c : Int32) (h : Hp) (hp : Ip h) : F_X11_road [.ref 166, .int a, .int b, .int c] h = if (0 ≤ a ∧ a ≤ 5) ∧ (0 ≤ b ∧ b ≤ 5) ∧ a ≠ b ∧ (0 ≤ c ∧ c ≤ 10000) then some (some (.int 1), wI (wI h 182 (6 * a.toNatClampNeg + b.toNatClampNeg) c) 182 (6 * b.toNatClampNeg + a.toNatClampNeg) c) else some (some (.int 0), h) := by
  have hn := hp.1
  have hm := hp.2.2
  by_cases hc : (0 ≤ a ∧ a ≤ 5) ∧ (0 ≤ b ∧ b ≤ 5) ∧ a ≠ b ∧ (0 ≤ c ∧ c ≤ 10000)
  · obtain ⟨l, hl, rfl⟩ := nI_in2 (m := 5) rfl hc.1.1 hc.1.2
    obtain ⟨k, hk, rfl⟩ := nI_in2 (m := 5) rfl hc.2.1.1 hc.2.1.2
    apply eq_of_fq
    unfold F_X11_road
    simp only [f_mkF, w_sI, w_sR, w_sL, w_sC, w_sk, w_sbr, w_sco, w_rV, w_rI, w_rR, w_rL, w_dI, w_sO, w_sq, w_si, w_pI, w_pZ, w_pR, w_pU, w_qI, w_qB, w_qZ, w_qU, w_qR, w_kV, q_icst, q_lcst, q_xR, q_ldI, q_ldR, q_ldL, q_bn, q_un, q_dv, q_fI, q_fR, q_aI, q_aR, q_aN, q_tn, q_cmp, q_cmz, q_cnt, q_ctt, q_cand, q_cor, q_vn, q_vI, q_vR, q_vL, q_kI, q_kR, q_kL, q_ckI, envN, argE, List.flatMap_cons, List.flatMap_nil, Value.category, junk, oadd, osub, omul, oand, oor, oxor, odiv, orem, oshl, oshr, oushr, omax, omin]
    simp (disch := first | omega | simp) [rok, rcv, fq_of (e_m_in _ _ _ _), fq_of (e_m_isLand _ _), nog, hn, ly166, ly182, b2_0, wI_1, wI_r, hm 18, mp, hc, inI_b, nI_clamp, nI_6, nI_add]
    omega
  · apply eq_of_fq
    unfold F_X11_road
    simp only [f_mkF, w_sI, w_sR, w_sL, w_sC, w_sk, w_sbr, w_sco, w_rV, w_rI, w_rR, w_rL, w_dI, w_sO, w_sq, w_si, w_pI, w_pZ, w_pR, w_pU, w_qI, w_qB, w_qZ, w_qU, w_qR, w_kV, q_icst, q_lcst, q_xR, q_ldI, q_ldR, q_ldL, q_bn, q_un, q_dv, q_fI, q_fR, q_aI, q_aR, q_aN, q_tn, q_cmp, q_cmz, q_cnt, q_ctt, q_cand, q_cor, q_vn, q_vI, q_vR, q_vL, q_kI, q_kR, q_kL, q_ckI, envN, argE, List.flatMap_cons, List.flatMap_nil, Value.category, junk, oadd, osub, omul, oand, oor, oxor, odiv, orem, oshl, oshr, oushr, omax, omin]
    simp [rok, rcv, fq_of (e_m_in _ _ _ _), fq_of (e_m_isLand _ _), nog, b2_0]
    grind
theorem g_road {LW : Hp → Prop} (hW : LWok LW) : AG (INV LW) F_X10_road F_X11_road 3 := by
  intro n h vs hl hn q
  match vs, hl with
  | [a, b, c], _ =>
    have q' := q
    obtain ⟨q0, q1, q2, q3, q4, q5, q6, q7, q8, q9, q10⟩ := q
    have e1 := e_x_road a b c h q0
    by_cases hc : (0 ≤ a ∧ a ≤ 5) ∧ (0 ≤ b ∧ b ≤ 5) ∧ a ≠ b ∧ (0 ≤ c ∧ c ≤ 10000)
    · rw [if_pos hc] at e1
      have c1 : 0 ≤ c.toInt := Int32.le_iff_toInt_le.mp hc.2.2.2.1
      have c2 : c.toInt ≤ 10000 := Int32.le_iff_toInt_le.mp hc.2.2.2.2
      have e2 := e_m_road a b c (wI (wI h (16 + a.toNatClampNeg) b.toNatClampNeg c) (16 + b.toNatClampNeg) a.toNatClampNeg c) (Ip_c rfl rfl q0)
      rw [if_pos hc] at e2
      obtain ⟨l, hl, rfl⟩ := nI_in2 (m := 5) rfl hc.1.1 hc.1.2
      obtain ⟨k, hk, rfl⟩ := nI_in2 (m := 5) rfl hc.2.1.1 hc.2.1.2
      rw [nI_clamp (by omega), nI_clamp (by omega)] at e1
      rw [nI_clamp (by omega), nI_clamp (by omega)] at e2
      refine ⟨_, _, _, e1, q0.1, e2, Ip_c rfl rfl q0, Iclk_c (same_w (same_w (same_w (same_w same_0 ?_) ?_) ?_) ?_) q1, Iper_c (same_w (same_w (same_w (same_w same_0 ?_) ?_) ?_) ?_) q2, Isen_c (same_w (same_w (same_w (same_w same_0 ?_) ?_) ?_) ?_) q3, ?iroa, Itap_c (same_w (same_w (same_w (same_w same_0 ?_) ?_) ?_) ?_) q5, Ithi_c (same_w (same_w (same_w (same_w same_0 ?_) ?_) ?_) ?_) ?hn q6, Irow_c (same_w (same_w (same_w (same_w same_0 ?_) ?_) ?_) ?_) (sameR_of rfl) ?hn ?hw q7, Icla_c (same_w (same_w (same_w (same_w same_0 ?_) ?_) ?_) ?_) (sameR_of rfl) q8, hW _ _ (same_w (same_w (same_w (same_w same_0 ?_) ?_) ?_) ?_) (sameR_of rfl) q9, Icou_c (same_w (same_w (same_w (same_w same_0 ?_) ?_) ?_) ?_) q10⟩
      case hn => simp only [wI_i]; rw [if_neg (by omega), if_neg (by omega), if_neg (by omega), if_neg (by omega)]; exact Int.le_refl _
      case hw => simp only [wI_i]; rw [if_neg (by omega), if_neg (by omega), if_neg (by omega), if_neg (by omega)]; exact Int.le_refl _
      case iroa =>
        intro x y hx hy
        have z := q4 x y hx hy
        have k1 : ∀ u v, ¬ (16 + x = 182 ∧ y = 6 * u + v) := by omega
        have k2 : ∀ u v, u ≤ 5 → ¬ (182 = 16 + u ∧ 6 * x + y = v) := by omega
        have k3 : ∀ u v, v ≤ 5 → ((6 * x + y = 6 * u + v) ↔ (x = u ∧ y = v)) := by omega
        have k4 : ∀ u v, ((16 + x = 16 + u ∧ y = v) ↔ (x = u ∧ y = v)) := by omega
        simp only [wI_i, k1, k2 k l (by omega), k2 l k (by omega), k3 l k (by omega), k3 k l (by omega), k4, if_false, true_and]
        split
        · exact ⟨rfl, by omega, c2⟩
        · split
          · exact ⟨rfl, by omega, c2⟩
          · exact z
      all_goals (simp only [Sclk, Sper, Ssen, Sroa, Stap, Sthi, Srow, Slaw, Scou]; omega)
    · rw [if_neg hc] at e1
      have e2 := e_m_road a b c h q0
      rw [if_neg hc] at e2
      exact ⟨0, _, _, e1, q0.1, e2, INV_up q'⟩
