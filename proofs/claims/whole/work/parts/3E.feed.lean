/-! feed: four bytes a number -/
def bt (v : Int32) : Nat → Int32
  | 0 => (oi2b (oshr v 24)).toInt8.toInt32
  | 1 => (oi2b (oshr v 16)).toInt8.toInt32
  | 2 => (oi2b (oshr v 8)).toInt8.toInt32
  | _ => (oi2b (oshr v 0)).toInt8.toInt32
def FD (a b k L : Nat) (v : Int32) (j : Nat) (h h' : Hp) : Prop := h'.1 = h.1 ∧ h'.2.2 = h.2.2 ∧ h'.2.1 b k = nI (L + j) ∧ (∀ x y, ¬ (x = b ∧ y = k) → ¬ (x = a ∧ L ≤ y ∧ y < L + j) → h'.2.1 x y = h.2.1 x y) ∧ ∀ x, x < j → h'.2.1 a (L + x) = bt v x
theorem FD_step {a b k L : Nat} {v : Int32} {j : Nat} {h h' : Hp} (hab : a ≠ b) (q : FD a b k L v j h h') : FD a b k L v (j + 1) h (wI (wI h' a (L + j) (bt v j)) b k (nI (L + j) + 1)) := by
  obtain ⟨q1, q2, q3, q4, q5⟩ := q
  refine ⟨q1, q2, ?_, fun x y h1 h2 => ?_, fun x hx => ?_⟩
  · rw [wI_i, if_pos ⟨rfl, rfl⟩, nI_1]
    rfl
  · rw [wI_i, if_neg h1, wI_i, if_neg (by omega)]
    exact q4 x y h1 (by omega)
  · rw [wI_i, if_neg (by omega), wI_i]
    by_cases hxj : x = j
    · rw [if_pos (by omega), hxj]
    · rw [if_neg (by omega)]
      exact q5 x (by omega)
def shx : Nat → Int32
  | 0 => 24
  | 1 => 16
  | 2 => 8
  | 3 => 0
  | _ => -8
def shm : Nat → Int32
  | 0 => 3
  | 1 => 2
  | 2 => 1
  | 3 => 0
  | _ => -1
theorem s_x (v : Int32) {j : Nat} (hj : j < 4) : (oi2b (oushr v (shx j))).toInt8.toInt32 = bt v j ∧ ¬ shx j < 0 ∧ shx j + -8 = shx (j + 1) := by
  match j, hj with
  | 0, _ => exact ⟨byte_24 v, by decide, by decide⟩
  | 1, _ => exact ⟨byte_16 v, by decide, by decide⟩
  | 2, _ => exact ⟨byte_8 v, by decide, by decide⟩
  | 3, _ => exact ⟨byte_0 v, by decide, by decide⟩
theorem s_m (v : Int32) {j : Nat} (hj : j < 4) : (oi2b (oshr v (8 * shm j))).toInt8.toInt32 = bt v j ∧ ¬ shm j < 0 ∧ shm j + -1 = shm (j + 1) := by
  match j, hj with
  | 0, _ => exact ⟨rfl, by decide, by decide⟩
  | 1, _ => exact ⟨rfl, by decide, by decide⟩
  | 2, _ => exact ⟨rfl, by decide, by decide⟩
  | 3, _ => exact ⟨rfl, by decide, by decide⟩
theorem e_x_put {h : Hp} (hp : Ip h) {L : Nat} (v : Int32) (hL : L + 4 ≤ 200) (hc : h.2.1 12 1 = nI L) : fq F_X8_put [.ref 12, .int v] h fun r h' => r = none ∧ FD 13 12 1 L v 4 h h' := by
  have hn := hp.1
  have v0 : h.2.2 12 0 = some 13 := hp.2.1.at 21 rfl
  unfold F_X8_put
  simp only [f_mkF, w_sI, w_sR, w_sL, w_sC, w_sk, w_sbr, w_sco, w_rV, w_rI, w_rR, w_rL, w_dI, w_sO, w_sq, w_si, w_pI, w_pZ, w_pR, w_pU, w_qI, w_qB, w_qZ, w_qU, w_qR, w_kV, q_icst, q_lcst, q_xR, q_ldI, q_ldR, q_ldL, q_bn, q_un, q_dv, q_fI, q_fR, q_aI, q_aR, q_aN, q_tn, q_cmp, q_cmz, q_cnt, q_ctt, q_cand, q_cor, q_vn, q_vI, q_vR, q_vL, q_kI, q_kR, q_kL, q_ckI, envN, argE, List.flatMap_cons, List.flatMap_nil, Value.category, junk, oadd, osub, omul, oand, oor, oxor, odiv, orem, oshl, omax, omin]
  simp [rk_i, rk_b, rk_o, st1, kill, Value.category, rcv, nog]
  refine w_lp (fun k E h' => ∃ j, j ≤ 4 ∧ k = 4 - j ∧ E = [.ref 12, .int v, .int (shx j)] ∧ FD 13 12 1 L v j h h') ?_ 4 _ _ ⟨0, by omega, rfl, rfl, rfl, rfl, hc, fun _ _ _ _ => rfl, fun x hx => by omega⟩
  rintro k E h' ⟨j, hj, rfl, rfl, f⟩
  have k200 : (200 : Int32) = nI 200 := rfl
  have g1 : h'.1 = 212 := f.1.trans hn
  have g2 : h'.2.2 12 0 = some 13 := by rw [f.2.1]; exact v0
  have g3 := f.2.2.1
  have gs := FD_step (by decide) f
  simp only [f_mkF, w_sI, w_sR, w_sL, w_sC, w_sk, w_sbr, w_sco, w_rV, w_rI, w_rR, w_rL, w_dI, w_sO, w_sq, w_si, w_pI, w_pZ, w_pR, w_pU, w_qI, w_qB, w_qZ, w_qU, w_qR, w_kV, q_icst, q_lcst, q_xR, q_ldI, q_ldR, q_ldL, q_bn, q_un, q_dv, q_fI, q_fR, q_aI, q_aR, q_aN, q_tn, q_cmp, q_cmz, q_cnt, q_ctt, q_cand, q_cor, q_vn, q_vI, q_vR, q_vL, q_kI, q_kR, q_kL, q_ckI, envN, argE, List.flatMap_cons, List.flatMap_nil, Value.category, junk, oadd, osub, omul, oand, oor, oxor, odiv, orem, oshl, omax, omin]
  by_cases hj4 : j < 4
  · obtain ⟨s1, s2, s3⟩ := s_x v hj4
    have g5 : inI (nI (L + j)) 200 = true := by rw [inI_b (by omega)]; simp; omega
    have g6 : nI (L + j) < 200 := by rw [k200, nI_ltI (by omega) (by omega)]; omega
    have g7 : (nI (L + j)).toNatClampNeg = L + j := nI_clamp (by omega)
    have g8 : 0 ≤ shx j := Int32.not_lt.mp s2
    have g9 : ¬ 200 ≤ nI (L + j) := Int32.not_le.mpr g6
    have s4 : (oushr v (shx j)).toInt8.toInt32 = bt v j := by rw [← s1]; simp [oi2b]
    simp [rk_i, rk_b, rk_o, st1, kill, Value.category, rcv, nog, g1, g2, g3, ly12, ly13, zlt, wI_1, wI_r, wI_i, g5, g6, g7, g8, s2, s4, s3, g9]
    exact ⟨4 - (j + 1), by omega, j + 1, by omega, rfl, rfl, gs⟩
  · have : j = 4 := by omega
    subst this
    simp [rk_i, rk_b, rk_o, st1, kill, Value.category, rcv, nog, shx, zlt, f]
theorem e_m_types {h : Hp} (hp : Ip h) {L : Nat} (v : Int32) (hL : L + 4 ≤ 200) (hc : h.2.1 166 20 = nI L) : fq F_X11_types [.ref 166, .int v] h fun r h' => r = none ∧ FD 183 166 20 L v 4 h h' := by
  have hn := hp.1
  have v0 : h.2.2 166 19 = some 183 := hp.2.2 19
  unfold F_X11_types
  simp only [f_mkF, w_sI, w_sR, w_sL, w_sC, w_sk, w_sbr, w_sco, w_rV, w_rI, w_rR, w_rL, w_dI, w_sO, w_sq, w_si, w_pI, w_pZ, w_pR, w_pU, w_qI, w_qB, w_qZ, w_qU, w_qR, w_kV, q_icst, q_lcst, q_xR, q_ldI, q_ldR, q_ldL, q_bn, q_un, q_dv, q_fI, q_fR, q_aI, q_aR, q_aN, q_tn, q_cmp, q_cmz, q_cnt, q_ctt, q_cand, q_cor, q_vn, q_vI, q_vR, q_vL, q_kI, q_kR, q_kL, q_ckI, envN, argE, List.flatMap_cons, List.flatMap_nil, Value.category, junk, oadd, osub, omul, oand, oor, oxor, odiv, orem, oshl, omax, omin]
  simp [rk_i, rk_b, rk_o, st1, kill, Value.category, rcv, nog]
  refine w_lp (fun k E h' => ∃ j, j ≤ 4 ∧ k = 4 - j ∧ E = [.ref 166, .int v, .int (shm j)] ∧ FD 183 166 20 L v j h h') ?_ 4 _ _ ⟨0, by omega, rfl, rfl, rfl, rfl, hc, fun _ _ _ _ => rfl, fun x hx => by omega⟩
  rintro k E h' ⟨j, hj, rfl, rfl, f⟩
  have g1 : h'.1 = 212 := f.1.trans hn
  have g2 : h'.2.2 166 19 = some 183 := by rw [f.2.1]; exact v0
  have g3 := f.2.2.1
  have gs := FD_step (by decide) f
  simp only [f_mkF, w_sI, w_sR, w_sL, w_sC, w_sk, w_sbr, w_sco, w_rV, w_rI, w_rR, w_rL, w_dI, w_sO, w_sq, w_si, w_pI, w_pZ, w_pR, w_pU, w_qI, w_qB, w_qZ, w_qU, w_qR, w_kV, q_icst, q_lcst, q_xR, q_ldI, q_ldR, q_ldL, q_bn, q_un, q_dv, q_fI, q_fR, q_aI, q_aR, q_aN, q_tn, q_cmp, q_cmz, q_cnt, q_ctt, q_cand, q_cor, q_vn, q_vI, q_vR, q_vL, q_kI, q_kR, q_kL, q_ckI, envN, argE, List.flatMap_cons, List.flatMap_nil, Value.category, junk, oadd, osub, omul, oand, oor, oxor, odiv, orem, oshl, omax, omin]
  by_cases hj4 : j < 4
  · obtain ⟨s1, s2, s3⟩ := s_m v hj4
    have g5 : inI (nI (L + j)) 200 = true := by rw [inI_b (by omega)]; simp; omega
    have g7 : (nI (L + j)).toNatClampNeg = L + j := nI_clamp (by omega)
    have s4 : (oshr v (8 * shm j)).toInt8.toInt32 = bt v j := by rw [← s1]; simp [oi2b]
    have g8 : 0 ≤ shm j := Int32.not_lt.mp s2
    simp [rk_i, rk_b, rk_o, st1, kill, Value.category, rcv, nog, g1, g2, g3, ly166, ly183, zlt, wI_1, wI_r, wI_i, g5, g7, s2, s4, s3, g8]
    exact ⟨4 - (j + 1), by omega, j + 1, by omega, rfl, rfl, gs⟩
  · have : j = 4 := by omega
    subst this
    simp [rk_i, rk_b, rk_o, st1, kill, Value.category, rcv, nog, shm, zlt, f]
