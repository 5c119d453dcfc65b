/-! passing: where it belongs, and the reference's moves -/
theorem plc_hi {R : Nat → Nat → Int32} {m : Int32} {n i : Nat} (h1 : plc R m n ≤ i) (h2 : i < n) : m < R i 3 := by
  induction n with
  | zero => omega
  | succ k ih =>
    unfold plc at h1
    split at h1
    · rename_i hc
      by_cases hik : i = k
      · rw [hik]; exact hc
      · exact ih h1 (by omega)
    · omega
theorem plc_lo {R : Nat → Nat → Int32} {m : Int32} {n : Nat} (h : 0 < plc R m n) : R (plc R m n - 1) 3 ≤ m := by
  induction n with
  | zero => simp [plc] at h
  | succ k ih =>
    unfold plc at h ⊢
    split
    · rename_i hc
      rw [if_pos hc] at h
      exact ih h
    · rename_i hc
      exact Int32.not_lt.mp hc
theorem mono_of {R : Nat → Nat → Int32} {n : Nat} (hs : ∀ i, i + 1 < n → (R i 3).toInt ≤ (R (i + 1) 3).toInt) {i j : Nat} (hij : i ≤ j) (hj : j < n) : (R i 3).toInt ≤ (R j 3).toInt := by
  induction j with
  | zero =>
    have : i = 0 := by omega
    rw [this]
    exact Int.le_refl _
  | succ j ih =>
    by_cases h : i = j + 1
    · rw [h]; exact Int.le_refl _
    · have := ih (by omega) (by omega)
      have := hs j hj
      omega
theorem plc_lo2 {R : Nat → Nat → Int32} {m : Int32} {n : Nat} (hs : ∀ i, i + 1 < n → (R i 3).toInt ≤ (R (i + 1) 3).toInt) {i : Nat} (hi : i < plc R m n) : R i 3 ≤ m := by
  have h1 := plc_lo (R := R) (m := m) (n := n) (by omega)
  have h2 := plc_le R m n
  have h3 := mono_of hs (i := i) (j := plc R m n - 1) (by omega) (by omega)
  rw [Int32.le_iff_toInt_le] at h1 ⊢
  omega
theorem w_mv {h : Hp} {f A x y : Nat} {b : Sm} {Q : Nat → Value → En → Hp → Prop} (hn : h.1 = 212) (hA : h.2.2 166 f = some A) (hA2 : A < 212) (hL : LY A = (13, 88)) (hx : x < 88) (hy : y < 88) : wp (sq (qI 13 (fR 11 f (ldR 0)) (ldI 2) (aI 13 (fR 11 f (ldR 0)) (ldI 1))) b) [.ref 166, .int (nI x), .int (nI y)] h Q ↔ wp b [.ref 166, .int (nI x), .int (nI y)] (wI h A y (h.2.1 A x)) Q := by
  have i1 : inI (nI x) 88 = true := by rw [inI_b (by omega)]; simp [hx]
  have i2 : inI (nI y) 88 = true := by rw [inI_b (by omega)]; simp [hy]
  simp only [f_mkF, w_sI, w_sR, w_sL, w_sC, w_sk, w_sbr, w_sco, w_rV, w_rI, w_rR, w_rL, w_dI, w_sO, w_sq, w_si, w_pI, w_pZ, w_pR, w_pU, w_qI, w_qB, w_qZ, w_qU, w_qR, w_kV, q_icst, q_lcst, q_xR, q_ldI, q_ldR, q_ldL, q_bn, q_un, q_dv, q_fI, q_fR, q_aI, q_aR, q_aN, q_tn, q_cmp, q_cmz, q_cnt, q_ctt, q_cand, q_cor, q_vn, q_vI, q_vR, q_vL, q_kI, q_kR, q_kL, q_ckI, envN, argE, List.flatMap_cons, List.flatMap_nil, Value.category, junk, oadd, osub, omul, oand, oor, oxor, odiv, orem, oshl, oshr, oushr, omax, omin]
  simp [hn, hA, hA2, hL, ly166, i1, i2, nI_clamp (show x < 2 ^ 31 by omega), nI_clamp (show y < 2 ^ 31 by omega)]
theorem e_m_moves {h : Hp} (hp : Ip h) {x y : Nat} (hx : x < 88) (hy : y < 88) (hxy : x ≠ y) : fq F_X11_moves [.ref 166, .int (nI x), .int (nI y)] h fun r h' => r = none ∧ h'.1 = h.1 ∧ h'.2.2 = h.2.2 ∧ (∀ k, k < 8 → h'.2.1 (173 + k) y = h.2.1 (173 + k) x) ∧ ∀ a j, ¬ (173 ≤ a ∧ a < 181 ∧ j = y) → h'.2.1 a j = h.2.1 a j := by
  have hn := hp.1
  have hm := hp.2.2
  unfold F_X11_moves
  rw [f_mkF]
  refine ⟨by simp [argE, Value.category], ?_⟩
  rw [show envN 3 [Value.ref 166, Value.int (nI x), Value.int (nI y)] = [Value.ref 166, Value.int (nI x), Value.int (nI y)] from rfl]
  refine (w_mv (A := 173) (by exact hn) (by exact hm 9) (by decide) rfl hx hy).mpr ?_
  refine (w_mv (A := 174) (by exact hn) (by exact hm 10) (by decide) rfl hx hy).mpr ?_
  refine (w_mv (A := 175) (by exact hn) (by exact hm 11) (by decide) rfl hx hy).mpr ?_
  refine (w_mv (A := 176) (by exact hn) (by exact hm 12) (by decide) rfl hx hy).mpr ?_
  refine (w_mv (A := 177) (by exact hn) (by exact hm 13) (by decide) rfl hx hy).mpr ?_
  refine (w_mv (A := 178) (by exact hn) (by exact hm 14) (by decide) rfl hx hy).mpr ?_
  refine (w_mv (A := 179) (by exact hn) (by exact hm 15) (by decide) rfl hx hy).mpr ?_
  refine (w_mv (A := 180) (by exact hn) (by exact hm 16) (by decide) rfl hx hy).mpr ?_
  rw [w_rV]
  refine Or.inl ⟨rfl, rfl, rfl, rfl, rfl, fun k hk => ?_, fun a j hj => ?_⟩
  · match k, hk with
    | 0, _ => simp [wI_i]
    | 1, _ => simp [wI_i]
    | 2, _ => simp [wI_i]
    | 3, _ => simp [wI_i]
    | 4, _ => simp [wI_i]
    | 5, _ => simp [wI_i]
    | 6, _ => simp [wI_i]
    | 7, _ => simp [wI_i]
  · rw [wI_i, if_neg (by omega), wI_i, if_neg (by omega), wI_i, if_neg (by omega), wI_i, if_neg (by omega), wI_i, if_neg (by omega), wI_i, if_neg (by omega), wI_i, if_neg (by omega), wI_i, if_neg (by omega)]
def r8 (a b c d e f g i : Int32) : Nat → Int32
  | 0 => a
  | 1 => b
  | 2 => c
  | 3 => d
  | 4 => e
  | 5 => f
  | 6 => g
  | _ => i
theorem e_m_puts {h : Hp} (hp : Ip h) {y : Nat} (hy : y < 88) (a b c d e f g i : Int32) : fq F_X11_puts [.ref 166, .int (nI y), .int a, .int b, .int c, .int d, .int e, .int f, .int g, .int i] h fun r h' => r = none ∧ h'.1 = h.1 ∧ h'.2.2 = h.2.2 ∧ (∀ k, k < 8 → h'.2.1 (173 + k) y = r8 a b c d e f g i k) ∧ ∀ x j, ¬ (173 ≤ x ∧ x < 181 ∧ j = y) → h'.2.1 x j = h.2.1 x j := by
  have hn := hp.1
  have hm := hp.2.2
  unfold F_X11_puts
  simp only [f_mkF, w_sI, w_sR, w_sL, w_sC, w_sk, w_sbr, w_sco, w_rV, w_rI, w_rR, w_rL, w_dI, w_sO, w_sq, w_si, w_pI, w_pZ, w_pR, w_pU, w_qI, w_qB, w_qZ, w_qU, w_qR, w_kV, q_icst, q_lcst, q_xR, q_ldI, q_ldR, q_ldL, q_bn, q_un, q_dv, q_fI, q_fR, q_aI, q_aR, q_aN, q_tn, q_cmp, q_cmz, q_cnt, q_ctt, q_cand, q_cor, q_vn, q_vI, q_vR, q_vL, q_kI, q_kR, q_kL, q_ckI, envN, argE, List.flatMap_cons, List.flatMap_nil, Value.category, junk, oadd, osub, omul, oand, oor, oxor, odiv, orem, oshl, oshr, oushr, omax, omin]
  have i2 : inI (nI y) 88 = true := by rw [inI_b (by omega)]; simp [hy]
  simp [rk_i, rk_b, rk_o, st1, kill, Value.category, rcv, nog, hn, ly166, ly173, ly174, ly175, ly176, ly177, ly178, ly179, ly180, hm 9, hm 10, hm 11, hm 12, hm 13, hm 14, hm 15, hm 16, mp, i2, wI_1, wI_r, nI_clamp (show y < 2 ^ 31 by omega), wI_i]
  refine ⟨fun k hk => ?_, fun x j hj => ?_⟩
  · match k, hk with
    | 0, _ => simp [r8]
    | 1, _ => simp [r8]
    | 2, _ => simp [r8]
    | 3, _ => simp [r8]
    | 4, _ => simp [r8]
    | 5, _ => simp [r8]
    | 6, _ => simp [r8]
    | 7, _ => simp [r8]
  · rw [if_neg (by omega), if_neg (by omega), if_neg (by omega), if_neg (by omega), if_neg (by omega), if_neg (by omega), if_neg (by omega), if_neg (by omega)]
