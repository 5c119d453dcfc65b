/-! the class's court: one passing, then all -/
def stI (s : Nat) : Int32 := if s = 0 then -1 else nI (s - 1)
theorem stI_0 : stI 0 = -1 := rfl
theorem stI_s (k : Nat) : stI (k + 1) = nI k := rfl
theorem stI_m {s : Nat} (hs : s ≤ 100) : stI s = -1 ↔ s = 0 := by
  unfold stI
  split
  · rename_i h; simp [h]
  · rename_i h
    have := m1_ne (K := s - 1) (by omega)
    simp [this, h]
theorem x_own {w : Wd} {T : Nat} {ra : Nat → Nat} {h : Hp} (q : CX w T ra h) {i s : Nat} (hi : i ≤ W_n w) (hs : s ≤ W_n w + 1) : F_X1_ownerIn [.ref 147, .int (stI s), .int (nI i)] h = some (some (.int (own w s i)), h) := by
  obtain ⟨hn, a1, a2, a3, a4, a5, a6, a7⟩ := q.hd
  have n20 := q.wv.1
  have hm := stI_m (s := s) (by omega)
  rw [← fq_eq]
  unfold F_X1_ownerIn
  simp only [f_mkF, w_sI, w_sR, w_sL, w_sC, w_sk, w_sbr, w_sco, w_rV, w_rI, w_rR, w_rL, w_dI, w_sO, w_sq, w_si, w_pI, w_pZ, w_pR, w_pU, w_qI, w_qB, w_qZ, w_qU, w_qR, w_kV, q_icst, q_lcst, q_xR, q_ldI, q_ldR, q_ldL, q_bn, q_un, q_dv, q_fI, q_fR, q_aI, q_aR, q_aN, q_tn, q_cmp, q_cmz, q_cnt, q_ctt, q_cand, q_cor, q_vn, q_vI, q_vR, q_vL, q_kI, q_kR, q_kL, q_ckI, envN, argE, List.flatMap_cons, List.flatMap_nil, Value.category, junk, oadd, osub, omul, oand, oor, oxor, odiv, orem, oshl, oshr, oushr, omax, omin]
  by_cases hz : s = 0
  · subst hz
    simp (disch := first | omega | simp) [rk_i, rk_b, rk_o, st1, kill, Value.category, rcv, nog, hn, ly147, a1, a2, a4, stI_0, fq_of (q.fw (i := i) hi), own_0]
  · obtain ⟨k, rfl⟩ : ∃ k, s = k + 1 := ⟨s - 1, by omega⟩
    have hk : ¬ nI k = -1 := m1_ne (by omega)
    simp (disch := first | omega | simp) [rk_i, rk_b, rk_o, st1, kill, Value.category, rcv, nog, hn, ly147, a1, a2, a4, stI_s, hk, fq_of (q.fw (i := k) (by omega)), own_s]
theorem x_hand {w : Wd} {T : Nat} {ra : Nat → Nat} {h : Hp} (q : CX w T ra h) {sp : Nat} (hs1 : h.2.1 147 14 = nI sp) (hs2 : sp < 64) {i s : Nat} (hi : i < W_n w) (hsi : s ≤ i) (mind : Int32) : fq F_X1_handOver [.ref 147, .int (nI i), .int (stI s), .int mind] h fun r h' => r = some (.int (stI (hnd w sp i s mind))) ∧ Fr S9 h h' := by
  obtain ⟨hn, a1, a2, a3, a4, a5, a6, a7⟩ := q.hd
  obtain ⟨i20, b1, b2', b3, b4⟩ := q.row hi
  obtain ⟨k1, k2⟩ := q.kx hi
  obtain ⟨j2, j3, j4, j5⟩ := kd_2 _ k2
  have b40 := b4 0 (by omega)
  have b41 := b4 1 (by omega)
  rw [k1] at b40
  have hm := stI_m (s := s) (by omega)
  have hL : lft s i ≤ i := by unfold lft; split <;> omega
  have eg := x_gives q hs1 hs2 hi hL mind
  have hE : envN 8 [Value.ref 147, .int (nI i), .int (stI s), .int mind] = [Value.ref 147, .int (nI i), .int (stI s), .int mind, junk, junk, junk, junk] := rfl
  unfold F_X1_handOver
  refine f_mkE _ hE (by simp [argE, Value.category]) ?_
  (refine w_fz fun B hB C hC => ?_); (simp only [f_mkF, w_sI, w_sR, w_sL, w_sC, w_sk, w_sbr, w_sco, w_rV, w_rI, w_rR, w_rL, w_dI, w_sO, w_sq, w_si, w_pI, w_pZ, w_pR, w_pU, w_qI, w_qB, w_qZ, w_qU, w_qR, w_kV, q_icst, q_lcst, q_xR, q_ldI, q_ldR, q_ldL, q_bn, q_un, q_dv, q_fI, q_fR, q_aI, q_aR, q_aN, q_tn, q_cmp, q_cmz, q_cnt, q_ctt, q_cand, q_cor, q_vn, q_vI, q_vR, q_vL, q_kI, q_kR, q_kL, q_ckI, envN, argE, List.flatMap_cons, List.flatMap_nil, Value.category, junk, oadd, osub, omul, oand, oor, oxor, odiv, orem, oshl, oshr, oushr, omax, omin]); (simp (disch := first | omega | simp) [rk_i, rk_b, rk_o, st1, kill, Value.category, rcv, nog, inI_b, nI_clamp, nI_ltI, nI_leI, nI_eq, nI_9, nI_6, nI_22, nI_12, nI_180, nI_add, nI_1, hn, ly147, a1, a2, a3, a4, a5, a6, b1, i20]); (subst hB hC)
  refine w_sqI (nI (lft s i)) ?_ rfl ?_
  · simp only [f_mkF, w_sI, w_sR, w_sL, w_sC, w_sk, w_sbr, w_sco, w_rV, w_rI, w_rR, w_rL, w_dI, w_sO, w_sq, w_si, w_pI, w_pZ, w_pR, w_pU, w_qI, w_qB, w_qZ, w_qU, w_qR, w_kV, q_icst, q_lcst, q_xR, q_ldI, q_ldR, q_ldL, q_bn, q_un, q_dv, q_fI, q_fR, q_aI, q_aR, q_aN, q_tn, q_cmp, q_cmz, q_cnt, q_ctt, q_cand, q_cor, q_vn, q_vI, q_vR, q_vL, q_kI, q_kR, q_kL, q_ckI, envN, argE, List.flatMap_cons, List.flatMap_nil, Value.category, junk, oadd, osub, omul, oand, oor, oxor, odiv, orem, oshl, oshr, oushr, omax, omin]
    by_cases hz : s = 0
    · simp [hz, stI_0, lft_0]
    · have hk := m1_ne (K := s - 1) (by omega)
      simp [stI, hz, hk, lft_s hz]
  refine w_sqI (b2 (s = 0 ∧ kd w i ≤ 2)) ?_ rfl ?_
  · simp only [f_mkF, w_sI, w_sR, w_sL, w_sC, w_sk, w_sbr, w_sco, w_rV, w_rI, w_rR, w_rL, w_dI, w_sO, w_sq, w_si, w_pI, w_pZ, w_pR, w_pU, w_qI, w_qB, w_qZ, w_qU, w_qR, w_kV, q_icst, q_lcst, q_xR, q_ldI, q_ldR, q_ldL, q_bn, q_un, q_dv, q_fI, q_fR, q_aI, q_aR, q_aN, q_tn, q_cmp, q_cmz, q_cnt, q_ctt, q_cand, q_cor, q_vn, q_vI, q_vR, q_vL, q_kI, q_kR, q_kL, q_ckI, envN, argE, List.flatMap_cons, List.flatMap_nil, Value.category, junk, oadd, osub, omul, oand, oor, oxor, odiv, orem, oshl, oshr, oushr, omax, omin]
    rcases Nat.lt_or_ge 2 (kd w i) with z2 | z2
    · have z3 : ¬ kd w i ≤ 2 := by omega
      by_cases z1 : s = 0 <;> simp [rk_i, rk_b, rk_o, st1, kill, Value.category, rcv, nog, hm, hn, b2', b3, b40, j2, j3, b2, z1, z2, z3, stI_0]
    · have z3 : ¬ 2 < kd w i := by omega
      by_cases z1 : s = 0 <;> simp [rk_i, rk_b, rk_o, st1, kill, Value.category, rcv, nog, hm, hn, b2', b3, b40, j2, j3, b2, z1, z2, z3, stI_0]
  refine w_sqI (b2 (W_R w i 1 = frm (W_R w) (W_fo w) (lft s i))) ?_ rfl ?_
  · simp only [f_mkF, w_sI, w_sR, w_sL, w_sC, w_sk, w_sbr, w_sco, w_rV, w_rI, w_rR, w_rL, w_dI, w_sO, w_sq, w_si, w_pI, w_pZ, w_pR, w_pU, w_qI, w_qB, w_qZ, w_qU, w_qR, w_kV, q_icst, q_lcst, q_xR, q_ldI, q_ldR, q_ldL, q_bn, q_un, q_dv, q_fI, q_fR, q_aI, q_aR, q_aN, q_tn, q_cmp, q_cmz, q_cnt, q_ctt, q_cand, q_cor, q_vn, q_vI, q_vR, q_vL, q_kI, q_kR, q_kL, q_ckI, envN, argE, List.flatMap_cons, List.flatMap_nil, Value.category, junk, oadd, osub, omul, oand, oor, oxor, odiv, orem, oshl, oshr, oushr, omax, omin]
    simp [rk_i, rk_b, rk_o, st1, kill, Value.category, rcv, nog, hn, ly147, a1, a2, a4, b2', b3, b41, fq_of (q.fw (i := lft s i) (by omega)), b2]
    try grind
  unfold hnd
  by_cases hA : s = 0 ∧ kd w i ≤ 2
  · rw [if_pos (Or.inl hA)]
    simp only [f_mkF, w_sI, w_sR, w_sL, w_sC, w_sk, w_sbr, w_sco, w_rV, w_rI, w_rR, w_rL, w_dI, w_sO, w_sq, w_si, w_pI, w_pZ, w_pR, w_pU, w_qI, w_qB, w_qZ, w_qU, w_qR, w_kV, q_icst, q_lcst, q_xR, q_ldI, q_ldR, q_ldL, q_bn, q_un, q_dv, q_fI, q_fR, q_aI, q_aR, q_aN, q_tn, q_cmp, q_cmz, q_cnt, q_ctt, q_cand, q_cor, q_vn, q_vI, q_vR, q_vL, q_kI, q_kR, q_kL, q_ckI, envN, argE, List.flatMap_cons, List.flatMap_nil, Value.category, junk, oadd, osub, omul, oand, oor, oxor, odiv, orem, oshl, oshr, oushr, omax, omin]
    simp [rk_i, rk_b, rk_o, st1, kill, Value.category, rcv, nog, b2_t hA, stI_0, Fr.refl]
  · by_cases hB : W_R w i 1 = frm (W_R w) (W_fo w) (lft s i)
    · rw [if_pos (Or.inr (Or.inl hB))]
      simp only [f_mkF, w_sI, w_sR, w_sL, w_sC, w_sk, w_sbr, w_sco, w_rV, w_rI, w_rR, w_rL, w_dI, w_sO, w_sq, w_si, w_pI, w_pZ, w_pR, w_pU, w_qI, w_qB, w_qZ, w_qU, w_qR, w_kV, q_icst, q_lcst, q_xR, q_ldI, q_ldR, q_ldL, q_bn, q_un, q_dv, q_fI, q_fR, q_aI, q_aR, q_aN, q_tn, q_cmp, q_cmz, q_cnt, q_ctt, q_cand, q_cor, q_vn, q_vI, q_vR, q_vL, q_kI, q_kR, q_kL, q_ckI, envN, argE, List.flatMap_cons, List.flatMap_nil, Value.category, junk, oadd, osub, omul, oand, oor, oxor, odiv, orem, oshl, oshr, oushr, omax, omin]
      simp [rk_i, rk_b, rk_o, st1, kill, Value.category, rcv, nog, b2_f hA, b2_t hB, stI_0, Fr.refl]
    · simp only [f_mkF, w_sI, w_sR, w_sL, w_sC, w_sk, w_sbr, w_sco, w_rV, w_rI, w_rR, w_rL, w_dI, w_sO, w_sq, w_si, w_pI, w_pZ, w_pR, w_pU, w_qI, w_qB, w_qZ, w_qU, w_qR, w_kV, q_icst, q_lcst, q_xR, q_ldI, q_ldR, q_ldL, q_bn, q_un, q_dv, q_fI, q_fR, q_aI, q_aR, q_aN, q_tn, q_cmp, q_cmz, q_cnt, q_ctt, q_cand, q_cor, q_vn, q_vI, q_vR, q_vL, q_kI, q_kR, q_kL, q_ckI, envN, argE, List.flatMap_cons, List.flatMap_nil, Value.category, junk, oadd, osub, omul, oand, oor, oxor, odiv, orem, oshl, oshr, oushr, omax, omin]
      simp [rk_i, rk_b, rk_o, st1, kill, Value.category, rcv, nog, b2_f hA, b2_f hB, hn, ly147]
      refine fq_mono eg ?_
      rintro r h1 ⟨rfl, g⟩
      by_cases hC : klt (kd w i) < 8 ∧ gvs w sp i (lft s i) mind (kd w i) (klt (kd w i)) = true
      · rw [if_pos (Or.inr (Or.inr hC))]
        simp only [b2_t hC]
        simp [g, stI_0]
      · rw [if_neg (by grind)]
        simp only [b2_f hC]
        simp [g, stI_s]
def SW (a k : Nat) : Prop := a = 149 ∨ a = 150 ∨ a = 155 ∨ a = 156 ∨ (a = 147 ∧ k = 15)
theorem SW_SX {a k : Nat} (h : SW a k) : SX a k := by unfold SW at h; unfold SX; omega
theorem S9_SW {a k : Nat} (h : S9 a k) : SW a k := by unfold S9 at h; unfold SW; omega
def key (i left m : Nat) : Nat := (i * 20 + left) * 3 + m
theorem key_inj {i left m i' left' m' : Nat} (h1 : left < 20) (h2 : m < 3) (h3 : left' < 20) (h4 : m' < 3) (e : key i left m = key i' left' m') : i = i' ∧ left = left' ∧ m = m' := by
  unfold key at e
  omega
/-- what the court knows of months -/
def TC (w : Wd) (h : Hp) : Prop := (∀ k, (h.2.1 155 k).toInt ≤ (h.2.1 147 10).toInt) ∧ ∀ i left m, i < W_n w → left ≤ i → m < 3 → h.2.1 155 (key i left m) = h.2.1 147 10 → h.2.1 156 (key i left m) = ofM (wtm w i left (nI m))
theorem TC.fr {w : Wd} {S : Nat → Nat → Prop} {h h' : Hp} (q : TC w h) (f : Fr S h h') (h1 : ∀ k, ¬ S 155 k) (h2 : ∀ k, ¬ S 156 k) (h3 : ¬ S 147 10) : TC w h' := by
  obtain ⟨q1, q2⟩ := q
  refine ⟨fun k => ?_, fun i left m a1 a2 a3 a4 => ?_⟩
  · rw [f.2.2 _ _ (h1 k), f.2.2 _ _ h3]; exact q1 k
  · rw [f.2.2 _ _ (h1 _), f.2.2 _ _ h3] at a4
    rw [f.2.2 _ _ (h2 _)]
    exact q2 i left m a1 a2 a3 a4
theorem nI_x20 (a : Nat) : nI a * 20 = nI (a * 20) := nI_mul a 20
theorem nI_x3 (a : Nat) : nI a * 3 = nI (a * 3) := nI_mul a 3
theorem nI_0le {a : Nat} (h : a < 2 ^ 31) : 0 ≤ nI a := by
  rw [← nI_0, nI_leI (by omega) h]
  omega
theorem ofM_m {o : Option Nat} (h : ∀ m, o = some m → m < 1000) : ofM o = -1 ↔ o.isSome = false := by
  cases o with
  | none => simp [ofM]
  | some m =>
    have := m1_ne (h m rfl)
    simp [ofM, this]
theorem fmo_lt {p : Nat → Bool} : ∀ c m r, fmo p c m = some r → r < m + c := by
  intro c
  induction c with
  | zero => intro m r h; cases h
  | succ c ih =>
    intro m r h
    unfold fmo at h
    split at h
    · cases h; omega
    · have := ih _ _ h; omega
theorem wtm_lt {w : Wd} (hw : WV w) {i left : Nat} {mind : Int32} (hi : i < W_n w) {m : Nat} (h : wtm w i left mind = some m) : m < 1000 := by
  have h1 := fmo_lt _ _ _ h
  have h2 := lst_le hw i hi
  have h3 := mth_ok hw hi
  omega
theorem x_wait {w : Wd} {T : Nat} {ra : Nat → Nat} {h : Hp} (q : CX w T ra h) (tc : TC w h) {i s m : Nat} (hi : i < W_n w) (hs : s ≤ i + 1) (hm : m < 3) : fq F_X1_waitBehind [.ref 147, .int (nI i), .int (stI s), .int (nI m)] h fun r h' => r = some (.int (stI (if s = 0 then 0 else if (wtm w i (s - 1) (nI m)).isSome = true then 0 else s))) ∧ Fr SW h h' ∧ TC w h' ∧ h'.2.1 147 15 = (if s = 0 then -1 else ofM (wtm w i (s - 1) (nI m))) := by
  obtain ⟨hn, a1, a2, a3, a4, a5, a6, a7⟩ := q.hd
  have n20 := q.wv.1
  have hE : envN 5 [Value.ref 147, .int (nI i), .int (stI s), .int (nI m)] = [Value.ref 147, .int (nI i), .int (stI s), .int (nI m), junk] := rfl
  unfold F_X1_waitBehind
  refine f_mkE _ hE (by simp [argE, Value.category]) ?_
  (refine w_fz fun B hB C hC => ?_); (simp only [f_mkF, w_sI, w_sR, w_sL, w_sC, w_sk, w_sbr, w_sco, w_rV, w_rI, w_rR, w_rL, w_dI, w_sO, w_sq, w_si, w_pI, w_pZ, w_pR, w_pU, w_qI, w_qB, w_qZ, w_qU, w_qR, w_kV, q_icst, q_lcst, q_xR, q_ldI, q_ldR, q_ldL, q_bn, q_un, q_dv, q_fI, q_fR, q_aI, q_aR, q_aN, q_tn, q_cmp, q_cmz, q_cnt, q_ctt, q_cand, q_cor, q_vn, q_vI, q_vR, q_vL, q_kI, q_kR, q_kL, q_ckI, envN, argE, List.flatMap_cons, List.flatMap_nil, Value.category, junk, oadd, osub, omul, oand, oor, oxor, odiv, orem, oshl, oshr, oushr, omax, omin]); (simp (disch := first | omega | simp) [rk_i, rk_b, rk_o, st1, kill, Value.category, rcv, nog, inI_b, nI_clamp, nI_ltI, nI_leI, nI_eq, nI_9, nI_6, nI_22, nI_12, nI_180, nI_add, nI_1, hn, ly147]); (subst hB hC)
  have f0 : Fr SW h (wI h 147 15 (-1)) := (Fr.refl h).w (by unfold SW; omega)
  have tc0 : TC w (wI h 147 15 (-1)) := tc.fr ((Fr.refl h).w (S := fun a k => a = 147 ∧ k = 15) ⟨rfl, rfl⟩) (fun k => by omega) (fun k => by omega) (by omega)
  have e0 : (wI h 147 15 (-1)).2.1 147 15 = -1 := by simp [wI_i]
  generalize wI h 147 15 (-1) = h1 at *
  have q1 : CX w T ra h1 := q.fr (f0.sub fun a k z => SW_SX z)
  by_cases hz : s = 0
  · subst hz
    refine w_sq.mpr ((w_siT (by simp only [f_mkF, w_sI, w_sR, w_sL, w_sC, w_sk, w_sbr, w_sco, w_rV, w_rI, w_rR, w_rL, w_dI, w_sO, w_sq, w_si, w_pI, w_pZ, w_pR, w_pU, w_qI, w_qB, w_qZ, w_qU, w_qR, w_kV, q_icst, q_lcst, q_xR, q_ldI, q_ldR, q_ldL, q_bn, q_un, q_dv, q_fI, q_fR, q_aI, q_aR, q_aN, q_tn, q_cmp, q_cmz, q_cnt, q_ctt, q_cand, q_cor, q_vn, q_vI, q_vR, q_vL, q_kI, q_kR, q_kL, q_ckI, envN, argE, List.flatMap_cons, List.flatMap_nil, Value.category, junk, oadd, osub, omul, oand, oor, oxor, odiv, orem, oshl, oshr, oushr, omax, omin]; simp (disch := first | omega | simp) [rk_i, rk_b, rk_o, st1, kill, Value.category, rcv, nog, inI_b, nI_clamp, nI_ltI, nI_leI, nI_eq, nI_9, nI_6, nI_22, nI_12, nI_180, nI_add, nI_1, stI_0])).mpr ?_)
    simp only [f_mkF, w_sI, w_sR, w_sL, w_sC, w_sk, w_sbr, w_sco, w_rV, w_rI, w_rR, w_rL, w_dI, w_sO, w_sq, w_si, w_pI, w_pZ, w_pR, w_pU, w_qI, w_qB, w_qZ, w_qU, w_qR, w_kV, q_icst, q_lcst, q_xR, q_ldI, q_ldR, q_ldL, q_bn, q_un, q_dv, q_fI, q_fR, q_aI, q_aR, q_aN, q_tn, q_cmp, q_cmz, q_cnt, q_ctt, q_cand, q_cor, q_vn, q_vI, q_vR, q_vL, q_kI, q_kR, q_kL, q_ckI, envN, argE, List.flatMap_cons, List.flatMap_nil, Value.category, junk, oadd, osub, omul, oand, oor, oxor, odiv, orem, oshl, oshr, oushr, omax, omin]
    simp [rk_i, rk_b, rk_o, st1, kill, Value.category, rcv, nog, stI_0, f0, tc0, e0]
  · obtain ⟨L, rfl⟩ : ∃ L, s = L + 1 := ⟨s - 1, by omega⟩
    rw [stI_s, if_neg hz, if_neg hz, Nat.add_sub_cancel]
    have hk : ¬ nI L = -1 := m1_ne (by omega)
    have kb : key i L m < 1200 := by unfold key; omega
    have kw : nI (key i L m) ≤ nI 1199 := by rw [nI_leI (by omega) (by omega)]; omega
    have hwl : ∀ r, wtm w i L (nI m) = some r → r < 1000 := fun r z => wtm_lt q.wv hi z
    have hn1 := q1.hd.1
    have g8 : h1.2.2 147 8 = some 155 := q1.1.2.1.at 71 rfl
    have g9 : h1.2.2 147 9 = some 156 := q1.1.2.1.at 72 rfl
    refine w_sq.mpr ((w_siF (by simp only [f_mkF, w_sI, w_sR, w_sL, w_sC, w_sk, w_sbr, w_sco, w_rV, w_rI, w_rR, w_rL, w_dI, w_sO, w_sq, w_si, w_pI, w_pZ, w_pR, w_pU, w_qI, w_qB, w_qZ, w_qU, w_qR, w_kV, q_icst, q_lcst, q_xR, q_ldI, q_ldR, q_ldL, q_bn, q_un, q_dv, q_fI, q_fR, q_aI, q_aR, q_aN, q_tn, q_cmp, q_cmz, q_cnt, q_ctt, q_cand, q_cor, q_vn, q_vI, q_vR, q_vL, q_kI, q_kR, q_kL, q_ckI, envN, argE, List.flatMap_cons, List.flatMap_nil, Value.category, junk, oadd, osub, omul, oand, oor, oxor, odiv, orem, oshl, oshr, oushr, omax, omin]; simp (disch := first | omega | simp) [rk_i, rk_b, rk_o, st1, kill, Value.category, rcv, nog, inI_b, nI_clamp, nI_ltI, nI_leI, nI_eq, nI_9, nI_6, nI_22, nI_12, nI_180, nI_add, nI_1, hk])).mpr (w_sk2.mpr ?_))
    refine w_sqI (E' := [Value.ref 147, .int (nI i), .int (nI L), .int (nI m), .int (nI (key i L m))]) (nI (key i L m)) ?_ rfl ?_
    · simp only [f_mkF, w_sI, w_sR, w_sL, w_sC, w_sk, w_sbr, w_sco, w_rV, w_rI, w_rR, w_rL, w_dI, w_sO, w_sq, w_si, w_pI, w_pZ, w_pR, w_pU, w_qI, w_qB, w_qZ, w_qU, w_qR, w_kV, q_icst, q_lcst, q_xR, q_ldI, q_ldR, q_ldL, q_bn, q_un, q_dv, q_fI, q_fR, q_aI, q_aR, q_aN, q_tn, q_cmp, q_cmz, q_cnt, q_ctt, q_cand, q_cor, q_vn, q_vI, q_vR, q_vL, q_kI, q_kR, q_kL, q_ckI, envN, argE, List.flatMap_cons, List.flatMap_nil, Value.category, junk, oadd, osub, omul, oand, oor, oxor, odiv, orem, oshl, oshr, oushr, omax, omin]
      simp [nI_x20, nI_x3, nI_add, key]
    refine w_sq.mpr ((w_siF ?_).mpr (w_sk2.mpr ?_))
    · simp only [f_mkF, w_sI, w_sR, w_sL, w_sC, w_sk, w_sbr, w_sco, w_rV, w_rI, w_rR, w_rL, w_dI, w_sO, w_sq, w_si, w_pI, w_pZ, w_pR, w_pU, w_qI, w_qB, w_qZ, w_qU, w_qR, w_kV, q_icst, q_lcst, q_xR, q_ldI, q_ldR, q_ldL, q_bn, q_un, q_dv, q_fI, q_fR, q_aI, q_aR, q_aN, q_tn, q_cmp, q_cmz, q_cnt, q_ctt, q_cand, q_cor, q_vn, q_vI, q_vR, q_vL, q_kI, q_kR, q_kL, q_ckI, envN, argE, List.flatMap_cons, List.flatMap_nil, Value.category, junk, oadd, osub, omul, oand, oor, oxor, odiv, orem, oshl, oshr, oushr, omax, omin]
      simp (disch := first | omega | simp) [rk_i, rk_b, rk_o, st1, kill, Value.category, rcv, nog, inI_b, nI_clamp, nI_ltI, nI_leI, nI_eq, nI_9, nI_6, nI_22, nI_12, nI_180, nI_add, nI_1, hn1, ly147, ly155, g8, fq_of (e_x_isWithin _ _ _ _)]
      intro z
      exact (b2_0.mp z) ⟨nI_0le (by omega), kw⟩
    refine w_sqS (fun E1 h4 => E1 = [Value.ref 147, .int (nI i), .int (nI L), .int (nI m), .int (nI (key i L m))] ∧ Fr SW h h4 ∧ TC w h4 ∧ h4.2.1 156 (key i L m) = ofM (wtm w i L (nI m))) ?_ ?_
    · by_cases hc : h1.2.1 155 (key i L m) = h1.2.1 147 10
      · refine (w_siF ?_).mpr (w_sk.mpr ⟨rfl, rfl, f0, tc0, tc0.2 i L m hi (by omega) hm hc⟩)
        simp only [f_mkF, w_sI, w_sR, w_sL, w_sC, w_sk, w_sbr, w_sco, w_rV, w_rI, w_rR, w_rL, w_dI, w_sO, w_sq, w_si, w_pI, w_pZ, w_pR, w_pU, w_qI, w_qB, w_qZ, w_qU, w_qR, w_kV, q_icst, q_lcst, q_xR, q_ldI, q_ldR, q_ldL, q_bn, q_un, q_dv, q_fI, q_fR, q_aI, q_aR, q_aN, q_tn, q_cmp, q_cmz, q_cnt, q_ctt, q_cand, q_cor, q_vn, q_vI, q_vR, q_vL, q_kI, q_kR, q_kL, q_ckI, envN, argE, List.flatMap_cons, List.flatMap_nil, Value.category, junk, oadd, osub, omul, oand, oor, oxor, odiv, orem, oshl, oshr, oushr, omax, omin]
        simp (disch := first | omega | simp) [rk_i, rk_b, rk_o, st1, kill, Value.category, rcv, nog, inI_b, nI_clamp, nI_ltI, nI_leI, nI_eq, nI_9, nI_6, nI_22, nI_12, nI_180, nI_add, nI_1, hn1, ly147, ly155, g8, kb, hc]
      · refine (w_siT ?_).mpr ?_
        · simp only [f_mkF, w_sI, w_sR, w_sL, w_sC, w_sk, w_sbr, w_sco, w_rV, w_rI, w_rR, w_rL, w_dI, w_sO, w_sq, w_si, w_pI, w_pZ, w_pR, w_pU, w_qI, w_qB, w_qZ, w_qU, w_qR, w_kV, q_icst, q_lcst, q_xR, q_ldI, q_ldR, q_ldL, q_bn, q_un, q_dv, q_fI, q_fR, q_aI, q_aR, q_aN, q_tn, q_cmp, q_cmz, q_cnt, q_ctt, q_cand, q_cor, q_vn, q_vI, q_vR, q_vL, q_kI, q_kR, q_kL, q_ckI, envN, argE, List.flatMap_cons, List.flatMap_nil, Value.category, junk, oadd, osub, omul, oand, oor, oxor, odiv, orem, oshl, oshr, oushr, omax, omin]
          simp (disch := first | omega | simp) [rk_i, rk_b, rk_o, st1, kill, Value.category, rcv, nog, inI_b, nI_clamp, nI_ltI, nI_leI, nI_eq, nI_9, nI_6, nI_22, nI_12, nI_180, nI_add, nI_1, hn1, ly147, ly155, g8, kb, hc]
        refine w_sqS (fun E1 h4 => E1 = [Value.ref 147, .int (nI i), .int (nI L), .int (nI m), .int (nI (key i L m))] ∧ h4 = wI h1 155 (key i L m) (h1.2.1 147 10)) (w_qIe 155 (key i L m) (h1.2.1 147 10) ?_ ?_ ?_ (by omega) rfl kb (by omega) ⟨rfl, rfl, rfl⟩) ?_
        · simp only [f_mkF, w_sI, w_sR, w_sL, w_sC, w_sk, w_sbr, w_sco, w_rV, w_rI, w_rR, w_rL, w_dI, w_sO, w_sq, w_si, w_pI, w_pZ, w_pR, w_pU, w_qI, w_qB, w_qZ, w_qU, w_qR, w_kV, q_icst, q_lcst, q_xR, q_ldI, q_ldR, q_ldL, q_bn, q_un, q_dv, q_fI, q_fR, q_aI, q_aR, q_aN, q_tn, q_cmp, q_cmz, q_cnt, q_ctt, q_cand, q_cor, q_vn, q_vI, q_vR, q_vL, q_kI, q_kR, q_kL, q_ckI, envN, argE, List.flatMap_cons, List.flatMap_nil, Value.category, junk, oadd, osub, omul, oand, oor, oxor, odiv, orem, oshl, oshr, oushr, omax, omin]; simp [hn1, ly147, g8]
        · simp only [f_mkF, w_sI, w_sR, w_sL, w_sC, w_sk, w_sbr, w_sco, w_rV, w_rI, w_rR, w_rL, w_dI, w_sO, w_sq, w_si, w_pI, w_pZ, w_pR, w_pU, w_qI, w_qB, w_qZ, w_qU, w_qR, w_kV, q_icst, q_lcst, q_xR, q_ldI, q_ldR, q_ldL, q_bn, q_un, q_dv, q_fI, q_fR, q_aI, q_aR, q_aN, q_tn, q_cmp, q_cmz, q_cnt, q_ctt, q_cand, q_cor, q_vn, q_vI, q_vR, q_vL, q_kI, q_kR, q_kL, q_ckI, envN, argE, List.flatMap_cons, List.flatMap_nil, Value.category, junk, oadd, osub, omul, oand, oor, oxor, odiv, orem, oshl, oshr, oushr, omax, omin]; simp
        · simp only [f_mkF, w_sI, w_sR, w_sL, w_sC, w_sk, w_sbr, w_sco, w_rV, w_rI, w_rR, w_rL, w_dI, w_sO, w_sq, w_si, w_pI, w_pZ, w_pR, w_pU, w_qI, w_qB, w_qZ, w_qU, w_qR, w_kV, q_icst, q_lcst, q_xR, q_ldI, q_ldR, q_ldL, q_bn, q_un, q_dv, q_fI, q_fR, q_aI, q_aR, q_aN, q_tn, q_cmp, q_cmz, q_cnt, q_ctt, q_cand, q_cor, q_vn, q_vI, q_vR, q_vL, q_kI, q_kR, q_kL, q_ckI, envN, argE, List.flatMap_cons, List.flatMap_nil, Value.category, junk, oadd, osub, omul, oand, oor, oxor, odiv, orem, oshl, oshr, oushr, omax, omin]; simp [hn1, ly147]
        rintro E1 h2 ⟨rfl, hh2⟩
        have f2 : Fr (fun a k => a = 155 ∧ k = key i L m) h1 h2 := by rw [hh2]; exact (Fr.refl h1).w ⟨rfl, rfl⟩
        have e155 : h2.2.1 155 (key i L m) = h1.2.1 147 10 := by rw [hh2]; simp [wI_i]
        have f2' : Fr SW h1 h2 := f2.sub fun a k z => by unfold SW; omega
        have q2 : CX w T ra h2 := q1.fr (f2'.sub fun a k z => SW_SX z)
        clear hh2
        have hn2 := q2.hd.1
        refine w_qIf 156 (key i L m) ?_ ?_ rfl kb (by omega) ?_
        · simp only [f_mkF, w_sI, w_sR, w_sL, w_sC, w_sk, w_sbr, w_sco, w_rV, w_rI, w_rR, w_rL, w_dI, w_sO, w_sq, w_si, w_pI, w_pZ, w_pR, w_pU, w_qI, w_qB, w_qZ, w_qU, w_qR, w_kV, q_icst, q_lcst, q_xR, q_ldI, q_ldR, q_ldL, q_bn, q_un, q_dv, q_fI, q_fR, q_aI, q_aR, q_aN, q_tn, q_cmp, q_cmz, q_cnt, q_ctt, q_cand, q_cor, q_vn, q_vI, q_vR, q_vL, q_kI, q_kR, q_kL, q_ckI, envN, argE, List.flatMap_cons, List.flatMap_nil, Value.category, junk, oadd, osub, omul, oand, oor, oxor, odiv, orem, oshl, oshr, oushr, omax, omin]; simp [hn2, ly147, f2.2.1, g9]
        · simp only [f_mkF, w_sI, w_sR, w_sL, w_sC, w_sk, w_sbr, w_sco, w_rV, w_rI, w_rR, w_rL, w_dI, w_sO, w_sq, w_si, w_pI, w_pZ, w_pR, w_pU, w_qI, w_qB, w_qZ, w_qU, w_qR, w_kV, q_icst, q_lcst, q_xR, q_ldI, q_ldR, q_ldL, q_bn, q_un, q_dv, q_fI, q_fR, q_aI, q_aR, q_aN, q_tn, q_cmp, q_cmz, q_cnt, q_ctt, q_cand, q_cor, q_vn, q_vI, q_vR, q_vL, q_kI, q_kR, q_kL, q_ckI, envN, argE, List.flatMap_cons, List.flatMap_nil, Value.category, junk, oadd, osub, omul, oand, oor, oxor, odiv, orem, oshl, oshr, oushr, omax, omin]; simp
        refine q_kIe [.ref 147, .int (nI i), .int (nI L), .int (nI m)] (by simp only [f_mkF, w_sI, w_sR, w_sL, w_sC, w_sk, w_sbr, w_sco, w_rV, w_rI, w_rR, w_rL, w_dI, w_sO, w_sq, w_si, w_pI, w_pZ, w_pR, w_pU, w_qI, w_qB, w_qZ, w_qU, w_qR, w_kV, q_icst, q_lcst, q_xR, q_ldI, q_ldR, q_ldL, q_bn, q_un, q_dv, q_fI, q_fR, q_aI, q_aR, q_aN, q_tn, q_cmp, q_cmz, q_cnt, q_ctt, q_cand, q_cor, q_vn, q_vI, q_vR, q_vL, q_kI, q_kR, q_kL, q_ckI, envN, argE, List.flatMap_cons, List.flatMap_nil, Value.category, junk, oadd, osub, omul, oand, oor, oxor, odiv, orem, oshl, oshr, oushr, omax, omin]; simp) (by simp [rcv, hn2, ly147]) ?_
        refine fq_mono (x_find q2 (left := L) hi (by omega) (nI m)) ?_
        rintro r h3 ⟨rfl, f3⟩
        refine ⟨_, rfl, by have := f3.1; omega, rfl, rfl, ?_, ?_, by simp [wI_i]⟩
        · exact ((f0.trans f2').trans (f3.sub fun a k z => S9_SW z)).w (by unfold SW; omega)
        · have z155 : ∀ k, k ≠ key i L m → h3.2.1 155 k = h1.2.1 155 k := fun k hk => (f3.2.2 155 k (by unfold S9; omega)).trans (f2.2.2 155 k (by omega))
          have z155' : h3.2.1 155 (key i L m) = h1.2.1 147 10 := (f3.2.2 155 _ (by unfold S9; omega)).trans e155
          have z147 : h3.2.1 147 10 = h1.2.1 147 10 := (f3.2.2 147 10 (by unfold S9; omega)).trans (f2.2.2 147 10 (by omega))
          have z156 : ∀ k, h3.2.1 156 k = h1.2.1 156 k := fun k => (f3.2.2 156 k (by unfold S9; omega)).trans (f2.2.2 156 k (by omega))
          refine ⟨fun k => ?_, fun i' l' m' b1 b2 b3 b4 => ?_⟩
          · simp only [wI_i]
            simp
            by_cases hk2 : k = key i L m
            · rw [hk2, z155', z147]; exact Int.le_refl _
            · rw [z155 k hk2, z147]; exact tc0.1 k
          · simp only [wI_i] at b4 ⊢
            simp at b4 ⊢
            by_cases hk2 : key i' l' m' = key i L m
            · obtain ⟨rfl, rfl, rfl⟩ := key_inj (by omega) b3 (by omega) hm hk2
              simp
            · rw [if_neg hk2, z156]
              rw [z155 _ hk2, z147] at b4
              exact tc0.2 i' l' m' b1 b2 b3 b4
    rintro E1 h4 ⟨rfl, f4, tc4, e4⟩
    have q4 : CX w T ra h4 := q.fr (f4.sub fun a k z => SW_SX z)
    have hn4 := q4.hd.1
    have g9' : h4.2.2 147 9 = some 156 := q4.1.2.1.at 72 rfl
    (refine w_fz fun B hB C hC => ?_); (simp only [f_mkF, w_sI, w_sR, w_sL, w_sC, w_sk, w_sbr, w_sco, w_rV, w_rI, w_rR, w_rL, w_dI, w_sO, w_sq, w_si, w_pI, w_pZ, w_pR, w_pU, w_qI, w_qB, w_qZ, w_qU, w_qR, w_kV, q_icst, q_lcst, q_xR, q_ldI, q_ldR, q_ldL, q_bn, q_un, q_dv, q_fI, q_fR, q_aI, q_aR, q_aN, q_tn, q_cmp, q_cmz, q_cnt, q_ctt, q_cand, q_cor, q_vn, q_vI, q_vR, q_vL, q_kI, q_kR, q_kL, q_ckI, envN, argE, List.flatMap_cons, List.flatMap_nil, Value.category, junk, oadd, osub, omul, oand, oor, oxor, odiv, orem, oshl, oshr, oushr, omax, omin]); (simp (disch := first | omega | simp) [rk_i, rk_b, rk_o, st1, kill, Value.category, rcv, nog, inI_b, nI_clamp, nI_ltI, nI_leI, nI_eq, nI_9, nI_6, nI_22, nI_12, nI_180, nI_add, nI_1, hn4, ly147, ly156, g9', kb, e4]); (subst hB hC)
    have f5 : Fr SW h (wI h4 147 15 (ofM (wtm w i L (nI m)))) := f4.w (by unfold SW; omega)
    have tc5 : TC w (wI h4 147 15 (ofM (wtm w i L (nI m)))) := tc4.fr ((Fr.refl h4).w (S := fun a k => a = 147 ∧ k = 15) ⟨rfl, rfl⟩) (fun k => by omega) (fun k => by omega) (by omega)
    simp only [f_mkF, w_sI, w_sR, w_sL, w_sC, w_sk, w_sbr, w_sco, w_rV, w_rI, w_rR, w_rL, w_dI, w_sO, w_sq, w_si, w_pI, w_pZ, w_pR, w_pU, w_qI, w_qB, w_qZ, w_qU, w_qR, w_kV, q_icst, q_lcst, q_xR, q_ldI, q_ldR, q_ldL, q_bn, q_un, q_dv, q_fI, q_fR, q_aI, q_aR, q_aN, q_tn, q_cmp, q_cmz, q_cnt, q_ctt, q_cand, q_cor, q_vn, q_vI, q_vR, q_vL, q_kI, q_kR, q_kL, q_ckI, envN, argE, List.flatMap_cons, List.flatMap_nil, Value.category, junk, oadd, osub, omul, oand, oor, oxor, odiv, orem, oshl, oshr, oushr, omax, omin]
    simp [rk_i, rk_b, rk_o, st1, kill, Value.category, rcv, nog, hn4, ly147, wI_1, wI_i, f5, tc5]
    cases hW : wtm w i L (nI m) with
    | none => simp [ofM, stI_s]
    | some r =>
      have := m1_ne (hwl r hW)
      simp [ofM, stI_0, this]
/-- what the walk has found -/
def XR (w : Wd) (sp : Nat) (md : Nat → Int32) (n : Nat) (h : Hp) : Prop := (∀ k, k ≤ n → h.2.1 151 k = stI (stt w sp md k)) ∧ ∀ k, k < n → h.2.1 152 k = tlt w sp md k ∧ h.2.1 153 k = tmi w sp md k ∧ h.2.1 154 k = b2 (tlt w sp md k ≠ own w (stt w sp md k) k)
theorem XR.fr {w : Wd} {sp : Nat} {md : Nat → Int32} {n : Nat} {S : Nat → Nat → Prop} {h h' : Hp} (q : XR w sp md n h) (f : Fr S h h') (hS : ∀ a k, 151 ≤ a → a ≤ 154 → ¬ S a k) : XR w sp md n h' := by
  refine ⟨fun k hk => ?_, fun k hk => ?_⟩
  · rw [f.2.2 _ _ (hS 151 k (by omega) (by omega))]; exact q.1 k hk
  · rw [f.2.2 _ _ (hS 152 k (by omega) (by omega)), f.2.2 _ _ (hS 153 k (by omega) (by omega)), f.2.2 _ _ (hS 154 k (by omega) (by omega))]; exact q.2 k hk
theorem x_ahead {w : Wd} {T : Nat} {ra : Nat → Nat} {h : Hp} (q : CX w T ra h) {i s : Nat} (hi : i ≤ W_n w) (hs : s ≤ i) (e : h.2.1 151 i = stI s) : F_X1_ownerAhead [.ref 147, .int (nI i)] h = some (some (.int (own w s i)), h) := by
  have hn := q.hd.1
  have n20 := q.wv.1
  have g4 : h.2.2 147 4 = some 151 := q.1.2.1.at 67 rfl
  have e1 := x_own q hi (s := s) (by omega)
  have i21 : i < 21 := by omega
  rw [← fq_eq]
  unfold F_X1_ownerAhead
  simp only [f_mkF, w_sI, w_sR, w_sL, w_sC, w_sk, w_sbr, w_sco, w_rV, w_rI, w_rR, w_rL, w_dI, w_sO, w_sq, w_si, w_pI, w_pZ, w_pR, w_pU, w_qI, w_qB, w_qZ, w_qU, w_qR, w_kV, q_icst, q_lcst, q_xR, q_ldI, q_ldR, q_ldL, q_bn, q_un, q_dv, q_fI, q_fR, q_aI, q_aR, q_aN, q_tn, q_cmp, q_cmz, q_cnt, q_ctt, q_cand, q_cor, q_vn, q_vI, q_vR, q_vL, q_kI, q_kR, q_kL, q_ckI, envN, argE, List.flatMap_cons, List.flatMap_nil, Value.category, junk, oadd, osub, omul, oand, oor, oxor, odiv, orem, oshl, oshr, oushr, omax, omin]
  simp (disch := first | omega | simp) [rk_i, rk_b, rk_o, st1, kill, Value.category, rcv, nog, inI_b, nI_clamp, nI_ltI, nI_leI, nI_eq, nI_9, nI_6, nI_22, nI_12, nI_180, nI_add, nI_1, hn, ly147, ly151, g4, i21, e, fq_of e1]
theorem md_ok {w : Wd} (hw : WV w) {i : Nat} (hi : i < W_n w) : ∃ m, m < 3 ∧ W_R w i 6 = nI m := by
  have v := (hw.2.2.1 i hi).2.2.2.2.2.2.2
  obtain ⟨k, z1, z2, -⟩ := ofN (x := W_R w i 6) (b := 2) v.1 (by omega)
  exact ⟨k, by omega, z1⟩
theorem x_walk {w : Wd} {T : Nat} {ra : Nat → Nat} {h : Hp} (q : CX w T ra h) (tc : TC w h) {sp : Nat} (hs1 : h.2.1 147 14 = nI sp) (hs2 : sp < 64) : fq F_X1_walk [.ref 147] h fun r h' => r = none ∧ Fr SX h h' ∧ TC w h' ∧ XR w sp (fun i => W_R w i 6) (W_n w) h' := by
  have hn := q.hd.1
  have n20 := q.wv.1
  have g4 : h.2.2 147 4 = some 151 := q.1.2.1.at 67 rfl
  have hE : envN 4 [Value.ref 147] = [Value.ref 147, junk, junk, junk] := rfl
  unfold F_X1_walk
  refine f_mkE _ hE (by simp [argE, Value.category]) ?_
  refine w_sqS (fun E1 h4 => E1 = [Value.ref 147, junk, junk, junk] ∧ h4 = wI h 151 0 (-1)) (w_qIe 151 0 (-1) ?_ ?_ ?_ (by omega) rfl (by omega) (by omega) ⟨rfl, rfl, rfl⟩) ?_
  · simp only [f_mkF, w_sI, w_sR, w_sL, w_sC, w_sk, w_sbr, w_sco, w_rV, w_rI, w_rR, w_rL, w_dI, w_sO, w_sq, w_si, w_pI, w_pZ, w_pR, w_pU, w_qI, w_qB, w_qZ, w_qU, w_qR, w_kV, q_icst, q_lcst, q_xR, q_ldI, q_ldR, q_ldL, q_bn, q_un, q_dv, q_fI, q_fR, q_aI, q_aR, q_aN, q_tn, q_cmp, q_cmz, q_cnt, q_ctt, q_cand, q_cor, q_vn, q_vI, q_vR, q_vL, q_kI, q_kR, q_kL, q_ckI, envN, argE, List.flatMap_cons, List.flatMap_nil, Value.category, junk, oadd, osub, omul, oand, oor, oxor, odiv, orem, oshl, oshr, oushr, omax, omin]; simp [hn, ly147, g4]
  · simp only [f_mkF, w_sI, w_sR, w_sL, w_sC, w_sk, w_sbr, w_sco, w_rV, w_rI, w_rR, w_rL, w_dI, w_sO, w_sq, w_si, w_pI, w_pZ, w_pR, w_pU, w_qI, w_qB, w_qZ, w_qU, w_qR, w_kV, q_icst, q_lcst, q_xR, q_ldI, q_ldR, q_ldL, q_bn, q_un, q_dv, q_fI, q_fR, q_aI, q_aR, q_aN, q_tn, q_cmp, q_cmz, q_cnt, q_ctt, q_cand, q_cor, q_vn, q_vI, q_vR, q_vL, q_kI, q_kR, q_kL, q_ckI, envN, argE, List.flatMap_cons, List.flatMap_nil, Value.category, junk, oadd, osub, omul, oand, oor, oxor, odiv, orem, oshl, oshr, oushr, omax, omin]; simp [nI_0]
  · simp only [f_mkF, w_sI, w_sR, w_sL, w_sC, w_sk, w_sbr, w_sco, w_rV, w_rI, w_rR, w_rL, w_dI, w_sO, w_sq, w_si, w_pI, w_pZ, w_pR, w_pU, w_qI, w_qB, w_qZ, w_qU, w_qR, w_kV, q_icst, q_lcst, q_xR, q_ldI, q_ldR, q_ldL, q_bn, q_un, q_dv, q_fI, q_fR, q_aI, q_aR, q_aN, q_tn, q_cmp, q_cmz, q_cnt, q_ctt, q_cand, q_cor, q_vn, q_vI, q_vR, q_vL, q_kI, q_kR, q_kL, q_ckI, envN, argE, List.flatMap_cons, List.flatMap_nil, Value.category, junk, oadd, osub, omul, oand, oor, oxor, odiv, orem, oshl, oshr, oushr, omax, omin]; simp
  rintro E1 h0 ⟨rfl, hh0⟩
  have f0 : Fr SX h h0 := by rw [hh0]; exact (Fr.refl h).w (by unfold SX; omega)
  have tc0 : TC w h0 := by rw [hh0]; exact tc.fr ((Fr.refl h).w (S := fun a k => a = 151) rfl) (fun k => by omega) (fun k => by omega) (by omega)
  have e0 : h0.2.1 151 0 = -1 := by rw [hh0]; simp [wI_i]
  clear hh0
  refine w_sq.mpr ?_
  refine w_sqI (nI 0) (by simp only [f_mkF, w_sI, w_sR, w_sL, w_sC, w_sk, w_sbr, w_sco, w_rV, w_rI, w_rR, w_rL, w_dI, w_sO, w_sq, w_si, w_pI, w_pZ, w_pR, w_pU, w_qI, w_qB, w_qZ, w_qU, w_qR, w_kV, q_icst, q_lcst, q_xR, q_ldI, q_ldR, q_ldL, q_bn, q_un, q_dv, q_fI, q_fR, q_aI, q_aR, q_aN, q_tn, q_cmp, q_cmz, q_cnt, q_ctt, q_cand, q_cor, q_vn, q_vI, q_vR, q_vL, q_kI, q_kR, q_kL, q_ckI, envN, argE, List.flatMap_cons, List.flatMap_nil, Value.category, junk, oadd, osub, omul, oand, oor, oxor, odiv, orem, oshl, oshr, oushr, omax, omin]; simp [rk_i, rk_b, rk_o, st1, kill, Value.category, rcv, nog, nI_0]) rfl ?_
  generalize hmd : (fun i => W_R w i 6) = md
  refine wp_mono (w_lp (Q := fun o _ E1 h1 => o = 0 ∧ Fr SX h h1 ∧ TC w h1 ∧ XR w sp md (W_n w) h1) (fun k E h' => ∃ i v2 v3, k = W_n w - i ∧ i ≤ W_n w ∧ E = [.ref 147, .int (nI i), v2, v3] ∧ (v2.category = 1 ∧ v3.category = 1) ∧ Fr SX h h' ∧ TC w h' ∧ XR w sp md i h') ?_ (W_n w) _ _ ⟨0, junk, junk, rfl, by omega, rfl, ⟨rfl, rfl⟩, f0, tc0, fun k hk => by rw [show k = 0 by omega]; exact e0, fun k hk => by omega⟩) ?_
  · rintro k E h' ⟨i, v2, v3, rfl, hi', rfl, ⟨c2, c3⟩, f, tc1, hX⟩
    have q1 : CX w T ra h' := q.fr f
    obtain ⟨hn, a1, a2, a3, a4, a5, a6, a7⟩ := q1.hd
    by_cases hi : i < W_n w
    · refine ev_T ?_ ⟨fun z => (by cases z), fun _ => ?_⟩
      · simp only [f_mkF, w_sI, w_sR, w_sL, w_sC, w_sk, w_sbr, w_sco, w_rV, w_rI, w_rR, w_rL, w_dI, w_sO, w_sq, w_si, w_pI, w_pZ, w_pR, w_pU, w_qI, w_qB, w_qZ, w_qU, w_qR, w_kV, q_icst, q_lcst, q_xR, q_ldI, q_ldR, q_ldL, q_bn, q_un, q_dv, q_fI, q_fR, q_aI, q_aR, q_aN, q_tn, q_cmp, q_cmz, q_cnt, q_ctt, q_cand, q_cor, q_vn, q_vI, q_vR, q_vL, q_kI, q_kR, q_kL, q_ckI, envN, argE, List.flatMap_cons, List.flatMap_nil, Value.category, junk, oadd, osub, omul, oand, oor, oxor, odiv, orem, oshl, oshr, oushr, omax, omin]
        simp (disch := first | omega | simp) [rk_i, rk_b, rk_o, st1, kill, Value.category, rcv, nog, inI_b, nI_clamp, nI_ltI, nI_leI, nI_eq, nI_9, nI_6, nI_22, nI_12, nI_180, nI_add, nI_1, hn, ly147, a1, a2, a4, a7, hi]
      obtain ⟨i20, b1, b2', b3, b4⟩ := q1.row hi
      obtain ⟨m, hm, em⟩ := md_ok q1.wv hi
      have emd : md i = nI m := by rw [← hmd]; exact em
      have hnx : stt w sp md (i + 1) = nxt w sp i (stt w sp md i) (nI m) := by rw [← emd]; rfl
      have htl : tlt w sp md i = own w (hnd w sp i (stt w sp md i) (nI m)) (i + 1) := by rw [← emd]; rfl
      have htm : tmi w sp md i = if hnd w sp i (stt w sp md i) (nI m) = 0 then -1 else ofM (wtm w i (hnd w sp i (stt w sp md i) (nI m) - 1) (nI m)) := by rw [← emd]; rfl
      have nb := stt_nb w sp md i
      have e51 := hX.1 i (Nat.le_refl _)
      have nb2 := nb.h sp (nI m)
      generalize hS : stt w sp md i = s at *
      have hL := nb.l
      have b46 := b4 6 (by omega)
      have b41 := b4 1 (by omega)
      rw [em] at b46
      have i21 : i < 21 := by omega
      have g4' : h'.2.2 147 4 = some 151 := q1.1.2.1.at 67 rfl
      have sp1 : h'.2.1 147 14 = nI sp := (f.2.2 147 14 (by unfold SX; omega)).trans hs1
      refine w_sqI (E' := [.ref 147, .int (nI i), .int (nI m), v3]) (nI m) ?_ (by simp [st1, kill, Value.category]) ?_
      · simp only [f_mkF, w_sI, w_sR, w_sL, w_sC, w_sk, w_sbr, w_sco, w_rV, w_rI, w_rR, w_rL, w_dI, w_sO, w_sq, w_si, w_pI, w_pZ, w_pR, w_pU, w_qI, w_qB, w_qZ, w_qU, w_qR, w_kV, q_icst, q_lcst, q_xR, q_ldI, q_ldR, q_ldL, q_bn, q_un, q_dv, q_fI, q_fR, q_aI, q_aR, q_aN, q_tn, q_cmp, q_cmz, q_cnt, q_ctt, q_cand, q_cor, q_vn, q_vI, q_vR, q_vL, q_kI, q_kR, q_kL, q_ckI, envN, argE, List.flatMap_cons, List.flatMap_nil, Value.category, junk, oadd, osub, omul, oand, oor, oxor, odiv, orem, oshl, oshr, oushr, omax, omin]
        simp (disch := first | omega | simp) [rk_i, rk_b, rk_o, st1, kill, Value.category, rcv, nog, inI_b, nI_clamp, nI_ltI, nI_leI, nI_eq, nI_9, nI_6, nI_22, nI_12, nI_180, nI_add, nI_1, hn, ly147, a1, a2, a3, a4, a5, a6, b1, b2', b3, b46, i20]
      refine w_fz fun B hB C hC => ?_
      simp only [f_mkF, w_sI, w_sR, w_sL, w_sC, w_sk, w_sbr, w_sco, w_rV, w_rI, w_rR, w_rL, w_dI, w_sO, w_sq, w_si, w_pI, w_pZ, w_pR, w_pU, w_qI, w_qB, w_qZ, w_qU, w_qR, w_kV, q_icst, q_lcst, q_xR, q_ldI, q_ldR, q_ldL, q_bn, q_un, q_dv, q_fI, q_fR, q_aI, q_aR, q_aN, q_tn, q_cmp, q_cmz, q_cnt, q_ctt, q_cand, q_cor, q_vn, q_vI, q_vR, q_vL, q_kI, q_kR, q_kL, q_ckI, envN, argE, List.flatMap_cons, List.flatMap_nil, Value.category, junk, oadd, osub, omul, oand, oor, oxor, odiv, orem, oshl, oshr, oushr, omax, omin]
      simp (disch := first | omega | simp) [rk_i, rk_b, rk_o, st1, kill, Value.category, rcv, nog, inI_b, nI_clamp, nI_ltI, nI_leI, nI_eq, nI_9, nI_6, nI_22, nI_12, nI_180, nI_add, nI_1, hn, ly147, ly151, g4', e51, i21]
      refine fq_mono (x_hand q1 sp1 hs2 hi nb.1 (nI m)) ?_
      rintro r h2 ⟨rfl, g2⟩
      simp [st1, kill, Value.category]
      subst hB hC
      have f2 : Fr SX h h2 := f.trans (g2.sub fun a k z => S9_SX z)
      have q2 : CX w T ra h2 := q.fr f2
      have tc2 : TC w h2 := tc1.fr g2 (fun k => by unfold S9; omega) (fun k => by unfold S9; omega) (by unfold S9; omega)
      have hX2 : XR w sp md i h2 := hX.fr g2 fun a k z1 z2 => by unfold S9; omega
      obtain ⟨hn, a1, a2, a3, a4, a5, a6, a7⟩ := q2.hd
      obtain ⟨i20, b1, b2', b3, b4⟩ := q2.row hi
      have b41 := b4 1 (by omega)
      have g5' : h2.2.2 147 5 = some 152 := q2.1.2.1.at 68 rfl
      have hHm := stI_m (s := hnd w sp i s (nI m)) (by have := nb2.1; omega)
      refine w_sqS (fun E1 h4 => E1 = [Value.ref 147, .int (nI i), .int (nI m), .int (stI (hnd w sp i s (nI m)))] ∧ h4 = wI h2 152 i (tlt w sp md i)) (w_qIe 152 i (tlt w sp md i) ?_ ?_ ?_ (by omega) rfl i20 (by omega) ⟨rfl, rfl, rfl⟩) ?_
      · simp only [f_mkF, w_sI, w_sR, w_sL, w_sC, w_sk, w_sbr, w_sco, w_rV, w_rI, w_rR, w_rL, w_dI, w_sO, w_sq, w_si, w_pI, w_pZ, w_pR, w_pU, w_qI, w_qB, w_qZ, w_qU, w_qR, w_kV, q_icst, q_lcst, q_xR, q_ldI, q_ldR, q_ldL, q_bn, q_un, q_dv, q_fI, q_fR, q_aI, q_aR, q_aN, q_tn, q_cmp, q_cmz, q_cnt, q_ctt, q_cand, q_cor, q_vn, q_vI, q_vR, q_vL, q_kI, q_kR, q_kL, q_ckI, envN, argE, List.flatMap_cons, List.flatMap_nil, Value.category, junk, oadd, osub, omul, oand, oor, oxor, odiv, orem, oshl, oshr, oushr, omax, omin]; simp [hn, ly147, g5']
      · simp only [f_mkF, w_sI, w_sR, w_sL, w_sC, w_sk, w_sbr, w_sco, w_rV, w_rI, w_rR, w_rL, w_dI, w_sO, w_sq, w_si, w_pI, w_pZ, w_pR, w_pU, w_qI, w_qB, w_qZ, w_qU, w_qR, w_kV, q_icst, q_lcst, q_xR, q_ldI, q_ldR, q_ldL, q_bn, q_un, q_dv, q_fI, q_fR, q_aI, q_aR, q_aN, q_tn, q_cmp, q_cmz, q_cnt, q_ctt, q_cand, q_cor, q_vn, q_vI, q_vR, q_vL, q_kI, q_kR, q_kL, q_ckI, envN, argE, List.flatMap_cons, List.flatMap_nil, Value.category, junk, oadd, osub, omul, oand, oor, oxor, odiv, orem, oshl, oshr, oushr, omax, omin]; simp
      · simp only [f_mkF, w_sI, w_sR, w_sL, w_sC, w_sk, w_sbr, w_sco, w_rV, w_rI, w_rR, w_rL, w_dI, w_sO, w_sq, w_si, w_pI, w_pZ, w_pR, w_pU, w_qI, w_qB, w_qZ, w_qU, w_qR, w_kV, q_icst, q_lcst, q_xR, q_ldI, q_ldR, q_ldL, q_bn, q_un, q_dv, q_fI, q_fR, q_aI, q_aR, q_aN, q_tn, q_cmp, q_cmz, q_cnt, q_ctt, q_cand, q_cor, q_vn, q_vI, q_vR, q_vL, q_kI, q_kR, q_kL, q_ckI, envN, argE, List.flatMap_cons, List.flatMap_nil, Value.category, junk, oadd, osub, omul, oand, oor, oxor, odiv, orem, oshl, oshr, oushr, omax, omin]
        rw [htl]
        by_cases hz : hnd w sp i s (nI m) = 0
        · simp (disch := first | omega | simp) [rk_i, rk_b, rk_o, st1, kill, Value.category, rcv, nog, inI_b, nI_clamp, nI_ltI, nI_leI, nI_eq, nI_9, nI_6, nI_22, nI_12, nI_180, nI_add, nI_1, hn, ly147, a1, a2, a3, a4, a5, a6, b1, b2', b3, b41, i20, hz, stI_0, own_0, frm_s]
        · obtain ⟨L, hL'⟩ : ∃ L, hnd w sp i s (nI m) = L + 1 := ⟨hnd w sp i s (nI m) - 1, by omega⟩
          have hk : ¬ nI L = -1 := m1_ne (by have := nb2.1; omega)
          simp (disch := first | omega | simp) [rk_i, rk_b, rk_o, st1, kill, Value.category, rcv, nog, inI_b, nI_clamp, nI_ltI, nI_leI, nI_eq, nI_9, nI_6, nI_22, nI_12, nI_180, nI_add, nI_1, hn, ly147, a1, a2, a4, hL', stI_s, hk, own_s, fq_of (q2.fw (i := L) (by have := nb2.1; omega))]
      rintro E1 h3 ⟨rfl, hh3⟩
      have f3' : Fr (fun a _ => a = 152) h2 h3 := by rw [hh3]; exact (Fr.refl h2).w rfl
      have f3 : Fr SX h h3 := f2.trans (f3'.sub fun a k z => by unfold SX; omega)
      have q3 : CX w T ra h3 := q.fr f3
      have tc3 : TC w h3 := tc2.fr f3' (fun k => by omega) (fun k => by omega) (by omega)
      have d52 : h3.2.1 152 i = tlt w sp md i := by rw [hh3]; simp [wI_i]
      have d51 : h3.2.1 151 i = stI s := by rw [f3'.2.2 151 i (by omega)]; exact (g2.2.2 151 i (by unfold S9; omega)).trans e51
      have d5k : ∀ k, k ≠ i → h3.2.1 152 k = h2.2.1 152 k := fun k hk => by rw [hh3]; simp [wI_i, hk]
      clear hh3
      have hn3 := q3.hd.1
      have g5'' : h3.2.2 147 5 = some 152 := q3.1.2.1.at 68 rfl
      have g7'' : h3.2.2 147 7 = some 154 := q3.1.2.1.at 70 rfl
      refine w_sqS (fun E1 h4 => E1 = [Value.ref 147, .int (nI i), .int (nI m), .int (stI (hnd w sp i s (nI m)))] ∧ h4 = wI h3 154 i (b2 (tlt w sp md i ≠ own w s i))) (w_qIe 154 i (b2 (tlt w sp md i ≠ own w s i)) ?_ ?_ ?_ (by omega) rfl i20 (by omega) ⟨rfl, rfl, rfl⟩) ?_
      · simp only [f_mkF, w_sI, w_sR, w_sL, w_sC, w_sk, w_sbr, w_sco, w_rV, w_rI, w_rR, w_rL, w_dI, w_sO, w_sq, w_si, w_pI, w_pZ, w_pR, w_pU, w_qI, w_qB, w_qZ, w_qU, w_qR, w_kV, q_icst, q_lcst, q_xR, q_ldI, q_ldR, q_ldL, q_bn, q_un, q_dv, q_fI, q_fR, q_aI, q_aR, q_aN, q_tn, q_cmp, q_cmz, q_cnt, q_ctt, q_cand, q_cor, q_vn, q_vI, q_vR, q_vL, q_kI, q_kR, q_kL, q_ckI, envN, argE, List.flatMap_cons, List.flatMap_nil, Value.category, junk, oadd, osub, omul, oand, oor, oxor, odiv, orem, oshl, oshr, oushr, omax, omin]; simp [hn3, ly147, g7'']
      · simp only [f_mkF, w_sI, w_sR, w_sL, w_sC, w_sk, w_sbr, w_sco, w_rV, w_rI, w_rR, w_rL, w_dI, w_sO, w_sq, w_si, w_pI, w_pZ, w_pR, w_pU, w_qI, w_qB, w_qZ, w_qU, w_qR, w_kV, q_icst, q_lcst, q_xR, q_ldI, q_ldR, q_ldL, q_bn, q_un, q_dv, q_fI, q_fR, q_aI, q_aR, q_aN, q_tn, q_cmp, q_cmz, q_cnt, q_ctt, q_cand, q_cor, q_vn, q_vI, q_vR, q_vL, q_kI, q_kR, q_kL, q_ckI, envN, argE, List.flatMap_cons, List.flatMap_nil, Value.category, junk, oadd, osub, omul, oand, oor, oxor, odiv, orem, oshl, oshr, oushr, omax, omin]; simp
      · simp only [f_mkF, w_sI, w_sR, w_sL, w_sC, w_sk, w_sbr, w_sco, w_rV, w_rI, w_rR, w_rL, w_dI, w_sO, w_sq, w_si, w_pI, w_pZ, w_pR, w_pU, w_qI, w_qB, w_qZ, w_qU, w_qR, w_kV, q_icst, q_lcst, q_xR, q_ldI, q_ldR, q_ldL, q_bn, q_un, q_dv, q_fI, q_fR, q_aI, q_aR, q_aN, q_tn, q_cmp, q_cmz, q_cnt, q_ctt, q_cand, q_cor, q_vn, q_vI, q_vR, q_vL, q_kI, q_kR, q_kL, q_ckI, envN, argE, List.flatMap_cons, List.flatMap_nil, Value.category, junk, oadd, osub, omul, oand, oor, oxor, odiv, orem, oshl, oshr, oushr, omax, omin]
        simp (disch := first | omega | simp) [rk_i, rk_b, rk_o, st1, kill, Value.category, rcv, nog, inI_b, nI_clamp, nI_ltI, nI_leI, nI_eq, nI_9, nI_6, nI_22, nI_12, nI_180, nI_add, nI_1, hn3, ly147, ly152, g5'', i20, d52, fq_of (x_ahead q3 (by omega) nb.1 d51), b2]
        try grind
      rintro E1 h4 ⟨rfl, hh4⟩
      have f4' : Fr (fun a _ => a = 154) h3 h4 := by rw [hh4]; exact (Fr.refl h3).w rfl
      have f4 : Fr SX h h4 := f3.trans (f4'.sub fun a k z => by unfold SX; omega)
      have q4 : CX w T ra h4 := q.fr f4
      have tc4 : TC w h4 := tc3.fr f4' (fun k => by omega) (fun k => by omega) (by omega)
      have d54 : h4.2.1 154 i = b2 (tlt w sp md i ≠ own w s i) := by rw [hh4]; simp [wI_i]
      have d5k4 : ∀ k, k ≠ i → h4.2.1 154 k = h3.2.1 154 k := fun k hk => by rw [hh4]; simp [wI_i, hk]
      clear hh4
      have hn4 := q4.hd.1
      have g44 : h4.2.2 147 4 = some 151 := q4.1.2.1.at 67 rfl
      have i21' : i + 1 < 21 := by omega
      refine w_sqS (fun E1 h5 => ∃ h6, E1 = [Value.ref 147, .int (nI i), .int (nI m), .int (stI (hnd w sp i s (nI m)))] ∧ h5 = wI h6 151 (i + 1) (stI (nxt w sp i s (nI m))) ∧ Fr SW h4 h6 ∧ TC w h6 ∧ h6.2.1 147 15 = tmi w sp md i) ?_ ?_
      · refine w_qIf 151 (i + 1) ?_ ?_ rfl i21' (by omega) ?_
        · simp only [f_mkF, w_sI, w_sR, w_sL, w_sC, w_sk, w_sbr, w_sco, w_rV, w_rI, w_rR, w_rL, w_dI, w_sO, w_sq, w_si, w_pI, w_pZ, w_pR, w_pU, w_qI, w_qB, w_qZ, w_qU, w_qR, w_kV, q_icst, q_lcst, q_xR, q_ldI, q_ldR, q_ldL, q_bn, q_un, q_dv, q_fI, q_fR, q_aI, q_aR, q_aN, q_tn, q_cmp, q_cmz, q_cnt, q_ctt, q_cand, q_cor, q_vn, q_vI, q_vR, q_vL, q_kI, q_kR, q_kL, q_ckI, envN, argE, List.flatMap_cons, List.flatMap_nil, Value.category, junk, oadd, osub, omul, oand, oor, oxor, odiv, orem, oshl, oshr, oushr, omax, omin]; simp [hn4, ly147, g44]
        · simp only [f_mkF, w_sI, w_sR, w_sL, w_sC, w_sk, w_sbr, w_sco, w_rV, w_rI, w_rR, w_rL, w_dI, w_sO, w_sq, w_si, w_pI, w_pZ, w_pR, w_pU, w_qI, w_qB, w_qZ, w_qU, w_qR, w_kV, q_icst, q_lcst, q_xR, q_ldI, q_ldR, q_ldL, q_bn, q_un, q_dv, q_fI, q_fR, q_aI, q_aR, q_aN, q_tn, q_cmp, q_cmz, q_cnt, q_ctt, q_cand, q_cor, q_vn, q_vI, q_vR, q_vL, q_kI, q_kR, q_kL, q_ckI, envN, argE, List.flatMap_cons, List.flatMap_nil, Value.category, junk, oadd, osub, omul, oand, oor, oxor, odiv, orem, oshl, oshr, oushr, omax, omin]; simp [nI_1]
        refine q_kIe [.ref 147, .int (nI i), .int (stI (hnd w sp i s (nI m))), .int (nI m)] (by simp only [f_mkF, w_sI, w_sR, w_sL, w_sC, w_sk, w_sbr, w_sco, w_rV, w_rI, w_rR, w_rL, w_dI, w_sO, w_sq, w_si, w_pI, w_pZ, w_pR, w_pU, w_qI, w_qB, w_qZ, w_qU, w_qR, w_kV, q_icst, q_lcst, q_xR, q_ldI, q_ldR, q_ldL, q_bn, q_un, q_dv, q_fI, q_fR, q_aI, q_aR, q_aN, q_tn, q_cmp, q_cmz, q_cnt, q_ctt, q_cand, q_cor, q_vn, q_vI, q_vR, q_vL, q_kI, q_kR, q_kL, q_ckI, envN, argE, List.flatMap_cons, List.flatMap_nil, Value.category, junk, oadd, osub, omul, oand, oor, oxor, odiv, orem, oshl, oshr, oushr, omax, omin]; simp) (by simp [rcv, hn4, ly147]) ?_
        refine fq_mono (x_wait q4 tc4 hi nb2.1 hm) ?_
        rintro r h6 ⟨rfl, f6, tc6, e6⟩
        refine ⟨_, rfl, by have := f6.1; omega, rfl, h6, rfl, rfl, f6, tc6, ?_⟩
        rw [htm]; exact e6
      rintro E1 h5 ⟨h6, rfl, hh5, f6, tc6, e6⟩
      have f5' : Fr (fun a k => a = 151 ∧ k = i + 1) h6 h5 := by rw [hh5]; exact (Fr.refl h6).w ⟨rfl, rfl⟩
      have f5 : Fr SX h h5 := (f4.trans (f6.sub fun a k z => SW_SX z)).trans (f5'.sub fun a k z => by unfold SX; omega)
      have q5 : CX w T ra h5 := q.fr f5
      have tc5 : TC w h5 := tc6.fr f5' (fun k => by omega) (fun k => by omega) (by omega)
      have d51n : h5.2.1 151 (i + 1) = stI (nxt w sp i s (nI m)) := by rw [hh5]; simp [wI_i]
      clear hh5
      have hn5 := q5.hd.1
      have g6 : h5.2.2 147 6 = some 153 := q5.1.2.1.at 69 rfl
      have e65 : h5.2.1 147 15 = tmi w sp md i := (f5'.2.2 147 15 (by omega)).trans e6
      refine w_qIe 153 i (tmi w sp md i) ?_ ?_ ?_ (by omega) rfl i20 (by omega) ⟨fun _ => ?_, (fun z => by cases z), fun z => absurd rfl z⟩
      · simp only [f_mkF, w_sI, w_sR, w_sL, w_sC, w_sk, w_sbr, w_sco, w_rV, w_rI, w_rR, w_rL, w_dI, w_sO, w_sq, w_si, w_pI, w_pZ, w_pR, w_pU, w_qI, w_qB, w_qZ, w_qU, w_qR, w_kV, q_icst, q_lcst, q_xR, q_ldI, q_ldR, q_ldL, q_bn, q_un, q_dv, q_fI, q_fR, q_aI, q_aR, q_aN, q_tn, q_cmp, q_cmz, q_cnt, q_ctt, q_cand, q_cor, q_vn, q_vI, q_vR, q_vL, q_kI, q_kR, q_kL, q_ckI, envN, argE, List.flatMap_cons, List.flatMap_nil, Value.category, junk, oadd, osub, omul, oand, oor, oxor, odiv, orem, oshl, oshr, oushr, omax, omin]; simp [hn5, ly147, g6]
      · simp only [f_mkF, w_sI, w_sR, w_sL, w_sC, w_sk, w_sbr, w_sco, w_rV, w_rI, w_rR, w_rL, w_dI, w_sO, w_sq, w_si, w_pI, w_pZ, w_pR, w_pU, w_qI, w_qB, w_qZ, w_qU, w_qR, w_kV, q_icst, q_lcst, q_xR, q_ldI, q_ldR, q_ldL, q_bn, q_un, q_dv, q_fI, q_fR, q_aI, q_aR, q_aN, q_tn, q_cmp, q_cmz, q_cnt, q_ctt, q_cand, q_cor, q_vn, q_vI, q_vR, q_vL, q_kI, q_kR, q_kL, q_ckI, envN, argE, List.flatMap_cons, List.flatMap_nil, Value.category, junk, oadd, osub, omul, oand, oor, oxor, odiv, orem, oshl, oshr, oushr, omax, omin]; simp
      · simp only [f_mkF, w_sI, w_sR, w_sL, w_sC, w_sk, w_sbr, w_sco, w_rV, w_rI, w_rR, w_rL, w_dI, w_sO, w_sq, w_si, w_pI, w_pZ, w_pR, w_pU, w_qI, w_qB, w_qZ, w_qU, w_qR, w_kV, q_icst, q_lcst, q_xR, q_ldI, q_ldR, q_ldL, q_bn, q_un, q_dv, q_fI, q_fR, q_aI, q_aR, q_aN, q_tn, q_cmp, q_cmz, q_cnt, q_ctt, q_cand, q_cor, q_vn, q_vI, q_vR, q_vL, q_kI, q_kR, q_kL, q_ckI, envN, argE, List.flatMap_cons, List.flatMap_nil, Value.category, junk, oadd, osub, omul, oand, oor, oxor, odiv, orem, oshl, oshr, oushr, omax, omin]; simp [hn5, ly147, e65]
      have gk : ∀ a k, (151 ≤ a ∧ a ≤ 154) → ¬ (a = 151 ∧ k = i + 1) → h5.2.1 a k = h4.2.1 a k := fun a k z1 z2 => (f5'.2.2 a k z2).trans (f6.2.2 a k (by unfold SW; omega))
      refine w_sCe (nI i) (nI (i + 1)) rfl (nI_1 _) rfl ⟨rfl, W_n w - (i + 1), by omega, i + 1, _, _, rfl, hi, rfl, ⟨rfl, rfl⟩, f5.w (by unfold SX; omega), tc5.fr ((Fr.refl h5).w (S := fun a _ => a = 153) rfl) (fun k => by omega) (fun k => by omega) (by omega), fun k hk => ?_, fun k hk => ?_⟩
      · rw [wI_o (by decide)]
        by_cases hk1 : k = i + 1
        · rw [hk1, d51n, hnx]
        · rw [gk 151 k (by omega) (by omega), f4'.2.2 151 k (by omega), f3'.2.2 151 k (by omega)]
          exact hX2.1 k (by omega)
      · rw [wI_o (show (152 : Nat) ≠ 153 by decide), wI_o (show (154 : Nat) ≠ 153 by decide), wI_i]
        by_cases hk1 : k = i
        · subst hk1
          rw [gk 152 k (by omega) (by omega), gk 154 k (by omega) (by omega), f4'.2.2 152 k (by omega), hS]
          exact ⟨d52, by simp, d54⟩
        · rw [if_neg (by omega), gk 152 k (by omega) (by omega), gk 153 k (by omega) (by omega), gk 154 k (by omega) (by omega), d5k4 k hk1, f4'.2.2 152 k (by omega), f4'.2.2 153 k (by omega), d5k k hk1, f3'.2.2 153 k (by omega), f3'.2.2 154 k (by omega)]
          exact hX2.2 k (by omega)
    · have hin : i = W_n w := by omega
      subst hin
      refine ev_F ?_ ⟨fun _ => ⟨rfl, f, tc1, hX⟩, fun z => (by cases z)⟩
      simp only [f_mkF, w_sI, w_sR, w_sL, w_sC, w_sk, w_sbr, w_sco, w_rV, w_rI, w_rR, w_rL, w_dI, w_sO, w_sq, w_si, w_pI, w_pZ, w_pR, w_pU, w_qI, w_qB, w_qZ, w_qU, w_qR, w_kV, q_icst, q_lcst, q_xR, q_ldI, q_ldR, q_ldL, q_bn, q_un, q_dv, q_fI, q_fR, q_aI, q_aR, q_aN, q_tn, q_cmp, q_cmz, q_cnt, q_ctt, q_cand, q_cor, q_vn, q_vI, q_vR, q_vL, q_kI, q_kR, q_kL, q_ckI, envN, argE, List.flatMap_cons, List.flatMap_nil, Value.category, junk, oadd, osub, omul, oand, oor, oxor, odiv, orem, oshl, oshr, oushr, omax, omin]
      simp (disch := first | omega | simp) [rk_i, rk_b, rk_o, st1, kill, Value.category, rcv, nog, inI_b, nI_clamp, nI_ltI, nI_leI, nI_eq, nI_9, nI_6, nI_22, nI_12, nI_180, nI_add, nI_1, hn, ly147, a1, a2, a4, a7]
  · rintro o v E1 h1 ⟨rfl, f, tc1, hX⟩
    refine ⟨fun _ => ?_, fun z => absurd rfl z⟩
    rw [w_rV]
    exact Or.inl ⟨rfl, rfl, rfl, f, tc1, hX⟩
theorem x_now {w : Wd} {T : Nat} {ra : Nat → Nat} {h : Hp} (q : CX w T ra h) {s : Nat} (hs : s ≤ W_n w) (e : h.2.1 151 (W_n w) = stI s) : F_X1_ownerNow [.ref 147] h = some (some (.int (own w s (W_n w))), h) := by
  obtain ⟨hn, a1, a2, a3, a4, a5, a6, a7⟩ := q.hd
  rw [← fq_eq]
  unfold F_X1_ownerNow
  simp only [f_mkF, w_sI, w_sR, w_sL, w_sC, w_sk, w_sbr, w_sco, w_rV, w_rI, w_rR, w_rL, w_dI, w_sO, w_sq, w_si, w_pI, w_pZ, w_pR, w_pU, w_qI, w_qB, w_qZ, w_qU, w_qR, w_kV, q_icst, q_lcst, q_xR, q_ldI, q_ldR, q_ldL, q_bn, q_un, q_dv, q_fI, q_fR, q_aI, q_aR, q_aN, q_tn, q_cmp, q_cmz, q_cnt, q_ctt, q_cand, q_cor, q_vn, q_vI, q_vR, q_vL, q_kI, q_kR, q_kL, q_ckI, envN, argE, List.flatMap_cons, List.flatMap_nil, Value.category, junk, oadd, osub, omul, oand, oor, oxor, odiv, orem, oshl, oshr, oushr, omax, omin]
  simp (disch := first | omega | simp) [rk_i, rk_b, rk_o, st1, kill, Value.category, rcv, nog, inI_b, nI_clamp, nI_ltI, nI_leI, nI_eq, nI_9, nI_6, nI_22, nI_12, nI_180, nI_add, nI_1, hn, ly147, a1, a2, a4, a7, fq_of (x_ahead q (Nat.le_refl _) hs e)]
