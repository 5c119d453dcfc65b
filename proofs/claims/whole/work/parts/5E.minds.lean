/-! minds: the class spreads -/
theorem sh31_k : ∀ s, s < 32 → ((nI s).toUInt32 &&& Int32.toUInt32 31).toNat = s := by decide +kernel
theorem bI_t {x : Int32} {s : Nat} (hs : s < 32) : oand (oushr x (nI s)) 1 = 0 ↔ bI x s = false := by
  have h2 : oand (oushr x (nI s)) 1 = 0 ↔ (oand (oushr x (nI s)) 1).toBitVec = 0 := by
    constructor
    · intro z; rw [z]; rfl
    · intro z; exact Int32.toBitVec_inj.mp (z.trans rfl)
  rw [h2]
  have h3 : (oushr x (nI s)).toBitVec = x.toBitVec >>> s := by
    have hk := sh31_k s hs
    unfold oushr
    show (x.toUInt32 >>> ((nI s).toUInt32 &&& Int32.toUInt32 31)).toBitVec = _
    rw [UInt32.toBitVec_shiftRight]
    show x.toBitVec >>> (((nI s).toUInt32 &&& Int32.toUInt32 31).toBitVec % 32) = _
    rw [BitVec.ushiftRight_eq']
    congr 1
    rw [BitVec.toNat_umod]
    show ((nI s).toUInt32 &&& Int32.toUInt32 31).toNat % 32 = s
    rw [hk]
    omega
  have h4 : (oand (oushr x (nI s)) 1).toBitVec = (x.toBitVec >>> s) &&& 1#32 := by
    show (oushr x (nI s)).toBitVec &&& (1 : Int32).toBitVec = _
    rw [h3]
    rfl
  rw [h4]
  unfold bI
  constructor
  · intro z
    have := congrArg (fun v => v.getLsbD 0) z
    simp at this
    exact this
  · intro z
    apply BitVec.eq_of_getLsbD_eq
    intro k hk
    rw [BitVec.getLsbD_and, BitVec.getLsbD_ushiftRight]
    by_cases k0 : k = 0
    · subst k0
      simp [z]
    · have : (1#32).getLsbD k = false := by
        rw [BitVec.getLsbD_one]
        simp [k0]
      rw [this]
      simp
theorem ev_bit {a b : DI} {E : En} {h : Hp} (x : Int32) (s : Nat) (hs : s < 32) (ha : ev a E h fun v h1 => v = x ∧ h1 = h) (hb : ev b E h fun v h1 => v = nI s ∧ h1 = h) : ev (cnt (cmz zeq (bn oand (bn oushr a b) (icst 1)))) E h fun t h1 => t = bI x s ∧ h1 = h := by
  rw [q_cnt, q_cmz, q_bn, q_bn]
  refine ev_mono ha ?_
  rintro v h1 ⟨rfl, rfl⟩
  refine ev_mono hb ?_
  rintro v2 h1 ⟨rfl, rfl⟩
  rw [q_icst]
  refine ⟨?_, rfl⟩
  have bt := bI_t (x := v) hs
  cases hc : bI v s with
  | false =>
    rw [bt.mpr hc]
    rfl
  | true =>
    have : ¬ oand (oushr v (nI s)) 1 = 0 := fun z => by rw [bt.mp z] at hc; cases hc
    generalize oand (oushr v (nI s)) 1 = z at *
    simp [this]
def nk (i s m : Nat) : Nat := (i * 21 + s) * 3 + m
/-- what spread has found for the first i passings -/
def SPR (w : Wd) (i : Nat) (h : Hp) : Prop := (∀ k, k ≤ i → ∀ s, s < 32 → (bI (h.2.1 158 k) s = true ↔ Rch w k s)) ∧ ∀ k, k < i → ∀ s (m : Nat), Rch w k s → (W_R w k 6).toInt ≤ (m : Int) → (m : Int) ≤ (W_R w k 7).toInt → h.2.1 159 (nk k s m) = nI (nxt w 0 k s (nI m))
def SSpr (a k : Nat) : Prop := SX a k ∨ a = 158 ∨ a = 159
theorem stI_1 (s : Nat) : stI s + 1 = nI s := by
  unfold stI
  by_cases z : s = 0
  · rw [if_pos z, z]; rfl
  · rw [if_neg z, nI_1, show s - 1 + 1 = s by omega]
theorem nI_st (s : Nat) : nI s - 1 = stI s := by
  unfold stI
  by_cases z : s = 0
  · rw [if_pos z, z]; rfl
  · obtain ⟨k, rfl⟩ : ∃ k, s = k + 1 := ⟨s - 1, by omega⟩
    rw [if_neg z, nI_pred]
    rfl
theorem nI_x21 (a : Nat) : nI a * 21 = nI (a * 21) := nI_mul a 21
theorem x_spread {w : Wd} {T : Nat} {ra : Nat → Nat} {h : Hp} (q : CX w T ra h) (tc : TC w h) (hs1 : h.2.1 147 14 = 0) : fq F_X2_spread [.ref 157] h fun r h' => r = none ∧ Fr SSpr h h' ∧ CX w T ra h' ∧ TC w h' ∧ SPR w (W_n w) h' := by
  have hn := q.hd.1
  have n20 := q.wv.1
  have p1 : h.2.2 157 1 = some 158 := q.1.2.1.at 76 rfl
  have k21 : (21 : Int32) = nI 21 := rfl
  unfold F_X2_spread
  refine f_mkE [.ref 157, junk, junk, junk, junk, junk, junk] rfl (by simp [argE, Value.category]) ?_
  refine w_sqS (fun E1 h4 => E1 = [.ref 157, junk, junk, junk, junk, junk, junk] ∧ h4 = wI h 158 0 1) (w_qIe 158 0 1 ?_ ?_ ?_ (by omega) rfl (by omega) (by omega) ⟨rfl, rfl, rfl⟩) ?_
  · simp only [f_mkF, w_sI, w_sR, w_sL, w_sC, w_sk, w_sbr, w_sco, w_rV, w_rI, w_rR, w_rL, w_dI, w_sO, w_sq, w_si, w_pI, w_pZ, w_pR, w_pU, w_qI, w_qB, w_qZ, w_qU, w_qR, w_kV, q_icst, q_lcst, q_xR, q_ldI, q_ldR, q_ldL, q_bn, q_un, q_dv, q_fI, q_fR, q_aI, q_aR, q_aN, q_tn, q_cmp, q_cmz, q_cnt, q_ctt, q_cand, q_cor, q_vn, q_vI, q_vR, q_vL, q_kI, q_kR, q_kL, q_ckI, envN, argE, List.flatMap_cons, List.flatMap_nil, Value.category, junk, oadd, osub, omul, oand, oor, oxor, odiv, orem, oshl, oshr, oushr, omax, omin]; simp [hn, ly157, p1]
  · simp only [f_mkF, w_sI, w_sR, w_sL, w_sC, w_sk, w_sbr, w_sco, w_rV, w_rI, w_rR, w_rL, w_dI, w_sO, w_sq, w_si, w_pI, w_pZ, w_pR, w_pU, w_qI, w_qB, w_qZ, w_qU, w_qR, w_kV, q_icst, q_lcst, q_xR, q_ldI, q_ldR, q_ldL, q_bn, q_un, q_dv, q_fI, q_fR, q_aI, q_aR, q_aN, q_tn, q_cmp, q_cmz, q_cnt, q_ctt, q_cand, q_cor, q_vn, q_vI, q_vR, q_vL, q_kI, q_kR, q_kL, q_ckI, envN, argE, List.flatMap_cons, List.flatMap_nil, Value.category, junk, oadd, osub, omul, oand, oor, oxor, odiv, orem, oshl, oshr, oushr, omax, omin]; simp [nI_0]
  · simp only [f_mkF, w_sI, w_sR, w_sL, w_sC, w_sk, w_sbr, w_sco, w_rV, w_rI, w_rR, w_rL, w_dI, w_sO, w_sq, w_si, w_pI, w_pZ, w_pR, w_pU, w_qI, w_qB, w_qZ, w_qU, w_qR, w_kV, q_icst, q_lcst, q_xR, q_ldI, q_ldR, q_ldL, q_bn, q_un, q_dv, q_fI, q_fR, q_aI, q_aR, q_aN, q_tn, q_cmp, q_cmz, q_cnt, q_ctt, q_cand, q_cor, q_vn, q_vI, q_vR, q_vL, q_kI, q_kR, q_kL, q_ckI, envN, argE, List.flatMap_cons, List.flatMap_nil, Value.category, junk, oadd, osub, omul, oand, oor, oxor, odiv, orem, oshl, oshr, oushr, omax, omin]; simp
  rintro E1 h0 ⟨rfl, hh0⟩
  have f0' : Fr (fun a _ => a = 158) h h0 := by rw [hh0]; exact (Fr.refl h).w rfl
  have f0 : Fr SSpr h h0 := f0'.sub fun a k z => Or.inr (Or.inl z)
  have gCX : ∀ h', Fr SSpr h h' → CX w T ra h' := fun h' f => q.gen f fun a k z => by unfold SSpr SX; omega
  have tc0 : TC w h0 := tc.fr f0' (fun k => by omega) (fun k => by omega) (by omega)
  have sp0 : SPR w 0 h0 := by
    refine ⟨fun k hk s hs => ?_, fun k hk => by omega⟩
    rw [show k = 0 by omega, Rch_0, hh0]
    have e : (wI h 158 0 1).2.1 158 0 = oshl 1 (nI 0) := by rw [wI_i, if_pos ⟨rfl, rfl⟩]; rfl
    rw [e, bI_shl 0 (by omega) s hs]
    simp
  clear hh0
  refine w_sq.mpr ?_
  refine w_sqI (E' := [.ref 157, .int (nI 0), junk, junk, junk, junk, junk]) (nI 0) (by simp only [f_mkF, w_sI, w_sR, w_sL, w_sC, w_sk, w_sbr, w_sco, w_rV, w_rI, w_rR, w_rL, w_dI, w_sO, w_sq, w_si, w_pI, w_pZ, w_pR, w_pU, w_qI, w_qB, w_qZ, w_qU, w_qR, w_kV, q_icst, q_lcst, q_xR, q_ldI, q_ldR, q_ldL, q_bn, q_un, q_dv, q_fI, q_fR, q_aI, q_aR, q_aN, q_tn, q_cmp, q_cmz, q_cnt, q_ctt, q_cand, q_cor, q_vn, q_vI, q_vR, q_vL, q_kI, q_kR, q_kL, q_ckI, envN, argE, List.flatMap_cons, List.flatMap_nil, Value.category, junk, oadd, osub, omul, oand, oor, oxor, odiv, orem, oshl, oshr, oushr, omax, omin]; simp [nI_0]) rfl ?_
  refine wp_mono (w_lp (Q := fun o _ _ h' => o = 0 ∧ Fr SSpr h h' ∧ TC w h' ∧ SPR w (W_n w) h') (fun k E h' => ∃ i v2 v3 v4 v5 v6, k = W_n w - i ∧ i ≤ W_n w ∧ E = [.ref 157, .int (nI i), v2, v3, v4, v5, v6] ∧ (v2.category = 1 ∧ v3.category = 1 ∧ v4.category = 1 ∧ v5.category = 1 ∧ v6.category = 1) ∧ Fr SSpr h h' ∧ TC w h' ∧ SPR w i h') ?_ (W_n w) _ _ ⟨0, junk, junk, junk, junk, junk, rfl, by omega, rfl, ⟨rfl, rfl, rfl, rfl, rfl⟩, f0, tc0, sp0⟩) ?_
  · rintro k E h' ⟨i, v2, v3, v4, v5, v6, rfl, hi', rfl, ⟨c2, c3, c4, c5, c6⟩, f, tc1, sp⟩
    have q1 := gCX h' f
    obtain ⟨hn1, a1, a2, a3, a4, a5, a6, a7⟩ := q1.hd
    have p0' : h'.2.2 157 0 = some 147 := q1.1.2.1.at 75 rfl
    by_cases hi : i < W_n w
    · refine ev_T ?_ ⟨fun z => (by cases z), fun _ => ?_⟩
      · simp only [f_mkF, w_sI, w_sR, w_sL, w_sC, w_sk, w_sbr, w_sco, w_rV, w_rI, w_rR, w_rL, w_dI, w_sO, w_sq, w_si, w_pI, w_pZ, w_pR, w_pU, w_qI, w_qB, w_qZ, w_qU, w_qR, w_kV, q_icst, q_lcst, q_xR, q_ldI, q_ldR, q_ldL, q_bn, q_un, q_dv, q_fI, q_fR, q_aI, q_aR, q_aN, q_tn, q_cmp, q_cmz, q_cnt, q_ctt, q_cand, q_cor, q_vn, q_vI, q_vR, q_vL, q_kI, q_kR, q_kL, q_ckI, envN, argE, List.flatMap_cons, List.flatMap_nil, Value.category, junk, oadd, osub, omul, oand, oor, oxor, odiv, orem, oshl, oshr, oushr, omax, omin]
        simp (disch := first | omega | simp) [rk_i, rk_b, rk_o, st1, kill, Value.category, rcv, nog, inI_b, nI_clamp, nI_ltI, nI_leI, nI_eq, nI_9, nI_6, nI_22, nI_12, nI_180, nI_add, nI_1, hn1, ly157, ly147, p0', a1, a2, a4, a7, hi]
      obtain ⟨i20, b1, b2', b3, b4⟩ := q1.row hi
      obtain ⟨lo, hh, e1, e2, e3, e4, -⟩ := q1.wv.mi hi
      have i21 : i + 1 < 21 := by omega
      have ra147 : ra i < 147 := by have := q1.2.2.1.2.2.1 i (by omega); have := q1.2.2.1.1.2.2.1; omega
      refine w_sqR (E' := [.ref 157, .int (nI i), .ref (ra i), v3, v4, v5, v6]) (ra i) ?_ (by simp [st1, kill, Value.category]) ?_
      · simp only [f_mkF, w_sI, w_sR, w_sL, w_sC, w_sk, w_sbr, w_sco, w_rV, w_rI, w_rR, w_rL, w_dI, w_sO, w_sq, w_si, w_pI, w_pZ, w_pR, w_pU, w_qI, w_qB, w_qZ, w_qU, w_qR, w_kV, q_icst, q_lcst, q_xR, q_ldI, q_ldR, q_ldL, q_bn, q_un, q_dv, q_fI, q_fR, q_aI, q_aR, q_aN, q_tn, q_cmp, q_cmz, q_cnt, q_ctt, q_cand, q_cor, q_vn, q_vI, q_vR, q_vL, q_kI, q_kR, q_kL, q_ckI, envN, argE, List.flatMap_cons, List.flatMap_nil, Value.category, junk, oadd, osub, omul, oand, oor, oxor, odiv, orem, oshl, oshr, oushr, omax, omin]
        simp (disch := first | omega | simp) [rk_i, rk_b, rk_o, st1, kill, Value.category, rcv, nog, inI_b, nI_clamp, nI_ltI, nI_leI, nI_eq, nI_9, nI_6, nI_22, nI_12, nI_180, nI_add, nI_1, hn1, ly157, ly147, p0', a1, a2, a3, a4, a5, a6, b1, i20]
      have p1' : h'.2.2 157 1 = some 158 := q1.1.2.1.at 76 rfl
      refine w_sqS (fun E1 h4 => E1 = [.ref 157, .int (nI i), .ref (ra i), v3, v4, v5, v6] ∧ h4 = wI h' 158 (i + 1) 0) (w_qIe 158 (i + 1) 0 ?_ ?_ ?_ (by omega) rfl i21 (by omega) ⟨rfl, rfl, rfl⟩) ?_
      · simp only [f_mkF, w_sI, w_sR, w_sL, w_sC, w_sk, w_sbr, w_sco, w_rV, w_rI, w_rR, w_rL, w_dI, w_sO, w_sq, w_si, w_pI, w_pZ, w_pR, w_pU, w_qI, w_qB, w_qZ, w_qU, w_qR, w_kV, q_icst, q_lcst, q_xR, q_ldI, q_ldR, q_ldL, q_bn, q_un, q_dv, q_fI, q_fR, q_aI, q_aR, q_aN, q_tn, q_cmp, q_cmz, q_cnt, q_ctt, q_cand, q_cor, q_vn, q_vI, q_vR, q_vL, q_kI, q_kR, q_kL, q_ckI, envN, argE, List.flatMap_cons, List.flatMap_nil, Value.category, junk, oadd, osub, omul, oand, oor, oxor, odiv, orem, oshl, oshr, oushr, omax, omin]; simp [hn1, ly157, p1']
      · simp only [f_mkF, w_sI, w_sR, w_sL, w_sC, w_sk, w_sbr, w_sco, w_rV, w_rI, w_rR, w_rL, w_dI, w_sO, w_sq, w_si, w_pI, w_pZ, w_pR, w_pU, w_qI, w_qB, w_qZ, w_qU, w_qR, w_kV, q_icst, q_lcst, q_xR, q_ldI, q_ldR, q_ldL, q_bn, q_un, q_dv, q_fI, q_fR, q_aI, q_aR, q_aN, q_tn, q_cmp, q_cmz, q_cnt, q_ctt, q_cand, q_cor, q_vn, q_vI, q_vR, q_vL, q_kI, q_kR, q_kL, q_ckI, envN, argE, List.flatMap_cons, List.flatMap_nil, Value.category, junk, oadd, osub, omul, oand, oor, oxor, odiv, orem, oshl, oshr, oushr, omax, omin]; simp [nI_1]
      · simp only [f_mkF, w_sI, w_sR, w_sL, w_sC, w_sk, w_sbr, w_sco, w_rV, w_rI, w_rR, w_rL, w_dI, w_sO, w_sq, w_si, w_pI, w_pZ, w_pR, w_pU, w_qI, w_qB, w_qZ, w_qU, w_qR, w_kV, q_icst, q_lcst, q_xR, q_ldI, q_ldR, q_ldL, q_bn, q_un, q_dv, q_fI, q_fR, q_aI, q_aR, q_aN, q_tn, q_cmp, q_cmz, q_cnt, q_ctt, q_cand, q_cor, q_vn, q_vI, q_vR, q_vL, q_kI, q_kR, q_kL, q_ckI, envN, argE, List.flatMap_cons, List.flatMap_nil, Value.category, junk, oadd, osub, omul, oand, oor, oxor, odiv, orem, oshl, oshr, oushr, omax, omin]; simp
      rintro E1 h1 ⟨rfl, hh1⟩
      have f1' : Fr (fun a k => a = 158 ∧ k = i + 1) h' h1 := by rw [hh1]; exact (Fr.refl h').w ⟨rfl, rfl⟩
      have z1 : h1.2.1 158 (i + 1) = 0 := by rw [hh1]; simp [wI_i]
      clear hh1
      have f1 : Fr SSpr h h1 := f.trans (f1'.sub fun a k z => Or.inr (Or.inl z.1))
      have tc2 : TC w h1 := tc1.fr f1' (fun k => by omega) (fun k => by omega) (by omega)
      have sp1 : SPR w i h1 := ⟨fun k hk s hs => by rw [f1'.2.2 158 k (by omega)]; exact sp.1 k hk s hs, fun k hk s m x1 x2 x3 => by rw [f1'.2.2 159 _ (by omega)]; exact sp.2 k hk s m x1 x2 x3⟩
      refine w_sqI (E' := [.ref 157, .int (nI i), .ref (ra i), .int (nI 0), v4, v5, v6]) (nI 0) (by simp only [f_mkF, w_sI, w_sR, w_sL, w_sC, w_sk, w_sbr, w_sco, w_rV, w_rI, w_rR, w_rL, w_dI, w_sO, w_sq, w_si, w_pI, w_pZ, w_pR, w_pU, w_qI, w_qB, w_qZ, w_qU, w_qR, w_kV, q_icst, q_lcst, q_xR, q_ldI, q_ldR, q_ldL, q_bn, q_un, q_dv, q_fI, q_fR, q_aI, q_aR, q_aN, q_tn, q_cmp, q_cmz, q_cnt, q_ctt, q_cand, q_cor, q_vn, q_vI, q_vR, q_vL, q_kI, q_kR, q_kL, q_ckI, envN, argE, List.flatMap_cons, List.flatMap_nil, Value.category, junk, oadd, osub, omul, oand, oor, oxor, odiv, orem, oshl, oshr, oushr, omax, omin]; simp [nI_0]) (by simp [st1, kill, Value.category]) ?_

      refine wp_mono (w_lp (Q := fun o _ E1 h' => o = 0 ∧ (∃ v3 v4 v5 v6, E1 = [.ref 157, .int (nI i), .ref (ra i), v3, v4, v5, v6] ∧ v3.category = 1 ∧ v4.category = 1 ∧ v5.category = 1 ∧ v6.category = 1) ∧ Fr SSpr h h' ∧ TC w h' ∧ SPR w i h' ∧ (∀ s', s' < 32 → (bI (h'.2.1 158 (i + 1)) s' = true ↔ ∃ s0 m0, s0 < 21 ∧ Rch w i s0 ∧ lo ≤ m0 ∧ m0 ≤ hh ∧ nxt w 0 i s0 (nI m0) = s')) ∧ ∀ s0 m0, s0 < 21 → Rch w i s0 → lo ≤ m0 → m0 ≤ hh → h'.2.1 159 (nk i s0 m0) = nI (nxt w 0 i s0 (nI m0))) (fun k E h' => ∃ s v4 v5 v6, k = 21 - s ∧ s ≤ 21 ∧ E = [.ref 157, .int (nI i), .ref (ra i), .int (nI s), v4, v5, v6] ∧ (v4.category = 1 ∧ v5.category = 1 ∧ v6.category = 1) ∧ Fr SSpr h h' ∧ TC w h' ∧ SPR w i h' ∧ (∀ s', s' < 32 → (bI (h'.2.1 158 (i + 1)) s' = true ↔ ∃ s0 m0, s0 < s ∧ Rch w i s0 ∧ lo ≤ m0 ∧ m0 ≤ hh ∧ nxt w 0 i s0 (nI m0) = s')) ∧ ∀ s0 m0, s0 < s → Rch w i s0 → lo ≤ m0 → m0 ≤ hh → h'.2.1 159 (nk i s0 m0) = nI (nxt w 0 i s0 (nI m0))) ?_ 21 _ _ ⟨0, v4, v5, v6, rfl, by omega, rfl, ⟨c4, c5, c6⟩, f1, tc2, sp1, fun s' hs' => by rw [z1, bI_0]; constructor; (intro z; cases z); (rintro ⟨s0, m0, z, -⟩; omega), fun s0 m0 z => by omega⟩) ?_
      · rintro k E h2 ⟨s, v4, v5, v6, rfl, hs, rfl, ⟨c4, c5, c6⟩, f2, tc3, sp2, hb2, hx2⟩
        by_cases hs21 : s < 21
        · refine ev_T ?_ ⟨fun z => (by cases z), fun _ => ?_⟩
          · simp only [f_mkF, w_sI, w_sR, w_sL, w_sC, w_sk, w_sbr, w_sco, w_rV, w_rI, w_rR, w_rL, w_dI, w_sO, w_sq, w_si, w_pI, w_pZ, w_pR, w_pU, w_qI, w_qB, w_qZ, w_qU, w_qR, w_kV, q_icst, q_lcst, q_xR, q_ldI, q_ldR, q_ldL, q_bn, q_un, q_dv, q_fI, q_fR, q_aI, q_aR, q_aN, q_tn, q_cmp, q_cmz, q_cnt, q_ctt, q_cand, q_cor, q_vn, q_vI, q_vR, q_vL, q_kI, q_kR, q_kL, q_ckI, envN, argE, List.flatMap_cons, List.flatMap_nil, Value.category, junk, oadd, osub, omul, oand, oor, oxor, odiv, orem, oshl, oshr, oushr, omax, omin]
            simp (disch := first | omega | simp) [rk_i, rk_b, rk_o, st1, kill, Value.category, rcv, nog, inI_b, nI_clamp, nI_ltI, nI_leI, nI_eq, nI_9, nI_6, nI_22, nI_12, nI_180, nI_add, nI_1, k21, hs21]
          have q2 := gCX h2 f2
          obtain ⟨-, -, r1, r2, r4⟩ := q2.row hi
          have hn2 := q2.1.1
          have r46 := r4 6 (by omega)
          have r47 := r4 7 (by omega)
          rw [e1] at r46
          rw [e2] at r47
          refine w_sqI (E' := [.ref 157, .int (nI i), .ref (ra i), .int (nI s), .int (nI lo), v5, v6]) (nI lo) (by simp only [f_mkF, w_sI, w_sR, w_sL, w_sC, w_sk, w_sbr, w_sco, w_rV, w_rI, w_rR, w_rL, w_dI, w_sO, w_sq, w_si, w_pI, w_pZ, w_pR, w_pU, w_qI, w_qB, w_qZ, w_qU, w_qR, w_kV, q_icst, q_lcst, q_xR, q_ldI, q_ldR, q_ldL, q_bn, q_un, q_dv, q_fI, q_fR, q_aI, q_aR, q_aN, q_tn, q_cmp, q_cmz, q_cnt, q_ctt, q_cand, q_cor, q_vn, q_vI, q_vR, q_vL, q_kI, q_kR, q_kL, q_ckI, envN, argE, List.flatMap_cons, List.flatMap_nil, Value.category, junk, oadd, osub, omul, oand, oor, oxor, odiv, orem, oshl, oshr, oushr, omax, omin]; simp [rk_i, rk_b, rk_o, st1, kill, Value.category, rcv, nog, hn2, r1, r2, r46]) (by simp [st1, kill, Value.category]) ?_
          refine wp_mono (w_lp (Q := fun o _ E1 h' => o = 0 ∧ (∃ v4 v5 v6, E1 = [.ref 157, .int (nI i), .ref (ra i), .int (nI s), v4, v5, v6] ∧ v4.category = 1 ∧ v5.category = 1 ∧ v6.category = 1) ∧ Fr SSpr h h' ∧ TC w h' ∧ SPR w i h' ∧ (∀ s', s' < 32 → (bI (h'.2.1 158 (i + 1)) s' = true ↔ ∃ s0 m0, s0 < s + 1 ∧ Rch w i s0 ∧ lo ≤ m0 ∧ m0 ≤ hh ∧ nxt w 0 i s0 (nI m0) = s')) ∧ ∀ s0 m0, s0 < s + 1 → Rch w i s0 → lo ≤ m0 → m0 ≤ hh → h'.2.1 159 (nk i s0 m0) = nI (nxt w 0 i s0 (nI m0))) (fun k E h' => ∃ m v5 v6, k = hh + 1 - m ∧ lo ≤ m ∧ m ≤ hh + 1 ∧ E = [.ref 157, .int (nI i), .ref (ra i), .int (nI s), .int (nI m), v5, v6] ∧ (v5.category = 1 ∧ v6.category = 1) ∧ Fr SSpr h h' ∧ TC w h' ∧ SPR w i h' ∧ (∀ s', s' < 32 → (bI (h'.2.1 158 (i + 1)) s' = true ↔ ∃ s0 m0, (s0 < s ∨ (s0 = s ∧ m0 < m)) ∧ Rch w i s0 ∧ lo ≤ m0 ∧ m0 ≤ hh ∧ nxt w 0 i s0 (nI m0) = s')) ∧ ∀ s0 m0, (s0 < s ∨ (s0 = s ∧ m0 < m)) → Rch w i s0 → lo ≤ m0 → m0 ≤ hh → h'.2.1 159 (nk i s0 m0) = nI (nxt w 0 i s0 (nI m0))) ?_ (hh + 1 - lo) _ _ ⟨lo, v5, v6, rfl, by omega, by omega, rfl, ⟨c5, c6⟩, f2, tc3, sp2, fun s' hs' => by rw [hb2 s' hs']; constructor; (rintro ⟨s0, m0, y1, y2, y3, y4⟩; exact ⟨s0, m0, Or.inl y1, y2, y3, y4⟩); (rintro ⟨s0, m0, y1, y2, y3, y4⟩; exact ⟨s0, m0, by omega, y2, y3, y4⟩), fun s0 m0 y1 y2 y3 y4 => hx2 s0 m0 (by omega) y2 y3 y4⟩) ?_
          · rintro k E h3 ⟨m, v5, v6, rfl, hm1, hm2, rfl, ⟨c5, c6⟩, f3, tc4, sp3, hb3, hx3⟩
            have q3 := gCX h3 f3
            obtain ⟨hn3, g1, g2, g3, g4, g5, g6, g7⟩ := q3.hd
            obtain ⟨-, -, r1, r2, r4⟩ := q3.row hi
            have r47 := r4 7 (by omega)
            rw [e2] at r47
            have p13 : h3.2.2 157 1 = some 158 := q3.1.2.1.at 76 rfl
            have p03 : h3.2.2 157 0 = some 147 := q3.1.2.1.at 75 rfl
            have p23 : h3.2.2 157 2 = some 159 := q3.1.2.1.at 77 rfl
            have i21' : i < 21 := by omega
            have hbit : ev (cnt (cmz zeq (bn oand (bn oushr (aI 13 (fR 2 1 (ldR 0)) (ldI 1)) (ldI 3)) (icst 1)))) [.ref 157, .int (nI i), .ref (ra i), .int (nI s), .int (nI m), v5, v6] h3 fun t h4 => t = bI (h3.2.1 158 i) s ∧ h4 = h3 := ev_bit _ s (by omega) (by simp only [f_mkF, w_sI, w_sR, w_sL, w_sC, w_sk, w_sbr, w_sco, w_rV, w_rI, w_rR, w_rL, w_dI, w_sO, w_sq, w_si, w_pI, w_pZ, w_pR, w_pU, w_qI, w_qB, w_qZ, w_qU, w_qR, w_kV, q_icst, q_lcst, q_xR, q_ldI, q_ldR, q_ldL, q_bn, q_un, q_dv, q_fI, q_fR, q_aI, q_aR, q_aN, q_tn, q_cmp, q_cmz, q_cnt, q_ctt, q_cand, q_cor, q_vn, q_vI, q_vR, q_vL, q_kI, q_kR, q_kL, q_ckI, envN, argE, List.flatMap_cons, List.flatMap_nil, Value.category, junk, oadd, osub, omul, oand, oor, oxor, odiv, orem, oshl, oshr, oushr, omax, omin]; simp (disch := first | omega | simp) [rk_i, rk_b, rk_o, st1, kill, Value.category, rcv, nog, inI_b, nI_clamp, nI_ltI, nI_leI, nI_eq, nI_9, nI_6, nI_22, nI_12, nI_180, nI_add, nI_1, hn3, ly157, ly158, p13, i21']) (by simp only [f_mkF, w_sI, w_sR, w_sL, w_sC, w_sk, w_sbr, w_sco, w_rV, w_rI, w_rR, w_rL, w_dI, w_sO, w_sq, w_si, w_pI, w_pZ, w_pR, w_pU, w_qI, w_qB, w_qZ, w_qU, w_qR, w_kV, q_icst, q_lcst, q_xR, q_ldI, q_ldR, q_ldL, q_bn, q_un, q_dv, q_fI, q_fR, q_aI, q_aR, q_aN, q_tn, q_cmp, q_cmz, q_cnt, q_ctt, q_cand, q_cor, q_vn, q_vI, q_vR, q_vL, q_kI, q_kR, q_kL, q_ckI, envN, argE, List.flatMap_cons, List.flatMap_nil, Value.category, junk, oadd, osub, omul, oand, oor, oxor, odiv, orem, oshl, oshr, oushr, omax, omin]; simp)
            have hR := sp3.1 i (Nat.le_refl _) s (by omega)
            rw [q_cand]
            refine ev_mono hbit ?_
            rintro t h4 ⟨rfl, rfl⟩
            refine ⟨fun c1 => ?_, fun c1 => ?_⟩
            · have hRs := hR.mp c1
              have hsi := Rch_le hRs
              by_cases hmh : m ≤ hh
              · refine ev_T ?_ ⟨fun z => (by cases z), fun _ => ?_⟩
                · simp only [f_mkF, w_sI, w_sR, w_sL, w_sC, w_sk, w_sbr, w_sco, w_rV, w_rI, w_rR, w_rL, w_dI, w_sO, w_sq, w_si, w_pI, w_pZ, w_pR, w_pU, w_qI, w_qB, w_qZ, w_qU, w_qR, w_kV, q_icst, q_lcst, q_xR, q_ldI, q_ldR, q_ldL, q_bn, q_un, q_dv, q_fI, q_fR, q_aI, q_aR, q_aN, q_tn, q_cmp, q_cmz, q_cnt, q_ctt, q_cand, q_cor, q_vn, q_vI, q_vR, q_vL, q_kI, q_kR, q_kL, q_ckI, envN, argE, List.flatMap_cons, List.flatMap_nil, Value.category, junk, oadd, osub, omul, oand, oor, oxor, odiv, orem, oshl, oshr, oushr, omax, omin]
                  simp (disch := first | omega | simp) [rk_i, rk_b, rk_o, st1, kill, Value.category, rcv, nog, inI_b, nI_clamp, nI_ltI, nI_leI, nI_eq, nI_9, nI_6, nI_22, nI_12, nI_180, nI_add, nI_1, hn3, r1, r2, r47, hmh]
                have nbs : NB w s i := by
                  obtain ⟨md, -, e⟩ := hRs
                  rw [← e]
                  exact stt_nb w 0 md i
                have nb2 := nbs.h 0 (nI m)
                have s41 : h4.2.1 147 14 = nI 0 := (f3.2.2 147 14 (by unfold SSpr SX; omega)).trans hs1
                refine w_sqS (fun E1 h5 => E1 = [.ref 157, .int (nI i), .ref (ra i), .int (nI s), .int (nI m), .int (stI (hnd w 0 i s (nI m))), v6] ∧ Fr S9 h4 h5) ?_ ?_
                · rw [w_sI]
                  refine q_kIe [.ref 147, .int (nI i), .int (stI s), .int (nI m)] (by simp only [f_mkF, w_sI, w_sR, w_sL, w_sC, w_sk, w_sbr, w_sco, w_rV, w_rI, w_rR, w_rL, w_dI, w_sO, w_sq, w_si, w_pI, w_pZ, w_pR, w_pU, w_qI, w_qB, w_qZ, w_qU, w_qR, w_kV, q_icst, q_lcst, q_xR, q_ldI, q_ldR, q_ldL, q_bn, q_un, q_dv, q_fI, q_fR, q_aI, q_aR, q_aN, q_tn, q_cmp, q_cmz, q_cnt, q_ctt, q_cand, q_cor, q_vn, q_vI, q_vR, q_vL, q_kI, q_kR, q_kL, q_ckI, envN, argE, List.flatMap_cons, List.flatMap_nil, Value.category, junk, oadd, osub, omul, oand, oor, oxor, odiv, orem, oshl, oshr, oushr, omax, omin]; simp [rk_i, rk_b, rk_o, st1, kill, Value.category, rcv, nog, hn3, ly157, p03, nI_st]) (by simp [rcv, hn3, ly147]) ?_
                  refine fq_mono (x_hand q3 s41 (by omega) hi hsi (nI m)) ?_
                  rintro r h5 ⟨rfl, f5⟩
                  exact ⟨_, rfl, rfl, by simp [st1, kill, Value.category], f5⟩
                rintro E1 h5 ⟨rfl, f5⟩
                have f5' : Fr SSpr h h5 := f3.trans (f5.sub fun a k z => Or.inl (S9_SX z))
                have q5 := gCX h5 f5'
                have tc5 : TC w h5 := tc4.fr f5 (fun k => by unfold S9; omega) (fun k => by unfold S9; omega) (by unfold S9; omega)
                have hn5 := q5.1.1
                have p05 : h5.2.2 157 0 = some 147 := q5.1.2.1.at 75 rfl
                refine w_sqS (fun E1 h6 => E1 = [.ref 157, .int (nI i), .ref (ra i), .int (nI s), .int (nI m), .int (stI (hnd w 0 i s (nI m))), .int (nI (nxt w 0 i s (nI m)))] ∧ Fr SW h5 h6 ∧ TC w h6) ?_ ?_
                · rw [w_sI, q_bn]
                  refine q_kIe [.ref 147, .int (nI i), .int (stI (hnd w 0 i s (nI m))), .int (nI m)] (by simp only [f_mkF, w_sI, w_sR, w_sL, w_sC, w_sk, w_sbr, w_sco, w_rV, w_rI, w_rR, w_rL, w_dI, w_sO, w_sq, w_si, w_pI, w_pZ, w_pR, w_pU, w_qI, w_qB, w_qZ, w_qU, w_qR, w_kV, q_icst, q_lcst, q_xR, q_ldI, q_ldR, q_ldL, q_bn, q_un, q_dv, q_fI, q_fR, q_aI, q_aR, q_aN, q_tn, q_cmp, q_cmz, q_cnt, q_ctt, q_cand, q_cor, q_vn, q_vI, q_vR, q_vL, q_kI, q_kR, q_kL, q_ckI, envN, argE, List.flatMap_cons, List.flatMap_nil, Value.category, junk, oadd, osub, omul, oand, oor, oxor, odiv, orem, oshl, oshr, oushr, omax, omin]; simp [rk_i, rk_b, rk_o, st1, kill, Value.category, rcv, nog, hn5, ly157, p05]) (by simp [rcv, hn5, ly147]) ?_
                  refine fq_mono (x_wait q5 tc5 hi nb2.1 (by omega)) ?_
                  rintro r h6 ⟨rfl, f6, tc6, -⟩
                  refine ⟨_, rfl, ?_⟩
                  rw [q_icst]
                  refine ⟨rfl, ?_, f6, tc6⟩
                  have : (if hnd w 0 i s (nI m) = 0 then 0 else if (wtm w i (hnd w 0 i s (nI m) - 1) (nI m)).isSome = true then 0 else hnd w 0 i s (nI m)) = nxt w 0 i s (nI m) := rfl
                  rw [this, show oadd (stI (nxt w 0 i s (nI m))) 1 = nI (nxt w 0 i s (nI m)) from stI_1 _]
                  simp [st1, kill, Value.category]
                rintro E1 h6 ⟨rfl, f6, tc6⟩
                have f6' : Fr SSpr h h6 := f5'.trans (f6.sub fun a k z => Or.inl (SW_SX z))
                have g46 : ∀ a k, a = 158 ∨ a = 159 → h6.2.1 a k = h4.2.1 a k := fun a k z => (f6.2.2 a k (by unfold SW; omega)).trans (f5.2.2 a k (by unfold S9; omega))
                have q6 := gCX h6 f6'
                have hn6 := q6.1.1
                have p16 : h6.2.2 157 1 = some 158 := q6.1.2.1.at 76 rfl
                have p26 : h6.2.2 157 2 = some 159 := q6.1.2.1.at 77 rfl
                have kb : nk i s m < 1260 := by unfold nk; omega
                have nx : nxt w 0 i s (nI m) ≤ i + 1 := (nbs.n 0 (nI m)).1
                generalize hNX : nxt w 0 i s (nI m) = NX at *
                refine w_sqS (fun E1 h7 => E1 = [.ref 157, .int (nI i), .ref (ra i), .int (nI s), .int (nI m), .int (stI (hnd w 0 i s (nI m))), .int (nI NX)] ∧ h7 = wI h6 159 (nk i s m) (nI NX)) (w_qIe 159 (nk i s m) (nI NX) ?_ ?_ ?_ (by omega) rfl kb (by omega) ⟨rfl, rfl, rfl⟩) ?_
                · simp only [f_mkF, w_sI, w_sR, w_sL, w_sC, w_sk, w_sbr, w_sco, w_rV, w_rI, w_rR, w_rL, w_dI, w_sO, w_sq, w_si, w_pI, w_pZ, w_pR, w_pU, w_qI, w_qB, w_qZ, w_qU, w_qR, w_kV, q_icst, q_lcst, q_xR, q_ldI, q_ldR, q_ldL, q_bn, q_un, q_dv, q_fI, q_fR, q_aI, q_aR, q_aN, q_tn, q_cmp, q_cmz, q_cnt, q_ctt, q_cand, q_cor, q_vn, q_vI, q_vR, q_vL, q_kI, q_kR, q_kL, q_ckI, envN, argE, List.flatMap_cons, List.flatMap_nil, Value.category, junk, oadd, osub, omul, oand, oor, oxor, odiv, orem, oshl, oshr, oushr, omax, omin]; simp [rk_i, rk_b, rk_o, st1, kill, Value.category, rcv, nog, hn6, ly157, p26]
                · simp only [f_mkF, w_sI, w_sR, w_sL, w_sC, w_sk, w_sbr, w_sco, w_rV, w_rI, w_rR, w_rL, w_dI, w_sO, w_sq, w_si, w_pI, w_pZ, w_pR, w_pU, w_qI, w_qB, w_qZ, w_qU, w_qR, w_kV, q_icst, q_lcst, q_xR, q_ldI, q_ldR, q_ldL, q_bn, q_un, q_dv, q_fI, q_fR, q_aI, q_aR, q_aN, q_tn, q_cmp, q_cmz, q_cnt, q_ctt, q_cand, q_cor, q_vn, q_vI, q_vR, q_vL, q_kI, q_kR, q_kL, q_ckI, envN, argE, List.flatMap_cons, List.flatMap_nil, Value.category, junk, oadd, osub, omul, oand, oor, oxor, odiv, orem, oshl, oshr, oushr, omax, omin]; simp [rk_i, rk_b, rk_o, st1, kill, Value.category, rcv, nog, nI_x21, nI_x3, nI_add, nk]
                · simp only [f_mkF, w_sI, w_sR, w_sL, w_sC, w_sk, w_sbr, w_sco, w_rV, w_rI, w_rR, w_rL, w_dI, w_sO, w_sq, w_si, w_pI, w_pZ, w_pR, w_pU, w_qI, w_qB, w_qZ, w_qU, w_qR, w_kV, q_icst, q_lcst, q_xR, q_ldI, q_ldR, q_ldL, q_bn, q_un, q_dv, q_fI, q_fR, q_aI, q_aR, q_aN, q_tn, q_cmp, q_cmz, q_cnt, q_ctt, q_cand, q_cor, q_vn, q_vI, q_vR, q_vL, q_kI, q_kR, q_kL, q_ckI, envN, argE, List.flatMap_cons, List.flatMap_nil, Value.category, junk, oadd, osub, omul, oand, oor, oxor, odiv, orem, oshl, oshr, oushr, omax, omin]; simp [rk_i, rk_b, rk_o, st1, kill, Value.category, rcv, nog]
                rintro E1 h7 ⟨rfl, rfl⟩
                refine w_qUe 158 (i + 1) (oshl 1 (nI NX)) ?_ ?_ ?_ (by rw [wI_1]; omega) rfl i21 (by omega) ⟨fun _ => ?_, (fun z => by cases z), fun z => absurd rfl z⟩
                · simp only [f_mkF, w_sI, w_sR, w_sL, w_sC, w_sk, w_sbr, w_sco, w_rV, w_rI, w_rR, w_rL, w_dI, w_sO, w_sq, w_si, w_pI, w_pZ, w_pR, w_pU, w_qI, w_qB, w_qZ, w_qU, w_qR, w_kV, q_icst, q_lcst, q_xR, q_ldI, q_ldR, q_ldL, q_bn, q_un, q_dv, q_fI, q_fR, q_aI, q_aR, q_aN, q_tn, q_cmp, q_cmz, q_cnt, q_ctt, q_cand, q_cor, q_vn, q_vI, q_vR, q_vL, q_kI, q_kR, q_kL, q_ckI, envN, argE, List.flatMap_cons, List.flatMap_nil, Value.category, junk, oadd, osub, omul, oand, oor, oxor, odiv, orem, oshl, oshr, oushr, omax, omin]; simp [rk_i, rk_b, rk_o, st1, kill, Value.category, rcv, nog, hn6, ly157, p16, wI_1, wI_r]
                · simp only [f_mkF, w_sI, w_sR, w_sL, w_sC, w_sk, w_sbr, w_sco, w_rV, w_rI, w_rR, w_rL, w_dI, w_sO, w_sq, w_si, w_pI, w_pZ, w_pR, w_pU, w_qI, w_qB, w_qZ, w_qU, w_qR, w_kV, q_icst, q_lcst, q_xR, q_ldI, q_ldR, q_ldL, q_bn, q_un, q_dv, q_fI, q_fR, q_aI, q_aR, q_aN, q_tn, q_cmp, q_cmz, q_cnt, q_ctt, q_cand, q_cor, q_vn, q_vI, q_vR, q_vL, q_kI, q_kR, q_kL, q_ckI, envN, argE, List.flatMap_cons, List.flatMap_nil, Value.category, junk, oadd, osub, omul, oand, oor, oxor, odiv, orem, oshl, oshr, oushr, omax, omin]; simp [rk_i, rk_b, rk_o, st1, kill, Value.category, rcv, nog, nI_1]
                · simp only [q_bn, q_ldI, q_icst]; exact ⟨_, rfl, rfl, by first | rfl | trivial⟩
                have e58 : (wI h6 159 (nk i s m) (nI NX)).2.1 158 (i + 1) = h4.2.1 158 (i + 1) := by rw [wI_o (by decide)]; exact g46 158 _ (Or.inl rfl)
                rw [e58]
                have w58 : (wI (wI h6 159 (nk i s m) (nI NX)) 158 (i + 1) (oor (h4.2.1 158 (i + 1)) (oshl 1 (nI NX)))).2.1 158 (i + 1) = oor (h4.2.1 158 (i + 1)) (oshl 1 (nI NX)) := by simp [wI_i]
                have w58n : ∀ k, k ≠ i + 1 → (wI (wI h6 159 (nk i s m) (nI NX)) 158 (i + 1) (oor (h4.2.1 158 (i + 1)) (oshl 1 (nI NX)))).2.1 158 k = h4.2.1 158 k := fun k hk => by
                  rw [wI_i, if_neg (fun z => hk z.2), wI_o (by decide)]
                  exact g46 158 k (Or.inl rfl)
                have w59 : (wI (wI h6 159 (nk i s m) (nI NX)) 158 (i + 1) (oor (h4.2.1 158 (i + 1)) (oshl 1 (nI NX)))).2.1 159 (nk i s m) = nI NX := by simp [wI_i]
                have w59n : ∀ k, k ≠ nk i s m → (wI (wI h6 159 (nk i s m) (nI NX)) 158 (i + 1) (oor (h4.2.1 158 (i + 1)) (oshl 1 (nI NX)))).2.1 159 k = h4.2.1 159 k := fun k hk => by
                  rw [wI_o (by decide), wI_i, if_neg (fun z => hk z.2)]
                  exact g46 159 k (Or.inr rfl)
                have f8 : Fr SSpr h (wI (wI h6 159 (nk i s m) (nI NX)) 158 (i + 1) (oor (h4.2.1 158 (i + 1)) (oshl 1 (nI NX)))) := (f6'.w (Or.inr (Or.inr rfl))).w (Or.inr (Or.inl rfl))
                have tc8 : TC w (wI (wI h6 159 (nk i s m) (nI NX)) 158 (i + 1) (oor (h4.2.1 158 (i + 1)) (oshl 1 (nI NX)))) := tc6.fr (S := fun a _ => a = 158 ∨ a = 159) (((Fr.refl h6).w (Or.inr rfl)).w (Or.inl rfl)) (fun k => by omega) (fun k => by omega) (by omega)
                generalize wI (wI h6 159 (nk i s m) (nI NX)) 158 (i + 1) (oor (h4.2.1 158 (i + 1)) (oshl 1 (nI NX))) = h8 at *
                refine w_sCe (nI m) (nI (m + 1)) rfl (nI_1 _) rfl ⟨rfl, hh + 1 - (m + 1), by omega, m + 1, _, _, rfl, by omega, by omega, rfl, ⟨rfl, rfl⟩, f8, tc8, ⟨fun k hk s' hs' => ?_, fun k hk s' m' x1 x2 x3 => ?_⟩, fun s' hs' => ?_, fun s0 m0 y1 y2 y3 y4 => ?_⟩
                · rw [w58n k (by omega)]; exact sp3.1 k hk s' hs'
                · have hs'k := Rch_le x1
                  obtain ⟨l', k', z1, z2, z3, z4, -⟩ := q.wv.mi (i := k) (by omega)
                  rw [z2, nI_toInt (by omega)] at x3
                  rw [w59n _ (by unfold nk; omega)]
                  exact sp3.2 k hk s' m' x1 x2 (by rw [z2, nI_toInt (by omega)]; exact x3)
                · rw [w58, bI_or (by omega) hs']
                  simp only [Bool.or_eq_true, decide_eq_true_eq]
                  rw [hb3 s' hs']
                  constructor
                  · rintro (⟨s0, m0, y1, y2⟩ | rfl)
                    · exact ⟨s0, m0, by omega, y2⟩
                    · exact ⟨s, m, Or.inr ⟨rfl, by omega⟩, hRs, hm1, hmh, hNX⟩
                  · rintro ⟨s0, m0, y1, y2, y3, y4, y5⟩
                    by_cases z : s0 = s ∧ m0 = m
                    · obtain ⟨rfl, rfl⟩ := z
                      exact Or.inr (by rw [← y5, hNX])
                    · exact Or.inl ⟨s0, m0, by omega, y2, y3, y4, y5⟩
                · by_cases z : s0 = s ∧ m0 = m
                  · obtain ⟨rfl, rfl⟩ := z
                    rw [w59, hNX]
                  · have := Rch_le y2
                    rw [w59n _ (by unfold nk; omega)]
                    exact hx3 s0 m0 (by omega) y2 y3 y4
              · have : m = hh + 1 := by omega
                subst this
                refine ev_F ?_ ⟨fun _ => ⟨rfl, ⟨_, _, _, rfl, rfl, c5, c6⟩, f3, tc4, sp3, fun s' hs' => ?_, fun s0 m0 y1 y2 y3 y4 => hx3 s0 m0 (by omega) y2 y3 y4⟩, fun z => (by cases z)⟩
                · simp only [f_mkF, w_sI, w_sR, w_sL, w_sC, w_sk, w_sbr, w_sco, w_rV, w_rI, w_rR, w_rL, w_dI, w_sO, w_sq, w_si, w_pI, w_pZ, w_pR, w_pU, w_qI, w_qB, w_qZ, w_qU, w_qR, w_kV, q_icst, q_lcst, q_xR, q_ldI, q_ldR, q_ldL, q_bn, q_un, q_dv, q_fI, q_fR, q_aI, q_aR, q_aN, q_tn, q_cmp, q_cmz, q_cnt, q_ctt, q_cand, q_cor, q_vn, q_vI, q_vR, q_vL, q_kI, q_kR, q_kL, q_ckI, envN, argE, List.flatMap_cons, List.flatMap_nil, Value.category, junk, oadd, osub, omul, oand, oor, oxor, odiv, orem, oshl, oshr, oushr, omax, omin]
                  simp (disch := first | omega | simp) [rk_i, rk_b, rk_o, st1, kill, Value.category, rcv, nog, inI_b, nI_clamp, nI_ltI, nI_leI, nI_eq, nI_9, nI_6, nI_22, nI_12, nI_180, nI_add, nI_1, hn3, r1, r2, r47]
                · rw [hb3 s' hs']
                  constructor
                  · rintro ⟨s0, m0, y1, y2⟩; exact ⟨s0, m0, by omega, y2⟩
                  · rintro ⟨s0, m0, y1, y2, y3, y4, y5⟩; exact ⟨s0, m0, by omega, y2, y3, y4, y5⟩
            · have hnR : ¬ Rch w i s := fun z => by rw [hR.mpr z] at c1; cases c1
              refine ⟨fun _ => ⟨rfl, ⟨_, _, _, rfl, rfl, c5, c6⟩, f3, tc4, sp3, fun s' hs' => ?_, fun s0 m0 y1 y2 y3 y4 => hx3 s0 m0 ?_ y2 y3 y4⟩, fun z => (by cases z)⟩
              · rw [hb3 s' hs']
                constructor
                · rintro ⟨s0, m0, y1, y2⟩; exact ⟨s0, m0, by omega, y2⟩
                · rintro ⟨s0, m0, y1, y2, y3⟩
                  by_cases z : s0 = s
                  · subst z; exact absurd y2 hnR
                  · exact ⟨s0, m0, by omega, y2, y3⟩
              · by_cases z : s0 = s
                · subst z; exact absurd y2 hnR
                · omega
          · rintro o v E1 h3 ⟨rfl, ⟨v4, v5, v6, rfl, c4, c5, c6⟩, f3, tc4, sp3, hb3, hx3⟩
            refine ⟨fun _ => ?_, (fun z => by cases z), fun z => absurd rfl z⟩
            refine w_sCe (nI s) (nI (s + 1)) rfl (nI_1 _) (by simp [st1, kill, Value.category]) ⟨rfl, 21 - (s + 1), by omega, s + 1, v4, v5, v6, rfl, by omega, rfl, ⟨c4, c5, c6⟩, f3, tc4, sp3, hb3, hx3⟩
        · have : s = 21 := by omega
          subst this
          refine ev_F ?_ ⟨fun _ => ⟨rfl, ⟨_, _, _, _, rfl, rfl, c4, c5, c6⟩, f2, tc3, sp2, hb2, hx2⟩, fun z => (by cases z)⟩
          simp only [f_mkF, w_sI, w_sR, w_sL, w_sC, w_sk, w_sbr, w_sco, w_rV, w_rI, w_rR, w_rL, w_dI, w_sO, w_sq, w_si, w_pI, w_pZ, w_pR, w_pU, w_qI, w_qB, w_qZ, w_qU, w_qR, w_kV, q_icst, q_lcst, q_xR, q_ldI, q_ldR, q_ldL, q_bn, q_un, q_dv, q_fI, q_fR, q_aI, q_aR, q_aN, q_tn, q_cmp, q_cmz, q_cnt, q_ctt, q_cand, q_cor, q_vn, q_vI, q_vR, q_vL, q_kI, q_kR, q_kL, q_ckI, envN, argE, List.flatMap_cons, List.flatMap_nil, Value.category, junk, oadd, osub, omul, oand, oor, oxor, odiv, orem, oshl, oshr, oushr, omax, omin]
          simp (disch := first | omega | simp) [rk_i, rk_b, rk_o, st1, kill, Value.category, rcv, nog, inI_b, nI_clamp, nI_ltI, nI_leI, nI_eq, nI_9, nI_6, nI_22, nI_12, nI_180, nI_add, nI_1, k21]
      · rintro o v E1 h3 ⟨rfl, ⟨v3, v4, v5, v6, rfl, c3, c4, c5, c6⟩, f3, tc4, sp3, hb3, hx3⟩
        refine ⟨fun _ => ?_, (fun z => by cases z), fun z => absurd rfl z⟩
        refine w_sCe (nI i) (nI (i + 1)) rfl (nI_1 _) (by simp [st1, kill, Value.category]) ⟨rfl, W_n w - (i + 1), by omega, i + 1, .ref (ra i), v3, v4, v5, v6, rfl, by omega, rfl, ⟨rfl, c3, c4, c5, c6⟩, f3, tc4, ⟨fun k hk s hs => ?_, fun k hk s m x1 x2 x3 => ?_⟩⟩
        · by_cases hk2 : k = i + 1
          · subst hk2
            rw [hb3 s hs, Rch_s]
            constructor
            · rintro ⟨s0, m0, y1, y2, y3, y4, y5⟩
              exact ⟨s0, nI m0, y2, ⟨by rw [e1, nI_toInt (by omega), nI_toInt (by omega)]; omega, by rw [e2, nI_toInt (by omega), nI_toInt (by omega)]; omega⟩, y5⟩
            · rintro ⟨s0, m, y2, y3, y5⟩
              rw [e1, e2, nI_toInt (by omega), nI_toInt (by omega)] at y3
              obtain ⟨m0, m1, m2, -⟩ := ofN (x := m) (a := 0) (b := 2) (by omega) (by omega)
              have := Rch_le y2
              exact ⟨s0, m0, by omega, y2, by omega, by omega, by rw [← m1]; exact y5⟩
          · exact sp3.1 k (by omega) s hs
        · by_cases hk2 : k = i
          · subst hk2
            rw [e1, nI_toInt (by omega)] at x2
            rw [e2, nI_toInt (by omega)] at x3
            have := Rch_le x1
            exact hx3 s m (by omega) x1 (by omega) (by omega)
          · exact sp3.2 k (by omega) s m x1 x2 x3
    · have hin : i = W_n w := by omega
      subst hin
      refine ev_F ?_ ⟨fun _ => ⟨rfl, f, tc1, sp⟩, fun z => (by cases z)⟩
      simp only [f_mkF, w_sI, w_sR, w_sL, w_sC, w_sk, w_sbr, w_sco, w_rV, w_rI, w_rR, w_rL, w_dI, w_sO, w_sq, w_si, w_pI, w_pZ, w_pR, w_pU, w_qI, w_qB, w_qZ, w_qU, w_qR, w_kV, q_icst, q_lcst, q_xR, q_ldI, q_ldR, q_ldL, q_bn, q_un, q_dv, q_fI, q_fR, q_aI, q_aR, q_aN, q_tn, q_cmp, q_cmz, q_cnt, q_ctt, q_cand, q_cor, q_vn, q_vI, q_vR, q_vL, q_kI, q_kR, q_kL, q_ckI, envN, argE, List.flatMap_cons, List.flatMap_nil, Value.category, junk, oadd, osub, omul, oand, oor, oxor, odiv, orem, oshl, oshr, oushr, omax, omin]
      simp (disch := first | omega | simp) [rk_i, rk_b, rk_o, st1, kill, Value.category, rcv, nog, inI_b, nI_clamp, nI_ltI, nI_leI, nI_eq, nI_9, nI_6, nI_22, nI_12, nI_180, nI_add, nI_1, hn1, ly157, ly147, p0', a1, a2, a4, a7]
  · rintro o v E1 h1 ⟨rfl, f, tc1, sp⟩
    refine ⟨fun _ => ?_, fun z => absurd rfl z⟩
    rw [w_rV]
    exact Or.inl ⟨rfl, rfl, rfl, f, gCX h1 f, tc1, sp⟩
