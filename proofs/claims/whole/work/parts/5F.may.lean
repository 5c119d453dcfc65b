/-! may: the class -/
def MAY (w : Wd) (x : Int32) : Prop := ∀ p, p < 32 → (bI x p = true ↔ ∃ md, VM w md (W_n w) ∧ own w (stt w 0 md (W_n w)) (W_n w) = nI p)
theorem MAY_eq {w : Wd} {x y : Int32} (a : MAY w x) (b : MAY w y) : x = y := by
  refine bI_ext fun s hs => ?_
  have h := (a s hs).trans (b s hs).symm
  cases h1 : bI x s <;> cases h2 : bI y s <;> simp [h1, h2] at h ⊢
theorem x_poss {w : Wd} {T : Nat} {ra : Nat → Nat} {h : Hp} (q : CX w T ra h) (tc : TC w h) (hs1 : h.2.1 147 14 = 0) : fq F_X2_possibleOwners [.ref 157] h fun r h' => (∃ x, r = some (.int x) ∧ MAY w x) ∧ Fr SSpr h h' ∧ TC w h' := by
  have hn := q.hd.1
  have n20 := q.wv.1
  have k21 : (21 : Int32) = nI 21 := rfl
  unfold F_X2_possibleOwners
  refine f_mkE [.ref 157, junk, junk, junk] rfl (by simp [argE, Value.category]) ?_
  refine w_fz fun B hB C hC => ?_
  simp only [f_mkF, w_sI, w_sR, w_sL, w_sC, w_sk, w_sbr, w_sco, w_rV, w_rI, w_rR, w_rL, w_dI, w_sO, w_sq, w_si, w_pI, w_pZ, w_pR, w_pU, w_qI, w_qB, w_qZ, w_qU, w_qR, w_kV, q_icst, q_lcst, q_xR, q_ldI, q_ldR, q_ldL, q_bn, q_un, q_dv, q_fI, q_fR, q_aI, q_aR, q_aN, q_tn, q_cmp, q_cmz, q_cnt, q_ctt, q_cand, q_cor, q_vn, q_vI, q_vR, q_vL, q_kI, q_kR, q_kL, q_ckI, envN, argE, List.flatMap_cons, List.flatMap_nil, Value.category, junk, oadd, osub, omul, oand, oor, oxor, odiv, orem, oshl, oshr, oushr, omax, omin]
  simp (disch := first | omega | simp) [rk_i, rk_b, rk_o, st1, kill, Value.category, rcv, nog, inI_b, nI_clamp, nI_ltI, nI_leI, nI_eq, nI_9, nI_6, nI_22, nI_12, nI_180, nI_add, nI_1, hn, ly157]
  refine fq_mono (x_spread q tc hs1) ?_
  rintro r h1 ⟨rfl, f1, q1, tc1, sp⟩
  simp
  subst hB hC
  obtain ⟨hn1, a1, a2, a3, a4, a5, a6, a7⟩ := q1.hd
  have p0 : h1.2.2 157 0 = some 147 := q1.1.2.1.at 75 rfl
  have p1 : h1.2.2 157 1 = some 158 := q1.1.2.1.at 76 rfl
  (refine w_fz fun B hB C hC => ?_); (simp only [f_mkF, w_sI, w_sR, w_sL, w_sC, w_sk, w_sbr, w_sco, w_rV, w_rI, w_rR, w_rL, w_dI, w_sO, w_sq, w_si, w_pI, w_pZ, w_pR, w_pU, w_qI, w_qB, w_qZ, w_qU, w_qR, w_kV, q_icst, q_lcst, q_xR, q_ldI, q_ldR, q_ldL, q_bn, q_un, q_dv, q_fI, q_fR, q_aI, q_aR, q_aN, q_tn, q_cmp, q_cmz, q_cnt, q_ctt, q_cand, q_cor, q_vn, q_vI, q_vR, q_vL, q_kI, q_kR, q_kL, q_ckI, envN, argE, List.flatMap_cons, List.flatMap_nil, Value.category, junk, oadd, osub, omul, oand, oor, oxor, odiv, orem, oshl, oshr, oushr, omax, omin]); (simp (disch := first | omega | simp) [rk_i, rk_b, rk_o, st1, kill, Value.category, rcv, nog, inI_b, nI_clamp, nI_ltI, nI_leI, nI_eq, nI_9, nI_6, nI_22, nI_12, nI_180, nI_add, nI_1, hn1, ly157, ly147, p0, a1, a2, a4, a7]); (subst hB hC)
  refine w_sqI (E' := [.ref 157, .int (nI (W_n w)), .int 0, junk]) 0 (by simp only [f_mkF, w_sI, w_sR, w_sL, w_sC, w_sk, w_sbr, w_sco, w_rV, w_rI, w_rR, w_rL, w_dI, w_sO, w_sq, w_si, w_pI, w_pZ, w_pR, w_pU, w_qI, w_qB, w_qZ, w_qU, w_qR, w_kV, q_icst, q_lcst, q_xR, q_ldI, q_ldR, q_ldL, q_bn, q_un, q_dv, q_fI, q_fR, q_aI, q_aR, q_aN, q_tn, q_cmp, q_cmz, q_cnt, q_ctt, q_cand, q_cor, q_vn, q_vI, q_vR, q_vL, q_kI, q_kR, q_kL, q_ckI, envN, argE, List.flatMap_cons, List.flatMap_nil, Value.category, junk, oadd, osub, omul, oand, oor, oxor, odiv, orem, oshl, oshr, oushr, omax, omin]; simp [rk_i, rk_b, rk_o, st1, kill, Value.category, rcv, nog]) rfl ?_
  refine w_sq.mpr ?_
  refine w_sqI (E' := [.ref 157, .int (nI (W_n w)), .int 0, .int (nI 0)]) (nI 0) (by simp only [f_mkF, w_sI, w_sR, w_sL, w_sC, w_sk, w_sbr, w_sco, w_rV, w_rI, w_rR, w_rL, w_dI, w_sO, w_sq, w_si, w_pI, w_pZ, w_pR, w_pU, w_qI, w_qB, w_qZ, w_qU, w_qR, w_kV, q_icst, q_lcst, q_xR, q_ldI, q_ldR, q_ldL, q_bn, q_un, q_dv, q_fI, q_fR, q_aI, q_aR, q_aN, q_tn, q_cmp, q_cmz, q_cnt, q_ctt, q_cand, q_cor, q_vn, q_vI, q_vR, q_vL, q_kI, q_kR, q_kL, q_ckI, envN, argE, List.flatMap_cons, List.flatMap_nil, Value.category, junk, oadd, osub, omul, oand, oor, oxor, odiv, orem, oshl, oshr, oushr, omax, omin]; simp [rk_i, rk_b, rk_o, st1, kill, Value.category, rcv, nog, nI_0]) rfl ?_
  have n21 : W_n w < 21 := by omega
  refine wp_mono (w_lp (Q := fun o _ E1 h' => o = 0 ∧ h' = h1 ∧ ∃ x, E1[2]? = some (.int x) ∧ MAY w x) (fun k E h' => h' = h1 ∧ ∃ s x, k = 21 - s ∧ s ≤ 21 ∧ E = [.ref 157, .int (nI (W_n w)), .int x, .int (nI s)] ∧ ∀ p, p < 32 → (bI x p = true ↔ ∃ s0, s0 < s ∧ Rch w (W_n w) s0 ∧ own w s0 (W_n w) = nI p)) ?_ 21 _ _ ⟨rfl, 0, 0, rfl, by omega, rfl, fun p hp => by rw [bI_0]; constructor; (intro z; cases z); (rintro ⟨s0, z, -⟩; omega)⟩) ?_
  · rintro k E h' ⟨rfl, s, x, rfl, hs, rfl, hx⟩
    by_cases hs21 : s < 21
    · refine ev_T ?_ ⟨fun z => (by cases z), fun _ => ?_⟩
      · simp only [f_mkF, w_sI, w_sR, w_sL, w_sC, w_sk, w_sbr, w_sco, w_rV, w_rI, w_rR, w_rL, w_dI, w_sO, w_sq, w_si, w_pI, w_pZ, w_pR, w_pU, w_qI, w_qB, w_qZ, w_qU, w_qR, w_kV, q_icst, q_lcst, q_xR, q_ldI, q_ldR, q_ldL, q_bn, q_un, q_dv, q_fI, q_fR, q_aI, q_aR, q_aN, q_tn, q_cmp, q_cmz, q_cnt, q_ctt, q_cand, q_cor, q_vn, q_vI, q_vR, q_vL, q_kI, q_kR, q_kL, q_ckI, envN, argE, List.flatMap_cons, List.flatMap_nil, Value.category, junk, oadd, osub, omul, oand, oor, oxor, odiv, orem, oshl, oshr, oushr, omax, omin]
        simp (disch := first | omega | simp) [rk_i, rk_b, rk_o, st1, kill, Value.category, rcv, nog, inI_b, nI_clamp, nI_ltI, nI_leI, nI_eq, nI_9, nI_6, nI_22, nI_12, nI_180, nI_add, nI_1, k21, hs21]
      have hbit : ev (cnt (cmz zeq (bn oand (bn oushr (aI 13 (fR 2 1 (ldR 0)) (ldI 1)) (ldI 3)) (icst 1)))) [.ref 157, .int (nI (W_n w)), .int x, .int (nI s)] h' fun t h4 => t = bI (h'.2.1 158 (W_n w)) s ∧ h4 = h' := ev_bit _ s (by omega) (by simp only [f_mkF, w_sI, w_sR, w_sL, w_sC, w_sk, w_sbr, w_sco, w_rV, w_rI, w_rR, w_rL, w_dI, w_sO, w_sq, w_si, w_pI, w_pZ, w_pR, w_pU, w_qI, w_qB, w_qZ, w_qU, w_qR, w_kV, q_icst, q_lcst, q_xR, q_ldI, q_ldR, q_ldL, q_bn, q_un, q_dv, q_fI, q_fR, q_aI, q_aR, q_aN, q_tn, q_cmp, q_cmz, q_cnt, q_ctt, q_cand, q_cor, q_vn, q_vI, q_vR, q_vL, q_kI, q_kR, q_kL, q_ckI, envN, argE, List.flatMap_cons, List.flatMap_nil, Value.category, junk, oadd, osub, omul, oand, oor, oxor, odiv, orem, oshl, oshr, oushr, omax, omin]; simp (disch := first | omega | simp) [rk_i, rk_b, rk_o, st1, kill, Value.category, rcv, nog, inI_b, nI_clamp, nI_ltI, nI_leI, nI_eq, nI_9, nI_6, nI_22, nI_12, nI_180, nI_add, nI_1, hn1, ly157, ly158, p1, n21]) (by simp only [f_mkF, w_sI, w_sR, w_sL, w_sC, w_sk, w_sbr, w_sco, w_rV, w_rI, w_rR, w_rL, w_dI, w_sO, w_sq, w_si, w_pI, w_pZ, w_pR, w_pU, w_qI, w_qB, w_qZ, w_qU, w_qR, w_kV, q_icst, q_lcst, q_xR, q_ldI, q_ldR, q_ldL, q_bn, q_un, q_dv, q_fI, q_fR, q_aI, q_aR, q_aN, q_tn, q_cmp, q_cmz, q_cnt, q_ctt, q_cand, q_cor, q_vn, q_vI, q_vR, q_vL, q_kI, q_kR, q_kL, q_ckI, envN, argE, List.flatMap_cons, List.flatMap_nil, Value.category, junk, oadd, osub, omul, oand, oor, oxor, odiv, orem, oshl, oshr, oushr, omax, omin]; simp)
      have hR := sp.1 (W_n w) (Nat.le_refl _) s (by omega)
      have hgo : ∀ x', (∀ p, p < 32 → (bI x' p = true ↔ ∃ s0, s0 < s + 1 ∧ Rch w (W_n w) s0 ∧ own w s0 (W_n w) = nI p)) → wp (sC 3 1) [.ref 157, .int (nI (W_n w)), .int x', .int (nI s)] h' fun o2 _ E2 h3 => o2 = 0 ∧ ∃ k2, k2 < 21 - s ∧ h3 = h' ∧ ∃ s x, k2 = 21 - s ∧ s ≤ 21 ∧ E2 = [.ref 157, .int (nI (W_n w)), .int x, .int (nI s)] ∧ ∀ p, p < 32 → (bI x p = true ↔ ∃ s0, s0 < s ∧ Rch w (W_n w) s0 ∧ own w s0 (W_n w) = nI p) := fun x' hx' => w_sCe (nI s) (nI (s + 1)) rfl (nI_1 _) rfl ⟨rfl, 21 - (s + 1), by omega, rfl, s + 1, x', rfl, by omega, rfl, hx'⟩
      refine w_siN _ hbit (fun c => ?_) (fun c => ?_)
      · have hRs := hR.mp c
        have hsi := Rch_le hRs
        have eo := x_own q1 (i := W_n w) (s := s) (Nat.le_refl _) (by omega)
        have ok := own_ok q1.wv hsi (Nat.le_refl _)
        obtain ⟨o, o1, o2, -⟩ := ofN (x := own w s (W_n w)) (b := 11) ok.1 (by omega)
        rw [o1] at eo
        refine w_sIe (oor x (oshl 1 (nI o))) ?_ rfl ⟨fun _ => hgo _ fun p hp => ?_, (fun z => by cases z), fun z => absurd rfl z⟩
        · rw [q_bn, q_ldI]
          refine ⟨x, rfl, ?_⟩
          rw [q_bn, q_icst]
          refine q_kIe [.ref 147, .int (stI s), .int (nI (W_n w))] (by simp only [f_mkF, w_sI, w_sR, w_sL, w_sC, w_sk, w_sbr, w_sco, w_rV, w_rI, w_rR, w_rL, w_dI, w_sO, w_sq, w_si, w_pI, w_pZ, w_pR, w_pU, w_qI, w_qB, w_qZ, w_qU, w_qR, w_kV, q_icst, q_lcst, q_xR, q_ldI, q_ldR, q_ldL, q_bn, q_un, q_dv, q_fI, q_fR, q_aI, q_aR, q_aN, q_tn, q_cmp, q_cmz, q_cnt, q_ctt, q_cand, q_cor, q_vn, q_vI, q_vR, q_vL, q_kI, q_kR, q_kL, q_ckI, envN, argE, List.flatMap_cons, List.flatMap_nil, Value.category, junk, oadd, osub, omul, oand, oor, oxor, odiv, orem, oshl, oshr, oushr, omax, omin]; simp [rk_i, rk_b, rk_o, st1, kill, Value.category, rcv, nog, hn1, ly157, p0, nI_st]) (by simp [rcv, hn1, ly147]) ?_
          rw [fq_of eo]
          exact ⟨_, rfl, rfl, rfl⟩
        · rw [bI_or (by omega) hp]
          simp only [Bool.or_eq_true, decide_eq_true_eq]
          rw [hx p hp]
          constructor
          · rintro (⟨s0, y1, y2⟩ | rfl)
            · exact ⟨s0, by omega, y2⟩
            · exact ⟨s, by omega, hRs, o1⟩
          · rintro ⟨s0, y1, y2, y3⟩
            by_cases z : s0 = s
            · subst z
              rw [o1, nI_eq (by omega) (by omega)] at y3
              exact Or.inr y3.symm
            · exact Or.inl ⟨s0, by omega, y2, y3⟩
      · have hnR : ¬ Rch w (W_n w) s := fun z => by rw [hR.mpr z] at c; cases c
        rw [w_sk]
        refine ⟨fun _ => hgo _ fun p hp => ?_, (fun z => by cases z), fun z => absurd rfl z⟩
        rw [hx p hp]
        constructor
        · rintro ⟨s0, y1, y2⟩; exact ⟨s0, by omega, y2⟩
        · rintro ⟨s0, y1, y2, y3⟩
          by_cases z : s0 = s
          · subst z; exact absurd y2 hnR
          · exact ⟨s0, by omega, y2, y3⟩
    · have : s = 21 := by omega
      subst this
      refine ev_F ?_ ⟨fun _ => ⟨rfl, rfl, x, rfl, fun p hp => ?_⟩, fun z => (by cases z)⟩
      · simp only [f_mkF, w_sI, w_sR, w_sL, w_sC, w_sk, w_sbr, w_sco, w_rV, w_rI, w_rR, w_rL, w_dI, w_sO, w_sq, w_si, w_pI, w_pZ, w_pR, w_pU, w_qI, w_qB, w_qZ, w_qU, w_qR, w_kV, q_icst, q_lcst, q_xR, q_ldI, q_ldR, q_ldL, q_bn, q_un, q_dv, q_fI, q_fR, q_aI, q_aR, q_aN, q_tn, q_cmp, q_cmz, q_cnt, q_ctt, q_cand, q_cor, q_vn, q_vI, q_vR, q_vL, q_kI, q_kR, q_kL, q_ckI, envN, argE, List.flatMap_cons, List.flatMap_nil, Value.category, junk, oadd, osub, omul, oand, oor, oxor, odiv, orem, oshl, oshr, oushr, omax, omin]
        simp (disch := first | omega | simp) [rk_i, rk_b, rk_o, st1, kill, Value.category, rcv, nog, inI_b, nI_clamp, nI_ltI, nI_leI, nI_eq, nI_9, nI_6, nI_22, nI_12, nI_180, nI_add, nI_1, k21]
      · rw [hx p hp]
        constructor
        · rintro ⟨s0, -, ⟨md, m1, rfl⟩, m2⟩; exact ⟨md, m1, m2⟩
        · rintro ⟨md, m1, m2⟩
          exact ⟨_, by have := (stt_nb w 0 md (W_n w)).1; omega, ⟨md, m1, rfl⟩, m2⟩
  · rintro o v E1 h2 ⟨rfl, rfl, x, e2, hx⟩
    refine ⟨fun _ => ?_, fun z => absurd rfl z⟩
    rw [w_rI, q_ldI]
    exact ⟨x, e2, Or.inr ⟨rfl, rfl, ⟨x, rfl, hx⟩, f1, tc1⟩⟩
/-! all minds: the reference -/
def fnd (w : Wd) (c : Nat) (v : Int32) : Prop := (cok w c ∧ v = own w (stt w 0 (mdc w c) (W_n w)) (W_n w)) ∨ (¬ cok w c ∧ v = -1)
/-- what the reference holds when it has tried all minds -/
def TRY (w : Wd) (h : Hp) : Prop := h.2.1 166 52 = nI (uns (W_R w) (W_n w)) ∧ (∀ i, i < W_n w → unq w i = true → h.2.1 204 (uns (W_R w) i) = nI i) ∧ (∀ u, u ≤ uns (W_R w) (W_n w) → h.2.1 205 u = nI (3 ^ u)) ∧ ∀ c, c < 3 ^ uns (W_R w) (W_n w) → fnd w c (h.2.1 206 c)
def STr (a k : Nat) : Prop := SN a k ∨ (204 ≤ a ∧ a ≤ 206) ∨ (a = 166 ∧ k = 52)
theorem STr_ok : ∀ a k, STr a k → (194 ≤ a ∧ a ≤ 211) ∨ (a = 166 ∧ 41 ≤ k) := by
  intro a k z
  unfold STr SN SM at z
  omega
theorem pow_le {u : Nat} (h : u ≤ 8) : 3 ^ u ≤ 6561 := by
  have : ∀ u, u ≤ 8 → 3 ^ u ≤ 6561 := by decide
  exact this u h
theorem nI_rem {a b : Nat} (ha : a < 2 ^ 31) (hb : b < 2 ^ 31) : orem (nI a) (nI b) = nI (a % b) := by
  unfold orem
  rw [nI_div ha hb, nI_mul, nI_subc (Nat.div_mul_le_self a b)]
  congr 1
  have := Nat.div_add_mod a b
  rw [Nat.mul_comm] at this
  omega
