/-! what is asked back: without cells, then the class -/
def clm (w : Wd) (i lt : Nat) : Bool := decide (stt w 0 (lows w) i ≠ 0) && gvs w 0 i (lft (stt w 0 (lows w) i) i) (W_R w i 6) (kd w i) lt
def okk (w : Wd) (i : Nat) : Bool := decide (kd w i = 0) && clm w i 7
def dwn (p : Nat → Bool) : Nat → Nat
  | 0 => 0
  | k + 1 => if p k = true then dwn p k else k + 1
/-- what the purses hold behind c askings -/
def prs (w : Wd) (P : Nat → Int32) : Nat → Nat → Int32
  | 0 => P
  | c + 1 => fun p => if p = (frm (W_R w) (W_fo w) (W_n w - 1 - c)).toNatClampNeg then prs w P c p - omin (W_R w (W_n w - 1 - c) 4) (prs w P c p) else prs w P c p
def gft (w : Wd) (P : Nat → Int32) (c : Nat) : Int32 := omin (W_R w (W_n w - 1 - c) 4) (prs w P c (frm (W_R w) (W_fo w) (W_n w - 1 - c)).toNatClampNeg)
def mde (w : Wd) : Nat := if whz w 0 = frm (W_R w) (W_fo w) (W_n w) then 0 else if kd w (W_n w - 1) = 0 ∧ clm w (W_n w - 1) 6 = true then 1 else 2
def bck (w : Wd) : Int32 := if mde w = 0 then -2 else if mde w = 1 then W_R w (W_n w - 1) 4 else 0
/-- from which passing on it is asked -/
def frA (w : Wd) : Nat := if mde w = 2 then dwn (okk w) (W_n w) else W_n w
theorem nxt_nz {w : Wd} {sp i s : Nat} {m : Int32} (h : nxt w sp i s m ≠ 0) : nxt w sp i s m = lft s i + 1 ∧ hnd w sp i s m = lft s i + 1 := by
  unfold nxt at h ⊢
  by_cases z : hnd w sp i s m = 0
  · rw [if_pos z] at h
    exact absurd rfl h
  · rw [if_neg z] at h ⊢
    by_cases y : (wtm w i (hnd w sp i s m - 1) m).isSome = true
    · rw [if_pos y] at h
      exact absurd rfl h
    · rw [if_neg y]
      rcases hnd_v w sp i s m with e | ⟨e, -⟩
      · exact absurd e z
      · exact ⟨e, e⟩
theorem chain_o {w : Wd} {sp : Nat} {md : Nat → Int32} {n : Nat} : ∀ c i, i + c = n → (∀ k, i < k → k ≤ n → stt w sp md k ≠ 0) → own w (stt w sp md i) i = own w (stt w sp md n) n := by
  intro c
  induction c with
  | zero => intro i h _; rw [show i = n by omega]
  | succ c ih =>
    intro i h hk
    rw [← ih (i + 1) (by omega) fun k h1 h2 => hk k (by omega) h2]
    have z := (nxt_nz (hk (i + 1) (by omega) (by omega))).1
    show own w (stt w sp md i) i = own w (nxt w sp i (stt w sp md i) (md i)) (i + 1)
    rw [z]
    rfl
theorem last_nz {w : Wd} {sp : Nat} {md : Nat → Int32} {i : Nat} (h : stt w sp md (i + 1) ≠ 0) (hk : kd w i ≤ 2) : stt w sp md i ≠ 0 := by
  intro z
  have h2 := (nxt_nz h).2
  unfold hnd at h2
  rw [z, if_pos (Or.inl ⟨rfl, hk⟩)] at h2
  omega
def SC (a k : Nat) : Prop := SX a k ∨ (157 ≤ a ∧ a ≤ 165)
theorem CX.gen {w : Wd} {T : Nat} {ra : Nat → Nat} {S : Nat → Nat → Prop} {h h' : Hp} (q : CX w T ra h) (f : Fr S h h') (hS : ∀ a k, a < 147 ∨ (a = 147 ∧ (k = 11 ∨ k = 13)) → ¬ S a k) : CX w T ra h' := by
  obtain ⟨q1, q2, q3, ⟨q4, q5, q6⟩, q7, q8, q9, q10, q11, q12⟩ := q
  have hT := q3.1.2.2.1
  have hT2 := q3.1.2.1
  have f' := f
  obtain ⟨f1, f2, f3⟩ := f
  refine ⟨f'.ip q1, by rw [f2]; exact q2, q3.fr f' fun a k z => hS a k (by omega), ⟨by rw [f3 _ _ (hS _ _ (by omega))]; exact q4, by rw [f3 _ _ (hS _ _ (by omega))]; exact q5, by rw [f3 _ _ (hS _ _ (by omega))]; exact q6⟩, by rw [f3 _ _ (hS _ _ (by omega))]; exact q7, by rw [f3 _ _ (hS _ _ (by omega))]; exact q8, fun k => by rw [f3 _ _ (hS _ _ (by omega))]; exact q9 k, fun l k hl hk => by rw [f3 _ _ (hS _ _ (by omega))]; exact q10 l k hl hk, fun l hl => ?_, q12⟩
  obtain ⟨la, z1, z2, z3⟩ := q11 l hl
  exact ⟨la, by rw [f2]; exact z1, z2, z3.fr z2 f' fun a k z => hS a k (by omega)⟩
theorem x_fill {h : Hp} (hn : h.1 = 212) {A m : Nat} (hA : A < 212) (hL : LY A = (13, m)) (hm : m < 10000) (v : Int32) : fq F_J7_fill_53178 [.ref A, .int v] h fun r h' => r = none ∧ Fr (fun a _ => a = A) h h' ∧ ∀ k, k < m → h'.2.1 A k = v := by
  have hL1 : (LY A).1 = 13 := by rw [hL]
  have hL2 : (LY A).2 = m := by rw [hL]
  unfold F_J7_fill_53178
  refine f_mkE [.ref A, .int v, junk, junk] rfl (by simp [argE, Value.category]) ?_
  refine w_sq.mpr ?_
  refine w_sq.mpr ?_
  refine w_sqI (E' := [.ref A, .int v, .int (nI 0), junk]) (nI 0) (by simp only [f_mkF, w_sI, w_sR, w_sL, w_sC, w_sk, w_sbr, w_sco, w_rV, w_rI, w_rR, w_rL, w_dI, w_sO, w_sq, w_si, w_pI, w_pZ, w_pR, w_pU, w_qI, w_qB, w_qZ, w_qU, w_qR, w_kV, q_icst, q_lcst, q_xR, q_ldI, q_ldR, q_ldL, q_bn, q_un, q_dv, q_fI, q_fR, q_aI, q_aR, q_aN, q_tn, q_cmp, q_cmz, q_cnt, q_ctt, q_cand, q_cor, q_vn, q_vI, q_vR, q_vL, q_kI, q_kR, q_kL, q_ckI, envN, argE, List.flatMap_cons, List.flatMap_nil, Value.category, junk, oadd, osub, omul, oand, oor, oxor, odiv, orem, oshl, oshr, oushr, omax, omin]; simp [nI_0]) rfl ?_
  refine w_sIe (E' := [.ref A, .int v, .int (nI 0), .int (nI m)]) (nI m) (by simp only [f_mkF, w_sI, w_sR, w_sL, w_sC, w_sk, w_sbr, w_sco, w_rV, w_rI, w_rR, w_rL, w_dI, w_sO, w_sq, w_si, w_pI, w_pZ, w_pR, w_pU, w_qI, w_qB, w_qZ, w_qU, w_qR, w_kV, q_icst, q_lcst, q_xR, q_ldI, q_ldR, q_ldL, q_bn, q_un, q_dv, q_fI, q_fR, q_aI, q_aR, q_aN, q_tn, q_cmp, q_cmz, q_cnt, q_ctt, q_cand, q_cor, q_vn, q_vI, q_vR, q_vL, q_kI, q_kR, q_kL, q_ckI, envN, argE, List.flatMap_cons, List.flatMap_nil, Value.category, junk, oadd, osub, omul, oand, oor, oxor, odiv, orem, oshl, oshr, oushr, omax, omin]; simp [hn, hA, hL1, hL2]; rfl) rfl ⟨fun _ => ?_, fun z => absurd rfl z⟩
  refine wp_mono (w_lp (Q := fun o _ _ h' => o = 0 ∧ Fr (fun a _ => a = A) h h' ∧ ∀ k, k < m → h'.2.1 A k = v) (fun k E h' => ∃ j, k = m - j ∧ j ≤ m ∧ E = [.ref A, .int v, .int (nI j), .int (nI m)] ∧ Fr (fun a _ => a = A) h h' ∧ ∀ k, k < j → h'.2.1 A k = v) ?_ m _ _ ⟨0, rfl, by omega, rfl, Fr.refl h, fun k hk => by omega⟩) ?_
  · rintro k E h' ⟨j, rfl, hj, rfl, f, hv⟩
    have hn' : h'.1 = 212 := f.1.trans hn
    by_cases hjm : j < m
    · refine ev_T ?_ ⟨fun z => (by cases z), fun _ => ?_⟩
      · simp only [f_mkF, w_sI, w_sR, w_sL, w_sC, w_sk, w_sbr, w_sco, w_rV, w_rI, w_rR, w_rL, w_dI, w_sO, w_sq, w_si, w_pI, w_pZ, w_pR, w_pU, w_qI, w_qB, w_qZ, w_qU, w_qR, w_kV, q_icst, q_lcst, q_xR, q_ldI, q_ldR, q_ldL, q_bn, q_un, q_dv, q_fI, q_fR, q_aI, q_aR, q_aN, q_tn, q_cmp, q_cmz, q_cnt, q_ctt, q_cand, q_cor, q_vn, q_vI, q_vR, q_vL, q_kI, q_kR, q_kL, q_ckI, envN, argE, List.flatMap_cons, List.flatMap_nil, Value.category, junk, oadd, osub, omul, oand, oor, oxor, odiv, orem, oshl, oshr, oushr, omax, omin]
        simp (disch := first | omega | simp) [rk_i, rk_b, rk_o, st1, kill, Value.category, rcv, nog, inI_b, nI_clamp, nI_ltI, nI_leI, nI_eq, nI_9, nI_6, nI_22, nI_12, nI_180, nI_add, nI_1, hjm]
      refine w_qIe A j v (by simp only [f_mkF, w_sI, w_sR, w_sL, w_sC, w_sk, w_sbr, w_sco, w_rV, w_rI, w_rR, w_rL, w_dI, w_sO, w_sq, w_si, w_pI, w_pZ, w_pR, w_pU, w_qI, w_qB, w_qZ, w_qU, w_qR, w_kV, q_icst, q_lcst, q_xR, q_ldI, q_ldR, q_ldL, q_bn, q_un, q_dv, q_fI, q_fR, q_aI, q_aR, q_aN, q_tn, q_cmp, q_cmz, q_cnt, q_ctt, q_cand, q_cor, q_vn, q_vI, q_vR, q_vL, q_kI, q_kR, q_kL, q_ckI, envN, argE, List.flatMap_cons, List.flatMap_nil, Value.category, junk, oadd, osub, omul, oand, oor, oxor, odiv, orem, oshl, oshr, oushr, omax, omin]; simp) (by simp only [f_mkF, w_sI, w_sR, w_sL, w_sC, w_sk, w_sbr, w_sco, w_rV, w_rI, w_rR, w_rL, w_dI, w_sO, w_sq, w_si, w_pI, w_pZ, w_pR, w_pU, w_qI, w_qB, w_qZ, w_qU, w_qR, w_kV, q_icst, q_lcst, q_xR, q_ldI, q_ldR, q_ldL, q_bn, q_un, q_dv, q_fI, q_fR, q_aI, q_aR, q_aN, q_tn, q_cmp, q_cmz, q_cnt, q_ctt, q_cand, q_cor, q_vn, q_vI, q_vR, q_vL, q_kI, q_kR, q_kL, q_ckI, envN, argE, List.flatMap_cons, List.flatMap_nil, Value.category, junk, oadd, osub, omul, oand, oor, oxor, odiv, orem, oshl, oshr, oushr, omax, omin]; simp) (by simp only [f_mkF, w_sI, w_sR, w_sL, w_sC, w_sk, w_sbr, w_sco, w_rV, w_rI, w_rR, w_rL, w_dI, w_sO, w_sq, w_si, w_pI, w_pZ, w_pR, w_pU, w_qI, w_qB, w_qZ, w_qU, w_qR, w_kV, q_icst, q_lcst, q_xR, q_ldI, q_ldR, q_ldL, q_bn, q_un, q_dv, q_fI, q_fR, q_aI, q_aR, q_aN, q_tn, q_cmp, q_cmz, q_cnt, q_ctt, q_cand, q_cor, q_vn, q_vI, q_vR, q_vL, q_kI, q_kR, q_kL, q_ckI, envN, argE, List.flatMap_cons, List.flatMap_nil, Value.category, junk, oadd, osub, omul, oand, oor, oxor, odiv, orem, oshl, oshr, oushr, omax, omin]; simp) (by omega) hL hjm hm ⟨fun _ => ?_, (fun z => by cases z), fun z => absurd rfl z⟩
      refine w_sCe (nI j) (nI (j + 1)) rfl (nI_1 _) rfl ⟨rfl, m - (j + 1), by omega, j + 1, rfl, by omega, rfl, f.w rfl, fun k hk => ?_⟩
      rw [wI_i]
      by_cases hkj : k = j
      · rw [if_pos ⟨rfl, hkj⟩]
      · rw [if_neg (by omega)]; exact hv k (by omega)
    · have : j = m := by omega
      subst this
      refine ev_F ?_ ⟨fun _ => ⟨rfl, f, hv⟩, fun z => (by cases z)⟩
      simp only [f_mkF, w_sI, w_sR, w_sL, w_sC, w_sk, w_sbr, w_sco, w_rV, w_rI, w_rR, w_rL, w_dI, w_sO, w_sq, w_si, w_pI, w_pZ, w_pR, w_pU, w_qI, w_qB, w_qZ, w_qU, w_qR, w_kV, q_icst, q_lcst, q_xR, q_ldI, q_ldR, q_ldL, q_bn, q_un, q_dv, q_fI, q_fR, q_aI, q_aR, q_aN, q_tn, q_cmp, q_cmz, q_cnt, q_ctt, q_cand, q_cor, q_vn, q_vI, q_vR, q_vL, q_kI, q_kR, q_kL, q_ckI, envN, argE, List.flatMap_cons, List.flatMap_nil, Value.category, junk, oadd, osub, omul, oand, oor, oxor, odiv, orem, oshl, oshr, oushr, omax, omin]
      simp (disch := first | omega | simp) [rk_i, rk_b, rk_o, st1, kill, Value.category, rcv, nog, inI_b, nI_clamp, nI_ltI, nI_leI, nI_eq, nI_9, nI_6, nI_22, nI_12, nI_180, nI_add, nI_1]
  · rintro o v1 E1 h1 ⟨rfl, f, hv⟩
    refine ⟨fun _ => ?_, fun z => absurd rfl z⟩
    rw [w_rV]
    exact Or.inl ⟨rfl, rfl, rfl, f, hv⟩
theorem x_claim {w : Wd} {T : Nat} {ra : Nat → Nat} {h : Hp} (q : CX w T ra h) {i lt : Nat} (hi : i < W_n w) (hlt : lt < 8) (hl0 : lt ≠ 0) (e : h.2.1 151 i = stI (stt w 0 (lows w) i)) : fq F_X1_isClaimHolding [.ref 147, .int (nI i), .int (nI lt)] h fun r h' => r = some (.int (b2 (clm w i lt = true))) ∧ Fr S9 h h' := by
  obtain ⟨hn, a1, a2, a3, a4, a5, a6, a7⟩ := q.hd
  have n20 := q.wv.1
  obtain ⟨i20, b1, b2', b3, b4⟩ := q.row hi
  obtain ⟨k1, k2⟩ := q.kx hi
  have b40 := b4 0 (by omega)
  have b46 := b4 6 (by omega)
  rw [k1] at b40
  have i21 : i < 21 := by omega
  have nb := stt_nb w 0 (lows w) i
  have g4 : h.2.2 147 4 = some 151 := q.1.2.1.at 67 rfl
  have g1 : h.2.2 147 1 = some 4 := q.1.2.1.at 64 rfl
  have g3 : h.2.2 147 3 = some 148 := q.1.2.1.at 66 rfl
  unfold clm gvs
  generalize hS : stt w 0 (lows w) i = s at *
  unfold F_X1_isClaimHolding
  refine f_mkE [.ref 147, .int (nI i), .int (nI lt), junk, junk] rfl (by simp [argE, Value.category]) ?_
  (refine w_fz fun B hB C hC => ?_); (simp only [f_mkF, w_sI, w_sR, w_sL, w_sC, w_sk, w_sbr, w_sco, w_rV, w_rI, w_rR, w_rL, w_dI, w_sO, w_sq, w_si, w_pI, w_pZ, w_pR, w_pU, w_qI, w_qB, w_qZ, w_qU, w_qR, w_kV, q_icst, q_lcst, q_xR, q_ldI, q_ldR, q_ldL, q_bn, q_un, q_dv, q_fI, q_fR, q_aI, q_aR, q_aN, q_tn, q_cmp, q_cmz, q_cnt, q_ctt, q_cand, q_cor, q_vn, q_vI, q_vR, q_vL, q_kI, q_kR, q_kL, q_ckI, envN, argE, List.flatMap_cons, List.flatMap_nil, Value.category, junk, oadd, osub, omul, oand, oor, oxor, odiv, orem, oshl, oshr, oushr, omax, omin]); (simp (disch := first | omega | simp) [rk_i, rk_b, rk_o, st1, kill, Value.category, rcv, nog, inI_b, nI_clamp, nI_ltI, nI_leI, nI_eq, nI_9, nI_6, nI_22, nI_12, nI_180, nI_add, nI_1, hn, ly147, ly151, g4, i21, e]); (subst hB hC)
  by_cases hz : s = 0
  · refine w_sq.mpr ((w_siT (by simp only [f_mkF, w_sI, w_sR, w_sL, w_sC, w_sk, w_sbr, w_sco, w_rV, w_rI, w_rR, w_rL, w_dI, w_sO, w_sq, w_si, w_pI, w_pZ, w_pR, w_pU, w_qI, w_qB, w_qZ, w_qU, w_qR, w_kV, q_icst, q_lcst, q_xR, q_ldI, q_ldR, q_ldL, q_bn, q_un, q_dv, q_fI, q_fR, q_aI, q_aR, q_aN, q_tn, q_cmp, q_cmz, q_cnt, q_ctt, q_cand, q_cor, q_vn, q_vI, q_vR, q_vL, q_kI, q_kR, q_kL, q_ckI, envN, argE, List.flatMap_cons, List.flatMap_nil, Value.category, junk, oadd, osub, omul, oand, oor, oxor, odiv, orem, oshl, oshr, oushr, omax, omin]; simp (disch := first | omega | simp) [rk_i, rk_b, rk_o, st1, kill, Value.category, rcv, nog, inI_b, nI_clamp, nI_ltI, nI_leI, nI_eq, nI_9, nI_6, nI_22, nI_12, nI_180, nI_add, nI_1, hz, stI_0])).mpr ?_)
    simp only [f_mkF, w_sI, w_sR, w_sL, w_sC, w_sk, w_sbr, w_sco, w_rV, w_rI, w_rR, w_rL, w_dI, w_sO, w_sq, w_si, w_pI, w_pZ, w_pR, w_pU, w_qI, w_qB, w_qZ, w_qU, w_qR, w_kV, q_icst, q_lcst, q_xR, q_ldI, q_ldR, q_ldL, q_bn, q_un, q_dv, q_fI, q_fR, q_aI, q_aR, q_aN, q_tn, q_cmp, q_cmz, q_cnt, q_ctt, q_cand, q_cor, q_vn, q_vI, q_vR, q_vL, q_kI, q_kR, q_kL, q_ckI, envN, argE, List.flatMap_cons, List.flatMap_nil, Value.category, junk, oadd, osub, omul, oand, oor, oxor, odiv, orem, oshl, oshr, oushr, omax, omin]
    simp [rk_i, rk_b, rk_o, st1, kill, Value.category, rcv, nog, hz, b2, Fr.refl]
  · obtain ⟨L, rfl⟩ : ∃ L, s = L + 1 := ⟨s - 1, by omega⟩
    have hL : L < i := by have := nb.1; omega
    have hk : ¬ nI L = -1 := m1_ne (by omega)
    have hv := frm_ok q.wv (i := L) (by omega)
    have ea := x_asked q (kind := kd w i) (ow := frm (W_R w) (W_fo w) L) hi (by omega) hv
    have hl6 := askd_lt q.wv (kind := kd w i) (ow := frm (W_R w) (W_fo w) L) hi
    rw [show lft (L + 1) i = L from rfl, stI_s]
    generalize askd w i (kd w i) (frm (W_R w) (W_fo w) L) = l at *
    obtain ⟨la, d1, d2, d3, d4, d5, d6⟩ := q.lw hl6
    refine w_sq.mpr ((w_siF (by simp only [f_mkF, w_sI, w_sR, w_sL, w_sC, w_sk, w_sbr, w_sco, w_rV, w_rI, w_rR, w_rL, w_dI, w_sO, w_sq, w_si, w_pI, w_pZ, w_pR, w_pU, w_qI, w_qB, w_qZ, w_qU, w_qR, w_kV, q_icst, q_lcst, q_xR, q_ldI, q_ldR, q_ldL, q_bn, q_un, q_dv, q_fI, q_fR, q_aI, q_aR, q_aN, q_tn, q_cmp, q_cmz, q_cnt, q_ctt, q_cand, q_cor, q_vn, q_vI, q_vR, q_vL, q_kI, q_kR, q_kL, q_ckI, envN, argE, List.flatMap_cons, List.flatMap_nil, Value.category, junk, oadd, osub, omul, oand, oor, oxor, odiv, orem, oshl, oshr, oushr, omax, omin]; simp (disch := first | omega | simp) [rk_i, rk_b, rk_o, st1, kill, Value.category, rcv, nog, inI_b, nI_clamp, nI_ltI, nI_leI, nI_eq, nI_9, nI_6, nI_22, nI_12, nI_180, nI_add, nI_1, hk])).mpr (w_sk2.mpr ?_))
    (refine w_fz fun B hB C hC => ?_); (simp only [f_mkF, w_sI, w_sR, w_sL, w_sC, w_sk, w_sbr, w_sco, w_rV, w_rI, w_rR, w_rL, w_dI, w_sO, w_sq, w_si, w_pI, w_pZ, w_pR, w_pU, w_qI, w_qB, w_qZ, w_qU, w_qR, w_kV, q_icst, q_lcst, q_xR, q_ldI, q_ldR, q_ldL, q_bn, q_un, q_dv, q_fI, q_fR, q_aI, q_aR, q_aN, q_tn, q_cmp, q_cmz, q_cnt, q_ctt, q_cand, q_cor, q_vn, q_vI, q_vR, q_vL, q_kI, q_kR, q_kL, q_ckI, envN, argE, List.flatMap_cons, List.flatMap_nil, Value.category, junk, oadd, osub, omul, oand, oor, oxor, odiv, orem, oshl, oshr, oushr, omax, omin]); (simp (disch := first | omega | simp) [rk_i, rk_b, rk_o, st1, kill, Value.category, rcv, nog, inI_b, nI_clamp, nI_ltI, nI_leI, nI_eq, nI_9, nI_6, nI_22, nI_12, nI_180, nI_add, nI_1, hn, ly147, ly4, a1, a2, a3, a4, a5, a6, b1, b2', b3, b40, i20, fq_of ea, fq_of (q.fw (i := L) (by omega)), g1, hl6, d1]); (subst hB hC)
    refine w_fz fun B hB C hC => ?_
    simp only [f_mkF, w_sI, w_sR, w_sL, w_sC, w_sk, w_sbr, w_sco, w_rV, w_rI, w_rR, w_rL, w_dI, w_sO, w_sq, w_si, w_pI, w_pZ, w_pR, w_pU, w_qI, w_qB, w_qZ, w_qU, w_qR, w_kV, q_icst, q_lcst, q_xR, q_ldI, q_ldR, q_ldL, q_bn, q_un, q_dv, q_fI, q_fR, q_aI, q_aR, q_aN, q_tn, q_cmp, q_cmz, q_cnt, q_ctt, q_cand, q_cor, q_vn, q_vI, q_vR, q_vL, q_kI, q_kR, q_kL, q_ckI, envN, argE, List.flatMap_cons, List.flatMap_nil, Value.category, junk, oadd, osub, omul, oand, oor, oxor, odiv, orem, oshl, oshr, oushr, omax, omin]
    simp (disch := first | omega | simp) [rk_i, rk_b, rk_o, st1, kill, Value.category, rcv, nog, inI_b, nI_clamp, nI_ltI, nI_leI, nI_eq, nI_9, nI_6, nI_22, nI_12, nI_180, nI_add, nI_1, hn, ly147, a1, a2, a3, a4, a5, a6, b1, b2', b3, b46, i20]
    refine fq_mono (x_set q hi (by omega : L ≤ i) (W_R w i 6)) ?_
    rintro r h1 ⟨rfl, f1, f2⟩
    simp
    subst hB hC
    have q1 : CX w T ra h1 := q.fr (f1.sub fun a k z => S9_SX (Or.inl z))
    have hn1 := q1.hd.1
    have d3' := d3.fr d2 f1 fun a k z => by omega
    simp only [f_mkF, w_sI, w_sR, w_sL, w_sC, w_sk, w_sbr, w_sco, w_rV, w_rI, w_rR, w_rL, w_dI, w_sO, w_sq, w_si, w_pI, w_pZ, w_pR, w_pU, w_qI, w_qB, w_qZ, w_qU, w_qR, w_kV, q_icst, q_lcst, q_xR, q_ldI, q_ldR, q_ldL, q_bn, q_un, q_dv, q_fI, q_fR, q_aI, q_aR, q_aN, q_tn, q_cmp, q_cmz, q_cnt, q_ctt, q_cand, q_cor, q_vn, q_vI, q_vR, q_vL, q_kI, q_kR, q_kL, q_ckI, envN, argE, List.flatMap_cons, List.flatMap_nil, Value.category, junk, oadd, osub, omul, oand, oor, oxor, odiv, orem, oshl, oshr, oushr, omax, omin]
    simp (disch := first | omega | simp) [rk_i, rk_b, rk_o, st1, kill, Value.category, rcv, nog, inI_b, nI_clamp, nI_ltI, nI_leI, nI_eq, nI_9, nI_6, nI_22, nI_12, nI_180, nI_add, nI_1, hn1, ly147, ly148, f1.2.1, g3]
    refine fq_mono (x_one q1.1 d2 d4 d3' hlt) ?_
    rintro r h2 ⟨rfl, g⟩
    rw [hs_cong d4 f2]
    have g' : Fr S9 h h2 := (f1.sub fun a k z => Or.inl z).trans (g.sub fun a k z => Or.inr z)
    simp [rk_i, rk_b, rk_o, st1, kill, Value.category, rcv, nog, b2_ok, hl0, g']
theorem x_isAsk {w : Wd} {T : Nat} {ra : Nat → Nat} {h : Hp} (q : CX w T ra h) {i : Nat} (hi : i < W_n w) (e : h.2.1 151 i = stI (stt w 0 (lows w) i)) : fq F_X0_isAskedBack [.ref 162, .int (nI i)] h fun r h' => r = some (.int (b2 (okk w i = true))) ∧ Fr S9 h h' := by
  obtain ⟨hn, a1, a2, a3, a4, a5, a6, a7⟩ := q.hd
  have n20 := q.wv.1
  obtain ⟨i20, b1, b2', b3, b4⟩ := q.row hi
  obtain ⟨k1, k2⟩ := q.kx hi
  have b40 := b4 0 (by omega)
  rw [k1] at b40
  have nb := stt_nb w 0 (lows w) i
  have c0 : h.2.2 162 0 = some 147 := q.1.2.1.at 78 rfl
  have k7 : (7 : Int32) = nI 7 := rfl
  have kz : nI (kd w i) = 0 ↔ kd w i = 0 := by rw [← nI_0, nI_eq (by omega) (by omega)]
  unfold F_X0_isAskedBack
  refine f_mkE [.ref 162, .int (nI i), junk, junk] rfl (by simp [argE, Value.category]) ?_
  (refine w_fz fun B hB C hC => ?_); (simp only [f_mkF, w_sI, w_sR, w_sL, w_sC, w_sk, w_sbr, w_sco, w_rV, w_rI, w_rR, w_rL, w_dI, w_sO, w_sq, w_si, w_pI, w_pZ, w_pR, w_pU, w_qI, w_qB, w_qZ, w_qU, w_qR, w_kV, q_icst, q_lcst, q_xR, q_ldI, q_ldR, q_ldL, q_bn, q_un, q_dv, q_fI, q_fR, q_aI, q_aR, q_aN, q_tn, q_cmp, q_cmz, q_cnt, q_ctt, q_cand, q_cor, q_vn, q_vI, q_vR, q_vL, q_kI, q_kR, q_kL, q_ckI, envN, argE, List.flatMap_cons, List.flatMap_nil, Value.category, junk, oadd, osub, omul, oand, oor, oxor, odiv, orem, oshl, oshr, oushr, omax, omin]); (simp (disch := first | omega | simp) [rk_i, rk_b, rk_o, st1, kill, Value.category, rcv, nog, inI_b, nI_clamp, nI_ltI, nI_leI, nI_eq, nI_9, nI_6, nI_22, nI_12, nI_180, nI_add, nI_1, hn, ly162, ly147, c0, a1]); (subst hB hC)
  refine w_sqI (E' := [.ref 162, .int (nI i), .ref T, .int (b2 (stt w 0 (lows w) i ≠ 0))]) (b2 (stt w 0 (lows w) i ≠ 0)) ?_ rfl ?_
  · simp only [f_mkF, w_sI, w_sR, w_sL, w_sC, w_sk, w_sbr, w_sco, w_rV, w_rI, w_rR, w_rL, w_dI, w_sO, w_sq, w_si, w_pI, w_pZ, w_pR, w_pU, w_qI, w_qB, w_qZ, w_qU, w_qR, w_kV, q_icst, q_lcst, q_xR, q_ldI, q_ldR, q_ldL, q_bn, q_un, q_dv, q_fI, q_fR, q_aI, q_aR, q_aN, q_tn, q_cmp, q_cmz, q_cnt, q_ctt, q_cand, q_cor, q_vn, q_vI, q_vR, q_vL, q_kI, q_kR, q_kL, q_ckI, envN, argE, List.flatMap_cons, List.flatMap_nil, Value.category, junk, oadd, osub, omul, oand, oor, oxor, odiv, orem, oshl, oshr, oushr, omax, omin]
    simp (disch := first | omega | simp) [rk_i, rk_b, rk_o, st1, kill, Value.category, rcv, nog, hn, ly162, ly147, c0, a2, a4, fq_of (q.fw (i := i) (by omega)), fq_of (x_ahead q (by omega) nb.1 e), nb.e, b2]
    try grind
  by_cases hk0 : kd w i = 0
  · by_cases hs0 : stt w 0 (lows w) i = 0
    · simp only [f_mkF, w_sI, w_sR, w_sL, w_sC, w_sk, w_sbr, w_sco, w_rV, w_rI, w_rR, w_rL, w_dI, w_sO, w_sq, w_si, w_pI, w_pZ, w_pR, w_pU, w_qI, w_qB, w_qZ, w_qU, w_qR, w_kV, q_icst, q_lcst, q_xR, q_ldI, q_ldR, q_ldL, q_bn, q_un, q_dv, q_fI, q_fR, q_aI, q_aR, q_aN, q_tn, q_cmp, q_cmz, q_cnt, q_ctt, q_cand, q_cor, q_vn, q_vI, q_vR, q_vL, q_kI, q_kR, q_kL, q_ckI, envN, argE, List.flatMap_cons, List.flatMap_nil, Value.category, junk, oadd, osub, omul, oand, oor, oxor, odiv, orem, oshl, oshr, oushr, omax, omin]
      simp (disch := first | omega | simp) [rk_i, rk_b, rk_o, st1, kill, Value.category, rcv, nog, inI_b, nI_clamp, nI_ltI, nI_leI, nI_eq, nI_9, nI_6, nI_22, nI_12, nI_180, nI_add, nI_1, hn, a2, a3, a4, a5, a6, b1, b2', b3, b40, i20, hk0, hs0, nI_0, okk, clm, b2, Fr.refl]
    · simp only [f_mkF, w_sI, w_sR, w_sL, w_sC, w_sk, w_sbr, w_sco, w_rV, w_rI, w_rR, w_rL, w_dI, w_sO, w_sq, w_si, w_pI, w_pZ, w_pR, w_pU, w_qI, w_qB, w_qZ, w_qU, w_qR, w_kV, q_icst, q_lcst, q_xR, q_ldI, q_ldR, q_ldL, q_bn, q_un, q_dv, q_fI, q_fR, q_aI, q_aR, q_aN, q_tn, q_cmp, q_cmz, q_cnt, q_ctt, q_cand, q_cor, q_vn, q_vI, q_vR, q_vL, q_kI, q_kR, q_kL, q_ckI, envN, argE, List.flatMap_cons, List.flatMap_nil, Value.category, junk, oadd, osub, omul, oand, oor, oxor, odiv, orem, oshl, oshr, oushr, omax, omin]
      simp (disch := first | omega | simp) [rk_i, rk_b, rk_o, st1, kill, Value.category, rcv, nog, inI_b, nI_clamp, nI_ltI, nI_leI, nI_eq, nI_9, nI_6, nI_22, nI_12, nI_180, nI_add, nI_1, hn, ly162, ly147, c0, a2, a3, a4, a5, a6, b1, b2', b3, b40, i20, hk0, hs0, nI_0, b2_0]
      rw [k7]
      refine fq_mono (x_claim q hi (by omega : 7 < 8) (by omega) e) ?_
      rintro r h1 ⟨rfl, g⟩
      unfold okk
      cases hc : clm w i 7 <;> simp [b2, hk0, g]
  · simp only [f_mkF, w_sI, w_sR, w_sL, w_sC, w_sk, w_sbr, w_sco, w_rV, w_rI, w_rR, w_rL, w_dI, w_sO, w_sq, w_si, w_pI, w_pZ, w_pR, w_pU, w_qI, w_qB, w_qZ, w_qU, w_qR, w_kV, q_icst, q_lcst, q_xR, q_ldI, q_ldR, q_ldL, q_bn, q_un, q_dv, q_fI, q_fR, q_aI, q_aR, q_aN, q_tn, q_cmp, q_cmz, q_cnt, q_ctt, q_cand, q_cor, q_vn, q_vI, q_vR, q_vL, q_kI, q_kR, q_kL, q_ckI, envN, argE, List.flatMap_cons, List.flatMap_nil, Value.category, junk, oadd, osub, omul, oand, oor, oxor, odiv, orem, oshl, oshr, oushr, omax, omin]
    simp (disch := first | omega | simp) [rk_i, rk_b, rk_o, st1, kill, Value.category, rcv, nog, inI_b, nI_clamp, nI_ltI, nI_leI, nI_eq, nI_9, nI_6, nI_22, nI_12, nI_180, nI_add, nI_1, hn, a2, a3, a4, a5, a6, b1, b2', b3, b40, i20, hk0, kz, okk, b2, Fr.refl]
def SAs (a k : Nat) : Prop := S9 a k ∨ (163 ≤ a ∧ a ≤ 165) ∨ (a = 162 ∧ k = 4)
theorem SAs_SC {a k : Nat} (h : SAs a k) : SC a k := by unfold SAs S9 at h; unfold SC SX; omega
theorem CX.fas {w : Wd} {T : Nat} {ra : Nat → Nat} {h h' : Hp} (q : CX w T ra h) (f : Fr SAs h h') : CX w T ra h' := q.gen f fun a k z => by unfold SAs S9; omega
theorem w_qUe {c : Nat} {op : Int32 → Int32 → Int32} {a : DR} {i b : DI} {E : En} {h : Hp} {Q : Nat → Value → En → Hp → Prop} (A j : Nat) (v : Int32) (ha : ev a E h fun x h1 => x = A ∧ h1 = h) (hi : ev i E h fun x h1 => x = nI j ∧ h1 = h) (hb : ev b E h fun x h1 => x = v ∧ h1 = h) (hA : A < h.1) {m : Nat} (hL : LY A = (c, m)) (hj : j < m) (hm : m < 10000) (hQ : Q 0 .null E (wI h A j (op (h.2.1 A j) v))) : wp (qU c op a i b) E h Q := by
  rw [w_qU]
  refine ev_mono ha ?_
  rintro x h1 ⟨rfl, rfl⟩
  refine ev_mono hi ?_
  rintro y h1 ⟨rfl, rfl⟩
  have hj' : inI (nI j) (LY x).2 = true := by rw [hL, inI_b (by omega)]; simp [hj]
  refine ⟨⟨hA, by rw [hL], hj'⟩, ?_⟩
  refine ev_mono hb ?_
  rintro z h1 ⟨rfl, rfl⟩
  rw [nI_clamp (by omega)]
  exact hQ
theorem x_askBack {w : Wd} {T : Nat} {ra : Nat → Nat} {h : Hp} (q : CX w T ra h) {i : Nat} (hi : i < W_n w) : fq F_X0_askBack [.ref 162, .int (nI i)] h fun r h' => r = none ∧ Fr (fun a k => (a = 163 ∧ k = i) ∨ (a = 164 ∧ k = i) ∨ (a = 165 ∧ k = (frm (W_R w) (W_fo w) i).toNatClampNeg)) h h' ∧ h'.2.1 163 i = W_R w i 4 ∧ h'.2.1 164 i = omin (W_R w i 4) (h.2.1 165 (frm (W_R w) (W_fo w) i).toNatClampNeg) ∧ h'.2.1 165 (frm (W_R w) (W_fo w) i).toNatClampNeg = h.2.1 165 (frm (W_R w) (W_fo w) i).toNatClampNeg - omin (W_R w i 4) (h.2.1 165 (frm (W_R w) (W_fo w) i).toNatClampNeg) := by
  obtain ⟨hn, a1, a2, a3, a4, a5, a6, a7⟩ := q.hd
  have n20 := q.wv.1
  obtain ⟨i20, b1, b2', b3, b4⟩ := q.row hi
  have b44 := b4 4 (by omega)
  have c0 : h.2.2 162 0 = some 147 := q.1.2.1.at 78 rfl
  have c1 : h.2.2 162 1 = some 163 := q.1.2.1.at 79 rfl
  have c2 : h.2.2 162 2 = some 164 := q.1.2.1.at 80 rfl
  have c3 : h.2.2 162 3 = some 165 := q.1.2.1.at 81 rfl
  have hv := frm_ok q.wv (i := i) (by omega)
  obtain ⟨g, hg, hg2, hg3⟩ := ofN (x := frm (W_R w) (W_fo w) i) (b := 11) hv.1 (by omega)
  have g12 : g < 12 := by omega
  have ra163 : ¬ ra i = 163 := by have := q.2.2.1.2.2.1 i (by omega); have := q.2.2.1.1.2.2.1; omega
  have ra164 : ¬ ra i = 164 := by have := q.2.2.1.2.2.1 i (by omega); have := q.2.2.1.1.2.2.1; omega
  have ew := q.fw (i := i) (by omega)
  rw [hg3]
  rw [hg] at ew
  unfold F_X0_askBack
  refine f_mkE [.ref 162, .int (nI i), junk] rfl (by simp [argE, Value.category]) ?_
  (refine w_fz fun B hB C hC => ?_); (simp only [f_mkF, w_sI, w_sR, w_sL, w_sC, w_sk, w_sbr, w_sco, w_rV, w_rI, w_rR, w_rL, w_dI, w_sO, w_sq, w_si, w_pI, w_pZ, w_pR, w_pU, w_qI, w_qB, w_qZ, w_qU, w_qR, w_kV, q_icst, q_lcst, q_xR, q_ldI, q_ldR, q_ldL, q_bn, q_un, q_dv, q_fI, q_fR, q_aI, q_aR, q_aN, q_tn, q_cmp, q_cmz, q_cnt, q_ctt, q_cand, q_cor, q_vn, q_vI, q_vR, q_vL, q_kI, q_kR, q_kL, q_ckI, envN, argE, List.flatMap_cons, List.flatMap_nil, Value.category, junk, oadd, osub, omul, oand, oor, oxor, odiv, orem, oshl, oshr, oushr, omax, omin]); (simp (disch := first | omega | simp) [rk_i, rk_b, rk_o, st1, kill, Value.category, rcv, nog, inI_b, nI_clamp, nI_ltI, nI_leI, nI_eq, nI_9, nI_6, nI_22, nI_12, nI_180, nI_add, nI_1, hn, ly162, ly147, c0, a1, a2, a4, fq_of ew]); (subst hB hC)
  refine w_sqS (fun E1 h1 => E1 = [.ref 162, .int (nI i), .int (nI g)] ∧ h1 = wI h 163 i (W_R w i 4)) (w_qIe 163 i (W_R w i 4) ?_ ?_ ?_ (by omega) rfl i20 (by omega) ⟨rfl, rfl, rfl⟩) ?_
  · simp only [f_mkF, w_sI, w_sR, w_sL, w_sC, w_sk, w_sbr, w_sco, w_rV, w_rI, w_rR, w_rL, w_dI, w_sO, w_sq, w_si, w_pI, w_pZ, w_pR, w_pU, w_qI, w_qB, w_qZ, w_qU, w_qR, w_kV, q_icst, q_lcst, q_xR, q_ldI, q_ldR, q_ldL, q_bn, q_un, q_dv, q_fI, q_fR, q_aI, q_aR, q_aN, q_tn, q_cmp, q_cmz, q_cnt, q_ctt, q_cand, q_cor, q_vn, q_vI, q_vR, q_vL, q_kI, q_kR, q_kL, q_ckI, envN, argE, List.flatMap_cons, List.flatMap_nil, Value.category, junk, oadd, osub, omul, oand, oor, oxor, odiv, orem, oshl, oshr, oushr, omax, omin]; simp [hn, ly162, c1]
  · simp only [f_mkF, w_sI, w_sR, w_sL, w_sC, w_sk, w_sbr, w_sco, w_rV, w_rI, w_rR, w_rL, w_dI, w_sO, w_sq, w_si, w_pI, w_pZ, w_pR, w_pU, w_qI, w_qB, w_qZ, w_qU, w_qR, w_kV, q_icst, q_lcst, q_xR, q_ldI, q_ldR, q_ldL, q_bn, q_un, q_dv, q_fI, q_fR, q_aI, q_aR, q_aN, q_tn, q_cmp, q_cmz, q_cnt, q_ctt, q_cand, q_cor, q_vn, q_vI, q_vR, q_vL, q_kI, q_kR, q_kL, q_ckI, envN, argE, List.flatMap_cons, List.flatMap_nil, Value.category, junk, oadd, osub, omul, oand, oor, oxor, odiv, orem, oshl, oshr, oushr, omax, omin]; simp
  · simp only [f_mkF, w_sI, w_sR, w_sL, w_sC, w_sk, w_sbr, w_sco, w_rV, w_rI, w_rR, w_rL, w_dI, w_sO, w_sq, w_si, w_pI, w_pZ, w_pR, w_pU, w_qI, w_qB, w_qZ, w_qU, w_qR, w_kV, q_icst, q_lcst, q_xR, q_ldI, q_ldR, q_ldL, q_bn, q_un, q_dv, q_fI, q_fR, q_aI, q_aR, q_aN, q_tn, q_cmp, q_cmz, q_cnt, q_ctt, q_cand, q_cor, q_vn, q_vI, q_vR, q_vL, q_kI, q_kR, q_kL, q_ckI, envN, argE, List.flatMap_cons, List.flatMap_nil, Value.category, junk, oadd, osub, omul, oand, oor, oxor, odiv, orem, oshl, oshr, oushr, omax, omin]; simp (disch := first | omega | simp) [rk_i, rk_b, rk_o, st1, kill, Value.category, rcv, nog, inI_b, nI_clamp, nI_ltI, nI_leI, nI_eq, nI_9, nI_6, nI_22, nI_12, nI_180, nI_add, nI_1, hn, ly162, ly147, c0, a1, a2, a3, a4, a5, a6, b1, b2', b3, b44, i20]
  rintro E1 h1 ⟨rfl, rfl⟩
  refine w_sqS (fun E1 h1 => E1 = [.ref 162, .int (nI i), .int (nI g)] ∧ h1 = wI (wI h 163 i (W_R w i 4)) 164 i (omin (W_R w i 4) (h.2.1 165 g))) (w_qIe 164 i (omin (W_R w i 4) (h.2.1 165 g)) ?_ ?_ ?_ (by rw [wI_1]; omega) rfl i20 (by omega) ⟨rfl, rfl, rfl⟩) ?_
  · simp only [f_mkF, w_sI, w_sR, w_sL, w_sC, w_sk, w_sbr, w_sco, w_rV, w_rI, w_rR, w_rL, w_dI, w_sO, w_sq, w_si, w_pI, w_pZ, w_pR, w_pU, w_qI, w_qB, w_qZ, w_qU, w_qR, w_kV, q_icst, q_lcst, q_xR, q_ldI, q_ldR, q_ldL, q_bn, q_un, q_dv, q_fI, q_fR, q_aI, q_aR, q_aN, q_tn, q_cmp, q_cmz, q_cnt, q_ctt, q_cand, q_cor, q_vn, q_vI, q_vR, q_vL, q_kI, q_kR, q_kL, q_ckI, envN, argE, List.flatMap_cons, List.flatMap_nil, Value.category, junk, oadd, osub, omul, oand, oor, oxor, odiv, orem, oshl, oshr, oushr, omax, omin]; simp [hn, ly162, c2, wI_1, wI_r]
  · simp only [f_mkF, w_sI, w_sR, w_sL, w_sC, w_sk, w_sbr, w_sco, w_rV, w_rI, w_rR, w_rL, w_dI, w_sO, w_sq, w_si, w_pI, w_pZ, w_pR, w_pU, w_qI, w_qB, w_qZ, w_qU, w_qR, w_kV, q_icst, q_lcst, q_xR, q_ldI, q_ldR, q_ldL, q_bn, q_un, q_dv, q_fI, q_fR, q_aI, q_aR, q_aN, q_tn, q_cmp, q_cmz, q_cnt, q_ctt, q_cand, q_cor, q_vn, q_vI, q_vR, q_vL, q_kI, q_kR, q_kL, q_ckI, envN, argE, List.flatMap_cons, List.flatMap_nil, Value.category, junk, oadd, osub, omul, oand, oor, oxor, odiv, orem, oshl, oshr, oushr, omax, omin]; simp
  · simp only [f_mkF, w_sI, w_sR, w_sL, w_sC, w_sk, w_sbr, w_sco, w_rV, w_rI, w_rR, w_rL, w_dI, w_sO, w_sq, w_si, w_pI, w_pZ, w_pR, w_pU, w_qI, w_qB, w_qZ, w_qU, w_qR, w_kV, q_icst, q_lcst, q_xR, q_ldI, q_ldR, q_ldL, q_bn, q_un, q_dv, q_fI, q_fR, q_aI, q_aR, q_aN, q_tn, q_cmp, q_cmz, q_cnt, q_ctt, q_cand, q_cor, q_vn, q_vI, q_vR, q_vL, q_kI, q_kR, q_kL, q_ckI, envN, argE, List.flatMap_cons, List.flatMap_nil, Value.category, junk, oadd, osub, omul, oand, oor, oxor, odiv, orem, oshl, oshr, oushr, omax, omin]; simp (disch := first | omega | simp) [rk_i, rk_b, rk_o, st1, kill, Value.category, rcv, nog, inI_b, nI_clamp, nI_ltI, nI_leI, nI_eq, nI_9, nI_6, nI_22, nI_12, nI_180, nI_add, nI_1, hn, ly162, ly163, ly165, c1, c3, wI_1, wI_r, wI_i, i20, g12]
  rintro E1 h1 ⟨rfl, rfl⟩
  refine w_sqS (fun E1 h1 => h1 = wI (wI (wI h 163 i (W_R w i 4)) 164 i (omin (W_R w i 4) (h.2.1 165 g))) 165 g (h.2.1 165 g - omin (W_R w i 4) (h.2.1 165 g))) (w_qUe 165 g (omin (W_R w i 4) (h.2.1 165 g)) ?_ ?_ ?_ (by rw [wI_1, wI_1]; omega) rfl g12 (by omega) ⟨rfl, by simp [wI_i, osub]⟩) ?_
  · simp only [f_mkF, w_sI, w_sR, w_sL, w_sC, w_sk, w_sbr, w_sco, w_rV, w_rI, w_rR, w_rL, w_dI, w_sO, w_sq, w_si, w_pI, w_pZ, w_pR, w_pU, w_qI, w_qB, w_qZ, w_qU, w_qR, w_kV, q_icst, q_lcst, q_xR, q_ldI, q_ldR, q_ldL, q_bn, q_un, q_dv, q_fI, q_fR, q_aI, q_aR, q_aN, q_tn, q_cmp, q_cmz, q_cnt, q_ctt, q_cand, q_cor, q_vn, q_vI, q_vR, q_vL, q_kI, q_kR, q_kL, q_ckI, envN, argE, List.flatMap_cons, List.flatMap_nil, Value.category, junk, oadd, osub, omul, oand, oor, oxor, odiv, orem, oshl, oshr, oushr, omax, omin]; simp [hn, ly162, c3, wI_1, wI_r]
  · simp only [f_mkF, w_sI, w_sR, w_sL, w_sC, w_sk, w_sbr, w_sco, w_rV, w_rI, w_rR, w_rL, w_dI, w_sO, w_sq, w_si, w_pI, w_pZ, w_pR, w_pU, w_qI, w_qB, w_qZ, w_qU, w_qR, w_kV, q_icst, q_lcst, q_xR, q_ldI, q_ldR, q_ldL, q_bn, q_un, q_dv, q_fI, q_fR, q_aI, q_aR, q_aN, q_tn, q_cmp, q_cmz, q_cnt, q_ctt, q_cand, q_cor, q_vn, q_vI, q_vR, q_vL, q_kI, q_kR, q_kL, q_ckI, envN, argE, List.flatMap_cons, List.flatMap_nil, Value.category, junk, oadd, osub, omul, oand, oor, oxor, odiv, orem, oshl, oshr, oushr, omax, omin]; simp
  · simp only [f_mkF, w_sI, w_sR, w_sL, w_sC, w_sk, w_sbr, w_sco, w_rV, w_rI, w_rR, w_rL, w_dI, w_sO, w_sq, w_si, w_pI, w_pZ, w_pR, w_pU, w_qI, w_qB, w_qZ, w_qU, w_qR, w_kV, q_icst, q_lcst, q_xR, q_ldI, q_ldR, q_ldL, q_bn, q_un, q_dv, q_fI, q_fR, q_aI, q_aR, q_aN, q_tn, q_cmp, q_cmz, q_cnt, q_ctt, q_cand, q_cor, q_vn, q_vI, q_vR, q_vL, q_kI, q_kR, q_kL, q_ckI, envN, argE, List.flatMap_cons, List.flatMap_nil, Value.category, junk, oadd, osub, omul, oand, oor, oxor, odiv, orem, oshl, oshr, oushr, omax, omin]; simp (disch := first | omega | simp) [rk_i, rk_b, rk_o, st1, kill, Value.category, rcv, nog, inI_b, nI_clamp, nI_ltI, nI_leI, nI_eq, nI_9, nI_6, nI_22, nI_12, nI_180, nI_add, nI_1, hn, ly162, ly164, c2, wI_1, wI_r, wI_i, i20]
  rintro E1 h1 rfl
  rw [w_rV]
  refine Or.inl ⟨rfl, rfl, rfl, ?_, ?_, ?_, ?_⟩
  · refine Fr.w (Fr.w (Fr.w (Fr.refl h) ?_) ?_) ?_
    · exact Or.inl ⟨rfl, rfl⟩
    · exact Or.inr (Or.inl ⟨rfl, rfl⟩)
    · exact Or.inr (Or.inr ⟨rfl, rfl⟩)
  · simp [wI_i]
  · simp [wI_i]
  · simp [wI_i]
theorem w_acp {a b : DR} {c : DI} {E : En} {h : Hp} {Q : Nat → Value → En → Hp → Prop} (A B n : Nat) (ha : ev a E h fun x h1 => x = A ∧ h1 = h) (hb : ev b E h fun x h1 => x = B ∧ h1 = h) (hc : ev c E h fun x h1 => x = nI n ∧ h1 = h) (hA : A < h.1) (hB : B < h.1) {m k : Nat} (hLA : LY A = (13, m)) (hLB : LY B = (13, k)) (hnm : n ≤ m) (hnk : n ≤ k) (hm : n < 10000) (hQ : Q 0 .null E (h.1, (fun z j => if z = B ∧ j < n then h.2.1 A j else h.2.1 z j), h.2.2)) : wp (acp a b c) E h Q := by
  obtain ⟨x, h1, e1, rfl, rfl⟩ := ha
  obtain ⟨y, h2, e2, rfl, rfl⟩ := hb
  obtain ⟨z, h3, e3, rfl, rfl⟩ := hc
  refine ⟨0, .null, E, _, ?_, hQ⟩
  unfold acp
  rw [e1]
  simp only [Option.bind_some]
  rw [e2]
  simp only [Option.bind_some]
  rw [e3]
  simp only [Option.bind_some]
  rw [if_pos ⟨hA, hB, by rw [hLA], by rw [hLB], by rw [nI_toInt (by omega)]; omega, by rw [nI_toInt (by omega), hLA]; show (n : Int) ≤ (m : Int); omega, by rw [nI_toInt (by omega), hLB]; show (n : Int) ≤ (k : Int); omega⟩, nI_clamp (by omega)]
theorem x_hold {w : Wd} {T : Nat} {ra : Nat → Nat} {h : Hp} (q : CX w T ra h) : F_X9_holder [.ref T] h = some (some (.int (frm (W_R w) (W_fo w) (W_n w))), h) := by
  have := e_x_holder q.2.2.1
  rw [q.2.2.2.1.2.1] at this
  exact this
theorem mde_z {w : Wd} (h : W_n w = 0) : mde w = 0 := by
  unfold mde whz
  rw [if_pos]
  rw [h]
  rfl
/-- what the claims hold -/
def AR (w : Wd) (P : Nat → Int32) (h : Hp) : Prop := (∀ k, k < W_n w → h.2.1 163 k = (if frA w ≤ k then W_R w k 4 else -2) ∧ h.2.1 164 k = (if frA w ≤ k then gft w P (W_n w - 1 - k) else -2)) ∧ h.2.1 162 4 = bck w
theorem x_settle {w : Wd} {T : Nat} {ra : Nat → Nat} {h : Hp} (q : CX w T ra h) (hX : XR w 0 (lows w) (W_n w) h) : fq F_X0_settle [.ref 162, .ref 2] h fun r h' => r = none ∧ Fr SAs h h' ∧ AR w (h.2.1 2) h' := by
  obtain ⟨hn, a1, a2, a3, a4, a5, a6, a7⟩ := q.hd
  have n20 := q.wv.1
  have c0 : h.2.2 162 0 = some 147 := q.1.2.1.at 78 rfl
  have c1 : h.2.2 162 1 = some 163 := q.1.2.1.at 79 rfl
  have c2 : h.2.2 162 2 = some 164 := q.1.2.1.at 80 rfl
  have c3 : h.2.2 162 3 = some 165 := q.1.2.1.at 81 rfl
  unfold F_X0_settle
  refine f_mkE [.ref 162, .ref 2, junk, junk, junk] rfl (by simp [argE, Value.category]) ?_
  (refine w_fz fun B hB C hC => ?_); (simp only [f_mkF, w_sI, w_sR, w_sL, w_sC, w_sk, w_sbr, w_sco, w_rV, w_rI, w_rR, w_rL, w_dI, w_sO, w_sq, w_si, w_pI, w_pZ, w_pR, w_pU, w_qI, w_qB, w_qZ, w_qU, w_qR, w_kV, q_icst, q_lcst, q_xR, q_ldI, q_ldR, q_ldL, q_bn, q_un, q_dv, q_fI, q_fR, q_aI, q_aR, q_aN, q_tn, q_cmp, q_cmz, q_cnt, q_ctt, q_cand, q_cor, q_vn, q_vI, q_vR, q_vL, q_kI, q_kR, q_kL, q_ckI, envN, argE, List.flatMap_cons, List.flatMap_nil, Value.category, junk, oadd, osub, omul, oand, oor, oxor, odiv, orem, oshl, oshr, oushr, omax, omin]); (simp (disch := first | omega | simp) [rk_i, rk_b, rk_o, st1, kill, Value.category, rcv, nog, inI_b, nI_clamp, nI_ltI, nI_leI, nI_eq, nI_9, nI_6, nI_22, nI_12, nI_180, nI_add, nI_1, hn, ly162, ly147, c0, a1]); (subst hB hC)
  refine w_fz fun B hB C hC => ?_
  simp only [f_mkF, w_sI, w_sR, w_sL, w_sC, w_sk, w_sbr, w_sco, w_rV, w_rI, w_rR, w_rL, w_dI, w_sO, w_sq, w_si, w_pI, w_pZ, w_pR, w_pU, w_qI, w_qB, w_qZ, w_qU, w_qR, w_kV, q_icst, q_lcst, q_xR, q_ldI, q_ldR, q_ldL, q_bn, q_un, q_dv, q_fI, q_fR, q_aI, q_aR, q_aN, q_tn, q_cmp, q_cmz, q_cnt, q_ctt, q_cand, q_cor, q_vn, q_vI, q_vR, q_vL, q_kI, q_kR, q_kL, q_ckI, envN, argE, List.flatMap_cons, List.flatMap_nil, Value.category, junk, oadd, osub, omul, oand, oor, oxor, odiv, orem, oshl, oshr, oushr, omax, omin]
  simp (disch := first | omega | simp) [rk_i, rk_b, rk_o, st1, kill, Value.category, rcv, nog, inI_b, nI_clamp, nI_ltI, nI_leI, nI_eq, nI_9, nI_6, nI_22, nI_12, nI_180, nI_add, nI_1, hn, ly162, c1]
  refine fq_mono (x_fill hn (by omega : 163 < 212) rfl (by omega) (-2)) ?_
  rintro r h1 ⟨rfl, f1, e1⟩
  simp
  subst hB hC
  have hn1 : h1.1 = 212 := f1.1.trans hn
  refine w_fz fun B hB C hC => ?_
  simp only [f_mkF, w_sI, w_sR, w_sL, w_sC, w_sk, w_sbr, w_sco, w_rV, w_rI, w_rR, w_rL, w_dI, w_sO, w_sq, w_si, w_pI, w_pZ, w_pR, w_pU, w_qI, w_qB, w_qZ, w_qU, w_qR, w_kV, q_icst, q_lcst, q_xR, q_ldI, q_ldR, q_ldL, q_bn, q_un, q_dv, q_fI, q_fR, q_aI, q_aR, q_aN, q_tn, q_cmp, q_cmz, q_cnt, q_ctt, q_cand, q_cor, q_vn, q_vI, q_vR, q_vL, q_kI, q_kR, q_kL, q_ckI, envN, argE, List.flatMap_cons, List.flatMap_nil, Value.category, junk, oadd, osub, omul, oand, oor, oxor, odiv, orem, oshl, oshr, oushr, omax, omin]
  simp (disch := first | omega | simp) [rk_i, rk_b, rk_o, st1, kill, Value.category, rcv, nog, inI_b, nI_clamp, nI_ltI, nI_leI, nI_eq, nI_9, nI_6, nI_22, nI_12, nI_180, nI_add, nI_1, hn1, ly162, f1.2.1, c2]
  refine fq_mono (x_fill hn1 (by omega : 164 < 212) rfl (by omega) (-2)) ?_
  rintro r h2 ⟨rfl, f2, e2⟩
  simp
  subst hB hC
  have hn2 : h2.1 = 212 := f2.1.trans hn1
  (refine w_fz fun B hB C hC => ?_); (simp only [f_mkF, w_sI, w_sR, w_sL, w_sC, w_sk, w_sbr, w_sco, w_rV, w_rI, w_rR, w_rL, w_dI, w_sO, w_sq, w_si, w_pI, w_pZ, w_pR, w_pU, w_qI, w_qB, w_qZ, w_qU, w_qR, w_kV, q_icst, q_lcst, q_xR, q_ldI, q_ldR, q_ldL, q_bn, q_un, q_dv, q_fI, q_fR, q_aI, q_aR, q_aN, q_tn, q_cmp, q_cmz, q_cnt, q_ctt, q_cand, q_cor, q_vn, q_vI, q_vR, q_vL, q_kI, q_kR, q_kL, q_ckI, envN, argE, List.flatMap_cons, List.flatMap_nil, Value.category, junk, oadd, osub, omul, oand, oor, oxor, odiv, orem, oshl, oshr, oushr, omax, omin]); (simp (disch := first | omega | simp) [rk_i, rk_b, rk_o, st1, kill, Value.category, rcv, nog, inI_b, nI_clamp, nI_ltI, nI_leI, nI_eq, nI_9, nI_6, nI_22, nI_12, nI_180, nI_add, nI_1, hn2, ly162]); (subst hB hC)
  have fa : Fr SAs h (wI h2 162 4 (-2)) := ((f1.sub fun a k z => by unfold SAs; omega).trans (f2.sub fun a k z => by unfold SAs; omega)).w (by unfold SAs; omega)
  have g63 : ∀ k, k < 20 → (wI h2 162 4 (-2)).2.1 163 k = -2 := fun k hk => by rw [wI_o (by decide), f2.2.2 163 k (by omega)]; exact e1 k hk
  have g64 : ∀ k, k < 20 → (wI h2 162 4 (-2)).2.1 164 k = -2 := fun k hk => by rw [wI_o (by decide)]; exact e2 k hk
  have g62 : (wI h2 162 4 (-2)).2.1 162 4 = -2 := by simp [wI_i]
  generalize wI h2 162 4 (-2) = h3 at *
  have q3 : CX w T ra h3 := q.fas fa
  have hX3 : XR w 0 (lows w) (W_n w) h3 := hX.fr fa fun a k z1 z2 => by unfold SAs S9; omega
  clear e1 e2 f1 f2
  obtain ⟨hn, a1, a2, a3, a4, a5, a6, a7⟩ := q3.hd
  have c0 : h3.2.2 162 0 = some 147 := q3.1.2.1.at 78 rfl
  refine w_sqI (E' := [.ref 162, .ref 2, .ref T, .int (nI (W_n w) - 1), junk]) (nI (W_n w) - 1) (by simp only [f_mkF, w_sI, w_sR, w_sL, w_sC, w_sk, w_sbr, w_sco, w_rV, w_rI, w_rR, w_rL, w_dI, w_sO, w_sq, w_si, w_pI, w_pZ, w_pR, w_pU, w_qI, w_qB, w_qZ, w_qU, w_qR, w_kV, q_icst, q_lcst, q_xR, q_ldI, q_ldR, q_ldL, q_bn, q_un, q_dv, q_fI, q_fR, q_aI, q_aR, q_aN, q_tn, q_cmp, q_cmz, q_cnt, q_ctt, q_cand, q_cor, q_vn, q_vI, q_vR, q_vL, q_kI, q_kR, q_kL, q_ckI, envN, argE, List.flatMap_cons, List.flatMap_nil, Value.category, junk, oadd, osub, omul, oand, oor, oxor, odiv, orem, oshl, oshr, oushr, omax, omin]; simp [rk_i, rk_b, rk_o, st1, kill, Value.category, rcv, nog, hn, a2, a4, a7]) rfl ?_
  have nbn := (stt_nb w 0 (lows w) (W_n w))
  by_cases hz : W_n w = 0
  · have hm := mde_z hz
    refine w_sq.mpr ((w_siT ?_).mpr ?_)
    · simp only [f_mkF, w_sI, w_sR, w_sL, w_sC, w_sk, w_sbr, w_sco, w_rV, w_rI, w_rR, w_rL, w_dI, w_sO, w_sq, w_si, w_pI, w_pZ, w_pR, w_pU, w_qI, w_qB, w_qZ, w_qU, w_qR, w_kV, q_icst, q_lcst, q_xR, q_ldI, q_ldR, q_ldL, q_bn, q_un, q_dv, q_fI, q_fR, q_aI, q_aR, q_aN, q_tn, q_cmp, q_cmz, q_cnt, q_ctt, q_cand, q_cor, q_vn, q_vI, q_vR, q_vL, q_kI, q_kR, q_kL, q_ckI, envN, argE, List.flatMap_cons, List.flatMap_nil, Value.category, junk, oadd, osub, omul, oand, oor, oxor, odiv, orem, oshl, oshr, oushr, omax, omin]
      simp [rk_i, rk_b, rk_o, st1, kill, Value.category, rcv, nog, hz, nI_0]
    · rw [w_rV]
      refine ⟨(fun z => by cases z), fun _ => Or.inl ⟨rfl, rfl, rfl, fa, fun k hk => by omega, ?_⟩⟩
      rw [g62]
      unfold bck
      rw [if_pos hm]
  · obtain ⟨l, hl⟩ : ∃ l, W_n w = l + 1 := ⟨W_n w - 1, by omega⟩
    have hpos : ¬ nI l < 0 := Int32.not_lt.mpr (nI_0le (by omega))
    have hpos' : 0 ≤ nI l := nI_0le (by omega)
    have eo := x_now q3 nbn.1 (hX3.1 _ (Nat.le_refl _))
    have eh := x_hold q3
    have hl2 : W_n w - 1 = l := by omega
    rw [show nI (W_n w) - 1 = nI l by rw [hl]; exact nI_pred l]
    have hwe : own w (stt w 0 (lows w) (W_n w)) (W_n w) = whz w 0 := rfl
    rw [hwe] at eo
    by_cases ho : whz w 0 = frm (W_R w) (W_fo w) (W_n w)
    · have hm : mde w = 0 := by unfold mde; rw [if_pos ho]
      refine w_sq.mpr ((w_siT ?_).mpr ?_)
      · simp only [f_mkF, w_sI, w_sR, w_sL, w_sC, w_sk, w_sbr, w_sco, w_rV, w_rI, w_rR, w_rL, w_dI, w_sO, w_sq, w_si, w_pI, w_pZ, w_pR, w_pU, w_qI, w_qB, w_qZ, w_qU, w_qR, w_kV, q_icst, q_lcst, q_xR, q_ldI, q_ldR, q_ldL, q_bn, q_un, q_dv, q_fI, q_fR, q_aI, q_aR, q_aN, q_tn, q_cmp, q_cmz, q_cnt, q_ctt, q_cand, q_cor, q_vn, q_vI, q_vR, q_vL, q_kI, q_kR, q_kL, q_ckI, envN, argE, List.flatMap_cons, List.flatMap_nil, Value.category, junk, oadd, osub, omul, oand, oor, oxor, odiv, orem, oshl, oshr, oushr, omax, omin]
        simp (disch := first | omega | simp) [rk_i, rk_b, rk_o, st1, kill, Value.category, rcv, nog, hn, ly162, ly147, c0, a2, a4, fq_of eo, fq_of eh, ho, hpos, hpos', zlt]
      · rw [w_rV]
        refine ⟨(fun z => by cases z), fun _ => Or.inl ⟨rfl, rfl, rfl, fa, fun k hk => ?_, ?_⟩⟩
        · have : ¬ frA w ≤ k := by unfold frA; rw [if_neg (by omega)]; omega
          rw [if_neg this, if_neg this]
          exact ⟨g63 k (by omega), g64 k (by omega)⟩
        · rw [g62]; unfold bck; rw [if_pos hm]
    · refine w_sq.mpr ((w_siF ?_).mpr (w_sk2.mpr ?_))
      · simp only [f_mkF, w_sI, w_sR, w_sL, w_sC, w_sk, w_sbr, w_sco, w_rV, w_rI, w_rR, w_rL, w_dI, w_sO, w_sq, w_si, w_pI, w_pZ, w_pR, w_pU, w_qI, w_qB, w_qZ, w_qU, w_qR, w_kV, q_icst, q_lcst, q_xR, q_ldI, q_ldR, q_ldL, q_bn, q_un, q_dv, q_fI, q_fR, q_aI, q_aR, q_aN, q_tn, q_cmp, q_cmz, q_cnt, q_ctt, q_cand, q_cor, q_vn, q_vI, q_vR, q_vL, q_kI, q_kR, q_kL, q_ckI, envN, argE, List.flatMap_cons, List.flatMap_nil, Value.category, junk, oadd, osub, omul, oand, oor, oxor, odiv, orem, oshl, oshr, oushr, omax, omin]
        simp (disch := first | omega | simp) [rk_i, rk_b, rk_o, st1, kill, Value.category, rcv, nog, hn, ly162, ly147, c0, a2, a4, fq_of eo, fq_of eh, ho, hpos, hpos', zlt]
      (refine w_fz fun B hB C hC => ?_); (simp only [f_mkF, w_sI, w_sR, w_sL, w_sC, w_sk, w_sbr, w_sco, w_rV, w_rI, w_rR, w_rL, w_dI, w_sO, w_sq, w_si, w_pI, w_pZ, w_pR, w_pU, w_qI, w_qB, w_qZ, w_qU, w_qR, w_kV, q_icst, q_lcst, q_xR, q_ldI, q_ldR, q_ldL, q_bn, q_un, q_dv, q_fI, q_fR, q_aI, q_aR, q_aN, q_tn, q_cmp, q_cmz, q_cnt, q_ctt, q_cand, q_cor, q_vn, q_vI, q_vR, q_vL, q_kI, q_kR, q_kL, q_ckI, envN, argE, List.flatMap_cons, List.flatMap_nil, Value.category, junk, oadd, osub, omul, oand, oor, oxor, odiv, orem, oshl, oshr, oushr, omax, omin]); (simp (disch := first | omega | simp) [rk_i, rk_b, rk_o, st1, kill, Value.category, rcv, nog, inI_b, nI_clamp, nI_ltI, nI_leI, nI_eq, nI_9, nI_6, nI_22, nI_12, nI_180, nI_add, nI_1, hn, ly162]); (subst hB hC)
      have fb : Fr SAs h (wI h3 162 4 0) := fa.w (by unfold SAs; omega)
      have g63' : ∀ k, k < 20 → (wI h3 162 4 0).2.1 163 k = -2 := fun k hk => by rw [wI_o (by decide)]; exact g63 k hk
      have g64' : ∀ k, k < 20 → (wI h3 162 4 0).2.1 164 k = -2 := fun k hk => by rw [wI_o (by decide)]; exact g64 k hk
      have g62' : (wI h3 162 4 0).2.1 162 4 = 0 := by simp [wI_i]
      clear g63 g64 g62
      generalize wI h3 162 4 0 = h4 at *
      have q4 : CX w T ra h4 := q.fas fb
      have hX4 : XR w 0 (lows w) (W_n w) h4 := hX.fr fb fun a k z1 z2 => by unfold SAs S9; omega
      obtain ⟨hn4, a1, a2, a3, a4, a5, a6, a7⟩ := q4.hd
      have c04 : h4.2.2 162 0 = some 147 := q4.1.2.1.at 78 rfl
      have hln : l < W_n w := by omega
      obtain ⟨i20, b1, b2', b3, b4⟩ := q4.row hln
      obtain ⟨k1, k2⟩ := q4.kx hln
      have b40 := b4 0 (by omega)
      rw [k1] at b40
      have b44 := b4 4 (by omega)
      have kz : nI (kd w l) = 0 ↔ kd w l = 0 := by rw [← nI_0, nI_eq (by omega) (by omega)]
      have k6 : (6 : Int32) = nI 6 := rfl
      have hP2 : h4.2.1 2 = h.2.1 2 := funext fun k => fb.2.2 2 k (by unfold SAs S9; omega)
      refine w_fz fun B hB C hC => ?_
      have hrest : ∀ h5, Fr S9 h4 h5 → mde w = 2 → wp B [.ref 162, .ref 2, .ref T, .int (nI l), junk] h5 C := by
        intro h5 f5 hm2
        have f5' : Fr SAs h h5 := fb.trans (f5.sub fun a k z => Or.inl z)
        have q5 : CX w T ra h5 := q.fas f5'
        have hn5 := q5.1.1
        have c35 : h5.2.2 162 3 = some 165 := q5.1.2.1.at 81 rfl
        rw [hB, hC]
        clear hB hC
        have hfr : frA w = dwn (okk w) (W_n w) := by unfold frA; rw [if_pos hm2]
        refine w_sqS (fun E1 h6 => E1 = [.ref 162, .ref 2, .ref T, .int (nI l), junk] ∧ Fr SAs h h6 ∧ (∀ p, p < 12 → h6.2.1 165 p = h.2.1 2 p) ∧ ∀ a k, a ≠ 165 → h6.2.1 a k = h5.2.1 a k) (w_acp 2 165 12 ?_ ?_ ?_ (by omega) (by omega) rfl rfl (by omega) (by omega) (by omega) ⟨rfl, rfl, f5'.trans ⟨rfl, rfl, fun a k z => if_neg (by unfold SAs at z; omega)⟩, fun p hp => ?_, fun a k z => if_neg (by omega)⟩) ?_
        · simp only [f_mkF, w_sI, w_sR, w_sL, w_sC, w_sk, w_sbr, w_sco, w_rV, w_rI, w_rR, w_rL, w_dI, w_sO, w_sq, w_si, w_pI, w_pZ, w_pR, w_pU, w_qI, w_qB, w_qZ, w_qU, w_qR, w_kV, q_icst, q_lcst, q_xR, q_ldI, q_ldR, q_ldL, q_bn, q_un, q_dv, q_fI, q_fR, q_aI, q_aR, q_aN, q_tn, q_cmp, q_cmz, q_cnt, q_ctt, q_cand, q_cor, q_vn, q_vI, q_vR, q_vL, q_kI, q_kR, q_kL, q_ckI, envN, argE, List.flatMap_cons, List.flatMap_nil, Value.category, junk, oadd, osub, omul, oand, oor, oxor, odiv, orem, oshl, oshr, oushr, omax, omin]; simp
        · simp only [f_mkF, w_sI, w_sR, w_sL, w_sC, w_sk, w_sbr, w_sco, w_rV, w_rI, w_rR, w_rL, w_dI, w_sO, w_sq, w_si, w_pI, w_pZ, w_pR, w_pU, w_qI, w_qB, w_qZ, w_qU, w_qR, w_kV, q_icst, q_lcst, q_xR, q_ldI, q_ldR, q_ldL, q_bn, q_un, q_dv, q_fI, q_fR, q_aI, q_aR, q_aN, q_tn, q_cmp, q_cmz, q_cnt, q_ctt, q_cand, q_cor, q_vn, q_vI, q_vR, q_vL, q_kI, q_kR, q_kL, q_ckI, envN, argE, List.flatMap_cons, List.flatMap_nil, Value.category, junk, oadd, osub, omul, oand, oor, oxor, odiv, orem, oshl, oshr, oushr, omax, omin]; simp [hn5, ly162, c35]
        · simp only [f_mkF, w_sI, w_sR, w_sL, w_sC, w_sk, w_sbr, w_sco, w_rV, w_rI, w_rR, w_rL, w_dI, w_sO, w_sq, w_si, w_pI, w_pZ, w_pR, w_pU, w_qI, w_qB, w_qZ, w_qU, w_qR, w_kV, q_icst, q_lcst, q_xR, q_ldI, q_ldR, q_ldL, q_bn, q_un, q_dv, q_fI, q_fR, q_aI, q_aR, q_aN, q_tn, q_cmp, q_cmz, q_cnt, q_ctt, q_cand, q_cor, q_vn, q_vI, q_vR, q_vL, q_kI, q_kR, q_kL, q_ckI, envN, argE, List.flatMap_cons, List.flatMap_nil, Value.category, junk, oadd, osub, omul, oand, oor, oxor, odiv, orem, oshl, oshr, oushr, omax, omin]; simp; rfl
        · show (if 165 = 165 ∧ p < 12 then h5.2.1 2 p else h5.2.1 165 p) = _
          rw [if_pos ⟨rfl, hp⟩, ← hP2]
          exact f5.2.2 2 p (by unfold S9; omega)
        rintro E1 h6 ⟨rfl, f6, e65, e6⟩
        have e663 : ∀ k, k < 20 → h6.2.1 163 k = -2 := fun k hk => by rw [e6 163 k (by omega), f5.2.2 163 k (by unfold S9; omega)]; exact g63' k hk
        have e664 : ∀ k, k < 20 → h6.2.1 164 k = -2 := fun k hk => by rw [e6 164 k (by omega), f5.2.2 164 k (by unfold S9; omega)]; exact g64' k hk
        have e662 : h6.2.1 162 4 = 0 := by rw [e6 162 4 (by omega), f5.2.2 162 4 (by unfold S9; omega)]; exact g62'
        refine w_sq.mpr ?_
        refine w_sqI (E' := [.ref 162, .ref 2, .ref T, .int (nI l), .int (nI (l + 1) - 1)]) (nI (l + 1) - 1) (by simp only [f_mkF, w_sI, w_sR, w_sL, w_sC, w_sk, w_sbr, w_sco, w_rV, w_rI, w_rR, w_rL, w_dI, w_sO, w_sq, w_si, w_pI, w_pZ, w_pR, w_pU, w_qI, w_qB, w_qZ, w_qU, w_qR, w_kV, q_icst, q_lcst, q_xR, q_ldI, q_ldR, q_ldL, q_bn, q_un, q_dv, q_fI, q_fR, q_aI, q_aR, q_aN, q_tn, q_cmp, q_cmz, q_cnt, q_ctt, q_cand, q_cor, q_vn, q_vI, q_vR, q_vL, q_kI, q_kR, q_kL, q_ckI, envN, argE, List.flatMap_cons, List.flatMap_nil, Value.category, junk, oadd, osub, omul, oand, oor, oxor, odiv, orem, oshl, oshr, oushr, omax, omin]; simp [nI_pred]) rfl ?_
        refine wp_mono (w_lp (Q := fun o _ _ h' => o = 0 ∧ Fr SAs h h' ∧ AR w (h.2.1 2) h') (fun k E h' => ∃ j, k = j ∧ j ≤ W_n w ∧ E = [.ref 162, .ref 2, .ref T, .int (nI l), .int (nI j - 1)] ∧ Fr SAs h h' ∧ dwn (okk w) (W_n w) = dwn (okk w) j ∧ (∀ p, p < 12 → h'.2.1 165 p = prs w (h.2.1 2) (W_n w - j) p) ∧ (∀ k, k < 20 → h'.2.1 163 k = (if j ≤ k ∧ k < W_n w then W_R w k 4 else -2) ∧ h'.2.1 164 k = (if j ≤ k ∧ k < W_n w then gft w (h.2.1 2) (W_n w - 1 - k) else -2)) ∧ h'.2.1 162 4 = 0) ?_ (l + 1) _ _ ⟨l + 1, rfl, by omega, rfl, f6, by rw [hl], fun p hp => by rw [show W_n w - (l + 1) = 0 by omega]; exact e65 p hp, fun k hk => by rw [if_neg (by omega), if_neg (by omega)]; exact ⟨e663 k hk, e664 k hk⟩, e662⟩) ?_
        · rintro k E h' ⟨j, rfl, hj, rfl, f, hd, hp, hk, h62⟩
          have hend : frA w = k → AR w (h.2.1 2) h' := by
            intro hkk
            refine ⟨fun i hi => ?_, ?_⟩
            · obtain ⟨x1, x2⟩ := hk i (by omega)
              rw [x1, x2, hkk]
              by_cases hki : k ≤ i
              · rw [if_pos ⟨hki, hi⟩, if_pos hki, if_pos ⟨hki, hi⟩, if_pos hki]; exact ⟨rfl, rfl⟩
              · rw [if_neg (by omega), if_neg hki, if_neg (by omega), if_neg hki]; exact ⟨rfl, rfl⟩
            · rw [h62]; unfold bck; rw [if_neg (by omega), if_neg (by omega)]
          match k, hj, f, hd, hp, hk, hend with
          | 0, hj, f, hd, hp, hk, hend =>
            refine ev_F ?_ ⟨fun _ => ⟨rfl, f, hend (by rw [hfr, hd]; rfl)⟩, fun z => (by cases z)⟩
            simp only [f_mkF, w_sI, w_sR, w_sL, w_sC, w_sk, w_sbr, w_sco, w_rV, w_rI, w_rR, w_rL, w_dI, w_sO, w_sq, w_si, w_pI, w_pZ, w_pR, w_pU, w_qI, w_qB, w_qZ, w_qU, w_qR, w_kV, q_icst, q_lcst, q_xR, q_ldI, q_ldR, q_ldL, q_bn, q_un, q_dv, q_fI, q_fR, q_aI, q_aR, q_aN, q_tn, q_cmp, q_cmz, q_cnt, q_ctt, q_cand, q_cor, q_vn, q_vI, q_vR, q_vL, q_kI, q_kR, q_kL, q_ckI, envN, argE, List.flatMap_cons, List.flatMap_nil, Value.category, junk, oadd, osub, omul, oand, oor, oxor, odiv, orem, oshl, oshr, oushr, omax, omin]
            simp [nI_0]
          | i + 1, hj, f, hd, hp, hk, hend =>
            have hi : i < W_n w := by omega
            have qi : CX w T ra h' := q.fas f
            have hXi : XR w 0 (lows w) (W_n w) h' := hX.fr f fun a k z1 z2 => by unfold SAs S9; omega
            have hni := qi.1.1
            have hp0 : ¬ nI i < 0 := Int32.not_lt.mpr (nI_0le (by omega))
            have hp0' : 0 ≤ nI i := nI_0le (by omega)
            rw [nI_pred, q_cand]
            refine ev_T ?_ ⟨fun _ => ?_, fun z => (by cases z)⟩
            · simp only [f_mkF, w_sI, w_sR, w_sL, w_sC, w_sk, w_sbr, w_sco, w_rV, w_rI, w_rR, w_rL, w_dI, w_sO, w_sq, w_si, w_pI, w_pZ, w_pR, w_pU, w_qI, w_qB, w_qZ, w_qU, w_qR, w_kV, q_icst, q_lcst, q_xR, q_ldI, q_ldR, q_ldL, q_bn, q_un, q_dv, q_fI, q_fR, q_aI, q_aR, q_aN, q_tn, q_cmp, q_cmz, q_cnt, q_ctt, q_cand, q_cor, q_vn, q_vI, q_vR, q_vL, q_kI, q_kR, q_kL, q_ckI, envN, argE, List.flatMap_cons, List.flatMap_nil, Value.category, junk, oadd, osub, omul, oand, oor, oxor, odiv, orem, oshl, oshr, oushr, omax, omin]; simp [hp0, hp0', zlt]
            rw [q_cnt, q_cmz]
            refine q_kIe [.ref 162, .int (nI i)] (by simp only [f_mkF, w_sI, w_sR, w_sL, w_sC, w_sk, w_sbr, w_sco, w_rV, w_rI, w_rR, w_rL, w_dI, w_sO, w_sq, w_si, w_pI, w_pZ, w_pR, w_pU, w_qI, w_qB, w_qZ, w_qU, w_qR, w_kV, q_icst, q_lcst, q_xR, q_ldI, q_ldR, q_ldL, q_bn, q_un, q_dv, q_fI, q_fR, q_aI, q_aR, q_aN, q_tn, q_cmp, q_cmz, q_cnt, q_ctt, q_cand, q_cor, q_vn, q_vI, q_vR, q_vL, q_kI, q_kR, q_kL, q_ckI, envN, argE, List.flatMap_cons, List.flatMap_nil, Value.category, junk, oadd, osub, omul, oand, oor, oxor, odiv, orem, oshl, oshr, oushr, omax, omin]; simp) (by simp [rcv, hni, ly162]) ?_
            refine fq_mono (x_isAsk qi hi (hXi.1 i (by omega))) ?_
            rintro r h7 ⟨rfl, f7⟩
            refine ⟨_, rfl, ?_⟩
            have f7' : Fr SAs h h7 := f.trans (f7.sub fun a k z => Or.inl z)
            have k7 : ∀ a k, a ≠ 149 → a ≠ 150 → h7.2.1 a k = h'.2.1 a k := fun a k z1 z2 => f7.2.2 a k (by unfold S9; omega)
            cases ho : okk w i with
            | false =>
              refine ⟨fun _ => ⟨rfl, f7', ?_⟩, fun z => ?_⟩
              · obtain ⟨x1, x2⟩ := hend (by rw [hfr, hd, dwn, if_neg (by rw [ho]; simp)])
                refine ⟨fun k hk => ?_, ?_⟩
                · rw [k7 163 k (by omega) (by omega), k7 164 k (by omega) (by omega)]; exact x1 k hk
                · rw [k7 162 4 (by omega) (by omega)]; exact x2
              · simp [b2] at z
            | true =>
              refine ⟨fun z => ?_, fun _ => ?_⟩
              · simp [b2] at z
              have q7 : CX w T ra h7 := q.fas f7'
              have hn7 := q7.1.1
              refine w_kVe [.ref 162, .int (nI i)] (by simp only [f_mkF, w_sI, w_sR, w_sL, w_sC, w_sk, w_sbr, w_sco, w_rV, w_rI, w_rR, w_rL, w_dI, w_sO, w_sq, w_si, w_pI, w_pZ, w_pR, w_pU, w_qI, w_qB, w_qZ, w_qU, w_qR, w_kV, q_icst, q_lcst, q_xR, q_ldI, q_ldR, q_ldL, q_bn, q_un, q_dv, q_fI, q_fR, q_aI, q_aR, q_aN, q_tn, q_cmp, q_cmz, q_cnt, q_ctt, q_cand, q_cor, q_vn, q_vI, q_vR, q_vL, q_kI, q_kR, q_kL, q_ckI, envN, argE, List.flatMap_cons, List.flatMap_nil, Value.category, junk, oadd, osub, omul, oand, oor, oxor, odiv, orem, oshl, oshr, oushr, omax, omin]; simp) (by simp [rcv, hn7, ly162]) ?_
              refine fq_mono (x_askBack q7 hi) ?_
              rintro r h8 ⟨rfl, f8, y1, y2, y3⟩
              have hgv := frm_ok q.wv (i := i) (by omega)
              have hgc := clampI hgv.1
              have e65i := hp (frm (W_R w) (W_fo w) i).toNatClampNeg (by omega)
              rw [k7 165 _ (by omega) (by omega), e65i] at y2 y3
              refine ⟨rfl, fun _ => ?_, (fun z => by cases z), fun z => absurd rfl z⟩
              have hni1 : W_n w - i = (W_n w - (i + 1)) + 1 := by omega
              have hidx : W_n w - 1 - (W_n w - (i + 1)) = i := by omega
              refine w_sCe (nI i) (nI i - 1) rfl (Int32.sub_eq_add_neg _ _).symm rfl ⟨rfl, i, by omega, i, rfl, by omega, rfl, f7'.trans (f8.sub fun a k z => by unfold SAs; omega), ?_, fun p hp12 => ?_, fun k hk20 => ?_, ?_⟩
              · rw [hd, dwn, if_pos ho]
              · rw [hni1, prs, hidx]
                dsimp only
                by_cases hpg : p = (frm (W_R w) (W_fo w) i).toNatClampNeg
                · rw [if_pos hpg, hpg]; exact y3
                · rw [if_neg hpg, f8.2.2 165 p (by omega), k7 165 p (by omega) (by omega)]
                  exact hp p hp12
              · by_cases hki : k = i
                · subst hki
                  rw [if_pos ⟨Nat.le_refl _, hi⟩, if_pos ⟨Nat.le_refl _, hi⟩, y1, y2]
                  refine ⟨rfl, ?_⟩
                  unfold gft
                  rw [show W_n w - 1 - (W_n w - 1 - k) = k by omega, show W_n w - 1 - k = W_n w - (k + 1) by omega]
                · obtain ⟨x1, x2⟩ := hk k hk20
                  rw [f8.2.2 163 k (by omega), f8.2.2 164 k (by omega), k7 163 k (by omega) (by omega), k7 164 k (by omega) (by omega), x1, x2]
                  by_cases hki2 : i ≤ k ∧ k < W_n w
                  · rw [if_pos hki2, if_pos (by omega), if_pos hki2, if_pos (by omega)]; exact ⟨rfl, rfl⟩
                  · rw [if_neg hki2, if_neg (by omega), if_neg hki2, if_neg (by omega)]; exact ⟨rfl, rfl⟩
              · rw [f8.2.2 162 4 (by omega), k7 162 4 (by omega) (by omega)]; exact h62
        · rintro o v E1 h7 ⟨rfl, f7, ar⟩
          refine ⟨fun _ => ?_, fun z => absurd rfl z⟩
          rw [w_rV]
          exact Or.inl ⟨rfl, rfl, rfl, f7, ar⟩
      by_cases hk0 : kd w l = 0
      · rw [w_sq, w_si, q_cand]
        refine ev_T ?_ ⟨fun _ => ?_, fun z => (by cases z)⟩
        · simp only [f_mkF, w_sI, w_sR, w_sL, w_sC, w_sk, w_sbr, w_sco, w_rV, w_rI, w_rR, w_rL, w_dI, w_sO, w_sq, w_si, w_pI, w_pZ, w_pR, w_pU, w_qI, w_qB, w_qZ, w_qU, w_qR, w_kV, q_icst, q_lcst, q_xR, q_ldI, q_ldR, q_ldL, q_bn, q_un, q_dv, q_fI, q_fR, q_aI, q_aR, q_aN, q_tn, q_cmp, q_cmz, q_cnt, q_ctt, q_cand, q_cor, q_vn, q_vI, q_vR, q_vL, q_kI, q_kR, q_kL, q_ckI, envN, argE, List.flatMap_cons, List.flatMap_nil, Value.category, junk, oadd, osub, omul, oand, oor, oxor, odiv, orem, oshl, oshr, oushr, omax, omin]
          simp (disch := first | omega | simp) [rk_i, rk_b, rk_o, st1, kill, Value.category, rcv, nog, inI_b, nI_clamp, nI_ltI, nI_leI, nI_eq, nI_9, nI_6, nI_22, nI_12, nI_180, nI_add, nI_1, hn4, a2, a3, a4, a5, a6, b1, b2', b3, b40, i20, hk0, nI_0]
        rw [q_cnt, q_cmz]
        refine q_kIe [.ref 147, .int (nI l), .int (nI 6)] (by simp only [f_mkF, w_sI, w_sR, w_sL, w_sC, w_sk, w_sbr, w_sco, w_rV, w_rI, w_rR, w_rL, w_dI, w_sO, w_sq, w_si, w_pI, w_pZ, w_pR, w_pU, w_qI, w_qB, w_qZ, w_qU, w_qR, w_kV, q_icst, q_lcst, q_xR, q_ldI, q_ldR, q_ldL, q_bn, q_un, q_dv, q_fI, q_fR, q_aI, q_aR, q_aN, q_tn, q_cmp, q_cmz, q_cnt, q_ctt, q_cand, q_cor, q_vn, q_vI, q_vR, q_vL, q_kI, q_kR, q_kL, q_ckI, envN, argE, List.flatMap_cons, List.flatMap_nil, Value.category, junk, oadd, osub, omul, oand, oor, oxor, odiv, orem, oshl, oshr, oushr, omax, omin]; simp [rk_i, rk_b, rk_o, st1, kill, Value.category, rcv, nog, hn4, ly162, c04, k6]) (by simp [rcv, hn4, ly147]) ?_
        refine fq_mono (x_claim q4 hln (by omega : 6 < 8) (by omega) (hX4.1 l (by omega))) ?_
        rintro r h5 ⟨rfl, f5⟩
        refine ⟨_, rfl, ?_⟩
        cases hcl : clm w l 6 with
        | true =>
          refine ⟨fun _ => ?_, fun z => ?_⟩
          · have hm1 : mde w = 1 := by
              unfold mde
              rw [if_neg ho, hl2, if_pos ⟨hk0, hcl⟩]
            have f5' : Fr SAs h h5 := fb.trans (f5.sub fun a k z => Or.inl z)
            have q5 : CX w T ra h5 := q.fas f5'
            have hn5 := q5.1.1
            obtain ⟨-, -, -, -, -, a5', -, -⟩ := q5.hd
            obtain ⟨-, b1', -, -, b4'⟩ := q5.row hln
            have b44' := b4' 4 (by omega)
            rw [hC]
            simp only [f_mkF, w_sI, w_sR, w_sL, w_sC, w_sk, w_sbr, w_sco, w_rV, w_rI, w_rR, w_rL, w_dI, w_sO, w_sq, w_si, w_pI, w_pZ, w_pR, w_pU, w_qI, w_qB, w_qZ, w_qU, w_qR, w_kV, q_icst, q_lcst, q_xR, q_ldI, q_ldR, q_ldL, q_bn, q_un, q_dv, q_fI, q_fR, q_aI, q_aR, q_aN, q_tn, q_cmp, q_cmz, q_cnt, q_ctt, q_cand, q_cor, q_vn, q_vI, q_vR, q_vL, q_kI, q_kR, q_kL, q_ckI, envN, argE, List.flatMap_cons, List.flatMap_nil, Value.category, junk, oadd, osub, omul, oand, oor, oxor, odiv, orem, oshl, oshr, oushr, omax, omin]
            simp (disch := first | omega | simp) [rk_i, rk_b, rk_o, st1, kill, Value.category, rcv, nog, inI_b, nI_clamp, nI_ltI, nI_leI, nI_eq, nI_9, nI_6, nI_22, nI_12, nI_180, nI_add, nI_1, hn5, ly162, a2, a3, a4, a5', a6, b1', b2', b3, b44', i20]
            refine ⟨f5'.w (by unfold SAs; omega), fun k hk => ?_, ?_⟩
            · have : ¬ frA w ≤ k := by unfold frA; rw [if_neg (by omega)]; omega
              rw [if_neg this, if_neg this, wI_o (show (163 : Nat) ≠ 162 by decide), wI_o (show (164 : Nat) ≠ 162 by decide), f5.2.2 163 k (by unfold S9; omega), f5.2.2 164 k (by unfold S9; omega)]
              exact ⟨g63' k (by omega), g64' k (by omega)⟩
            · unfold bck
              rw [if_neg (by omega), if_pos hm1, hl2]
              simp [wI_i]
          · simp [b2] at z
        | false =>
          refine ⟨fun z => ?_, fun _ => ?_⟩
          · simp [b2] at z
          · refine w_sk2.mpr (hrest h5 f5 ?_)
            unfold mde
            rw [if_neg ho, hl2, if_neg (by rw [hcl]; simp)]
      · refine w_sq.mpr ((w_siF ?_).mpr (w_sk2.mpr (hrest h4 (Fr.refl _) ?_)))
        · simp only [f_mkF, w_sI, w_sR, w_sL, w_sC, w_sk, w_sbr, w_sco, w_rV, w_rI, w_rR, w_rL, w_dI, w_sO, w_sq, w_si, w_pI, w_pZ, w_pR, w_pU, w_qI, w_qB, w_qZ, w_qU, w_qR, w_kV, q_icst, q_lcst, q_xR, q_ldI, q_ldR, q_ldL, q_bn, q_un, q_dv, q_fI, q_fR, q_aI, q_aR, q_aN, q_tn, q_cmp, q_cmz, q_cnt, q_ctt, q_cand, q_cor, q_vn, q_vI, q_vR, q_vL, q_kI, q_kR, q_kL, q_ckI, envN, argE, List.flatMap_cons, List.flatMap_nil, Value.category, junk, oadd, osub, omul, oand, oor, oxor, odiv, orem, oshl, oshr, oushr, omax, omin]
          simp (disch := first | omega | simp) [rk_i, rk_b, rk_o, st1, kill, Value.category, rcv, nog, inI_b, nI_clamp, nI_ltI, nI_leI, nI_eq, nI_9, nI_6, nI_22, nI_12, nI_180, nI_add, nI_1, hn4, a2, a3, a4, a5, a6, b1, b2', b3, b40, i20, hk0, kz]
        · unfold mde
          rw [if_neg ho, hl2, if_neg fun z => hk0 z.1]
