/-! a clause, reckoned by the class -/
theorem SR_push {h : Hp} {a : Nat} {v : Int32} {L : List Int32} (s : SR (h.2.1 a) L) : SR ((wI h a L.length v).2.1 a) (v :: L) := by
  refine ⟨by simp [wI_i], SR_w s fun i hi => ?_⟩
  rw [wI_i, if_neg (by omega)]
theorem cop_b {o : Nat} (h1 : 2 ≤ o) (h2 : o ≤ 9) : ¬ cop o = 0 ∧ ¬ cop o = 1 ∧ ¬ cop o = 2 ∧ ¬ cop o = 3 ∧ ¬ cop o = 4 ∧ ¬ cop o = 5 ∧ (cop o = 47 ↔ o = 5) ∧ (cop o = 37 ↔ o = 6) := by
  rcases o8 h1 h2 with rfl | rfl | rfl | rfl | rfl | rfl | rfl | rfl <;> decide
theorem run_s {d : LDt} {fc : Nat → Int32} {e fu k : Nat} {L : List Int32} (hk : k < e) : run d fc e (fu + 1) k L = if lOp d k = 0 then run d fc e fu (k + 1) (nI (lAr d k) :: L) else if lOp d k = 1 then run d fc e fu (k + 1) (fc (lAr d k) :: L) else if lOp d k = 10 then run d fc e fu (k + 1) ((1 - L.headD 0) :: L.tail) else if 11 ≤ lOp d k then (if (L.headD 0 = 1 ↔ lOp d k = 12) then run d fc e fu (lTg d k) L else run d fc e fu (k + 1) L.tail) else if (lOp d k = 5 ∨ lOp d k = 6) ∧ L.headD 0 = 0 then false else run d fc e fu (k + 1) (bin (lOp d k) (L.tail.headD 0) (L.headD 0) :: L.tail.tail) := by
  rw [run, if_neg (by omega)]
theorem run_e {d : LDt} {fc : Nat → Int32} {e fu : Nat} {L : List Int32} : run d fc e (fu + 1) e L = decide (L.headD 0 = 1) := by
  rw [run, if_pos (Nat.le_refl _)]
/-- the head is a truth -/
def tru (L : List Int32) : Prop := L.headD 0 = 0 ∨ L.headD 0 = 1
theorem bin_t {o : Nat} (h1 : 7 ≤ o) (x y : Int32) : bin o x y = 0 ∨ bin o x y = 1 := by
  unfold bin
  rw [if_neg (by omega), if_neg (by omega), if_neg (by omega), if_neg (by omega), if_neg (by omega)]
  grind
theorem ev_T {c : DC} {E : En} {h : Hp} {P : Bool → Hp → Prop} (hc : ev c E h fun t h1 => t = true ∧ h1 = h) (hP : P true h) : ev c E h P := ev_mono hc (by rintro t h1 ⟨rfl, rfl⟩; exact hP)
theorem ev_F {c : DC} {E : En} {h : Hp} {P : Bool → Hp → Prop} (hc : ev c E h fun t h1 => t = false ∧ h1 = h) (hP : P false h) : ev c E h P := ev_mono hc (by rintro t h1 ⟨rfl, rfl⟩; exact hP)
theorem nI_ge1 {n : Nat} (h0 : 1 ≤ n) (h : n < 2 ^ 31) : ¬ nI n < 1 := by
  show ¬ nI n < nI 1
  rw [nI_ltI h (by omega)]
  omega
theorem nI_ge2 {n : Nat} (h0 : 2 ≤ n) (h : n < 2 ^ 31) : ¬ nI n < 2 := by
  show ¬ nI n < nI 2
  rw [nI_ltI h (by omega)]
  omega
theorem nI_1le {n : Nat} (h0 : 1 ≤ n) (h : n < 2 ^ 31) : 1 ≤ nI n := Int32.not_lt.mp (nI_ge1 h0 h)
theorem nI_2le {n : Nat} (h0 : 2 ≤ n) (h : n < 2 ^ 31) : 2 ≤ nI n := Int32.not_lt.mp (nI_ge2 h0 h)
theorem inI_0 {n : Nat} (hn : 0 < n) : inI 0 n = true := by simp [inI, hn]
theorem nI_one : nI 1 = 1 := rfl
theorem x_holding {h : Hp} (hp : Ip h) {la : Nat} (hA : lawA la) {d : LDt} (hw : WD d) (hx : LX h la d) {c : Nat} (hc : c < lCn d) : fq F_X6_isHolding [.ref 148, .ref la, .int (nI (lFr d c + c))] h fun r h' => r = some (.int (b2 (cls d (h.2.1 149) c = true))) ∧ Fr (fun a _ => a = 150) h h' := by
  have hn := hp.1
  obtain ⟨⟨p0, p1, p2, p3⟩, ⟨y0, y1, y2, y3, y4⟩, yb⟩ := law_p hp hA
  obtain ⟨w1, w2⟩ := hw
  obtain ⟨wl, w3, w4, sh, bo, w5, w5b, w6, w7, w8⟩ := w2 c hc
  obtain ⟨x1, ⟨ln, x2, x3, x4⟩, x5⟩ := hx
  obtain ⟨-, -, x6, x7⟩ := x5 c hc
  have x8 := x4 c hc
  have r0 : h.2.2 148 0 = some 149 := hp.2.1.at 73 rfl
  have r1 : h.2.2 148 1 = some 150 := hp.2.1.at 74 rfl
  have ya : la < 212 := by omega
  have ya1 : la + 1 < 212 := by omega
  have ya2 : la + 2 < 212 := by omega
  clear x5 x4 w2
  generalize hB : cls d (h.2.1 149) c = B
  unfold F_X6_isHolding
  rw [f_mkF]
  refine ⟨by simp [argE, Value.category], ?_⟩
  rw [show envN 9 [Value.ref 148, Value.ref la, Value.int (nI (lFr d c + c))] = [Value.ref 148, Value.ref la, Value.int (nI (lFr d c + c)), junk, junk, junk, junk, junk, junk] from rfl]
  refine w_sqN ?_
  simp only [w_sI, q_icst]
  refine ⟨trivial, w_sq.mpr (w_sqN ?_)⟩
  simp only [w_sI, q_ldI]
  refine ⟨_, rfl, trivial, ?_⟩
  refine wp_mono (w_lp (Q := fun o v _ h' => o = 2 ∧ v = .int (b2 (B = true)) ∧ Fr (fun a _ => a = 150) h h') (fun m E h' => ∃ k L fu v5 v6 v7 v8, m = lTo d c + 1 - k ∧ lFr d c ≤ k ∧ k ≤ lTo d c ∧ lTo d c < k + fu ∧ run d (h.2.1 149) (lTo d c) fu k L = B ∧ L.length = sh k ∧ (bo k = true → tru L) ∧ SR (h'.2.1 150) L ∧ Fr (fun a _ => a = 150) h h' ∧ E = [.ref 148, .ref la, .int (nI (lFr d c + c)), .int (nI L.length), .int (nI (k + c)), v5, v6, v7, v8] ∧ v5.category = 1 ∧ v6.category = 1 ∧ v7.category = 1 ∧ v8.category = 1) ?_ (lTo d c + 1 - lFr d c) _ _ ⟨lFr d c, [], 200, junk, junk, junk, junk, rfl, Nat.le_refl _, w3, by omega, hB, w5.symm, (fun z => by rw [w5b] at z; cases z), trivial, Fr.refl h, rfl, rfl, rfl, rfl, rfl⟩) ?_
  · rintro m E h' ⟨k, L, fu, v5, v6, v7, v8, rfl, k1, k2, k3, k4, k5, k6, k7, k8, rfl, c5, c6, c7, c8⟩
    have k8' := k8
    obtain ⟨f1, f2, f3⟩ := k8
    have f1' : h'.1 = 212 := f1.trans hn
    have e4 : h'.2.1 la 4 = nI ln := (f3 la 4 (by omega)).trans x2
    have e9 : h'.2.1 149 = h.2.1 149 := funext fun j => f3 149 j (by omega)
    have kk : k + c < 160 := by omega
    have kl : k + c < ln := by omega
    refine ev_T ?_ ⟨fun z => (by cases z), fun _ => ?_⟩
    · simp only [f_mkF, w_sI, w_sR, w_sL, w_sC, w_sk, w_sbr, w_sco, w_rV, w_rI, w_rR, w_rL, w_dI, w_sO, w_sq, w_si, w_pI, w_pZ, w_pR, w_pU, w_qI, w_qB, w_qZ, w_qU, w_qR, w_kV, q_icst, q_lcst, q_xR, q_ldI, q_ldR, q_ldL, q_bn, q_un, q_dv, q_fI, q_fR, q_aI, q_aR, q_aN, q_tn, q_cmp, q_cmz, q_cnt, q_ctt, q_cand, q_cor, q_vn, q_vI, q_vR, q_vL, q_kI, q_kR, q_kL, q_ckI, envN, argE, List.flatMap_cons, List.flatMap_nil, Value.category, junk, oadd, osub, omul, oand, oor, oxor, odiv, orem, oshl, oshr, oushr, omax, omin]
      simp (disch := first | omega | simp) [rk_i, rk_b, rk_o, st1, kill, Value.category, rcv, nog, f1', y0, ya, e4, inI_b, nI_clamp, nI_ltI, nI_leI, nI_eq, nI_9, nI_6, nI_22, nI_12, nI_180, nI_add, nI_1, kl]
    refine w_sqI (E' := [.ref 148, .ref la, .int (nI (lFr d c + c)), .int (nI L.length), .int (nI (k + c)), .int (h'.2.1 (la + 1) (k + c)), v6, v7, v8]) (h'.2.1 (la + 1) (k + c)) ?_ (by simp [st1, kill, Value.category]) ?_
    · simp only [f_mkF, w_sI, w_sR, w_sL, w_sC, w_sk, w_sbr, w_sco, w_rV, w_rI, w_rR, w_rL, w_dI, w_sO, w_sq, w_si, w_pI, w_pZ, w_pR, w_pU, w_qI, w_qB, w_qZ, w_qU, w_qR, w_kV, q_icst, q_lcst, q_xR, q_ldI, q_ldR, q_ldL, q_bn, q_un, q_dv, q_fI, q_fR, q_aI, q_aR, q_aN, q_tn, q_cmp, q_cmz, q_cnt, q_ctt, q_cand, q_cor, q_vn, q_vI, q_vR, q_vL, q_kI, q_kR, q_kL, q_ckI, envN, argE, List.flatMap_cons, List.flatMap_nil, Value.category, junk, oadd, osub, omul, oand, oor, oxor, odiv, orem, oshl, oshr, oushr, omax, omin]
      simp (disch := first | omega | simp) [rk_i, rk_b, rk_o, st1, kill, Value.category, rcv, nog, f1', f2, y0, ya, p0, y1, ya1, inI_b, nI_clamp, nI_ltI, nI_leI, nI_eq, nI_9, nI_6, nI_22, nI_12, nI_180, nI_add, nI_1, kk]
    refine w_sqI (E' := [.ref 148, .ref la, .int (nI (lFr d c + c)), .int (nI L.length), .int (nI (k + c)), .int (h'.2.1 (la + 1) (k + c)), .int (h'.2.1 (la + 2) (k + c)), v7, v8]) (h'.2.1 (la + 2) (k + c)) ?_ (by simp [st1, kill, Value.category]) ?_
    · simp only [f_mkF, w_sI, w_sR, w_sL, w_sC, w_sk, w_sbr, w_sco, w_rV, w_rI, w_rR, w_rL, w_dI, w_sO, w_sq, w_si, w_pI, w_pZ, w_pR, w_pU, w_qI, w_qB, w_qZ, w_qU, w_qR, w_kV, q_icst, q_lcst, q_xR, q_ldI, q_ldR, q_ldL, q_bn, q_un, q_dv, q_fI, q_fR, q_aI, q_aR, q_aN, q_tn, q_cmp, q_cmz, q_cnt, q_ctt, q_cand, q_cor, q_vn, q_vI, q_vR, q_vL, q_kI, q_kR, q_kL, q_ckI, envN, argE, List.flatMap_cons, List.flatMap_nil, Value.category, junk, oadd, osub, omul, oand, oor, oxor, odiv, orem, oshl, oshr, oushr, omax, omin]
      simp (disch := first | omega | simp) [rk_i, rk_b, rk_o, st1, kill, Value.category, rcv, nog, f1', f2, y0, ya, p1, y2, ya2, inI_b, nI_clamp, nI_ltI, nI_leI, nI_eq, nI_9, nI_6, nI_22, nI_12, nI_180, nI_add, nI_1, kk]
    match fu, k3, k4 with
    | 0, k3, k4 => omega
    | fu + 1, k3, k4 =>
    by_cases hk : k = lTo d c
    · subst hk
      have s1 : h'.2.1 (la + 1) (lTo d c + c) = 5 := (f3 _ _ (by omega)).trans x6
      have t1 := k6 w7
      rw [run_e] at k4
      rw [s1]
      match L, k5, k7, t1, k4 with
      | [x], k5, k7, t1, k4 =>
        have t2 : h'.2.1 150 0 = x := k7.1
        refine (w_siF ?_).mpr ((w_siF ?_).mpr ((w_siT ?_).mpr ?_))
        · simp only [f_mkF, w_sI, w_sR, w_sL, w_sC, w_sk, w_sbr, w_sco, w_rV, w_rI, w_rR, w_rL, w_dI, w_sO, w_sq, w_si, w_pI, w_pZ, w_pR, w_pU, w_qI, w_qB, w_qZ, w_qU, w_qR, w_kV, q_icst, q_lcst, q_xR, q_ldI, q_ldR, q_ldL, q_bn, q_un, q_dv, q_fI, q_fR, q_aI, q_aR, q_aN, q_tn, q_cmp, q_cmz, q_cnt, q_ctt, q_cand, q_cor, q_vn, q_vI, q_vR, q_vL, q_kI, q_kR, q_kL, q_ckI, envN, argE, List.flatMap_cons, List.flatMap_nil, Value.category, junk, oadd, osub, omul, oand, oor, oxor, odiv, orem, oshl, oshr, oushr, omax, omin]; simp
        · simp only [f_mkF, w_sI, w_sR, w_sL, w_sC, w_sk, w_sbr, w_sco, w_rV, w_rI, w_rR, w_rL, w_dI, w_sO, w_sq, w_si, w_pI, w_pZ, w_pR, w_pU, w_qI, w_qB, w_qZ, w_qU, w_qR, w_kV, q_icst, q_lcst, q_xR, q_ldI, q_ldR, q_ldL, q_bn, q_un, q_dv, q_fI, q_fR, q_aI, q_aR, q_aN, q_tn, q_cmp, q_cmz, q_cnt, q_ctt, q_cand, q_cor, q_vn, q_vI, q_vR, q_vL, q_kI, q_kR, q_kL, q_ckI, envN, argE, List.flatMap_cons, List.flatMap_nil, Value.category, junk, oadd, osub, omul, oand, oor, oxor, odiv, orem, oshl, oshr, oushr, omax, omin]; simp [nI_one]
        · simp only [f_mkF, w_sI, w_sR, w_sL, w_sC, w_sk, w_sbr, w_sco, w_rV, w_rI, w_rR, w_rL, w_dI, w_sO, w_sq, w_si, w_pI, w_pZ, w_pR, w_pU, w_qI, w_qB, w_qZ, w_qU, w_qR, w_kV, q_icst, q_lcst, q_xR, q_ldI, q_ldR, q_ldL, q_bn, q_un, q_dv, q_fI, q_fR, q_aI, q_aR, q_aN, q_tn, q_cmp, q_cmz, q_cnt, q_ctt, q_cand, q_cor, q_vn, q_vI, q_vR, q_vL, q_kI, q_kR, q_kL, q_ckI, envN, argE, List.flatMap_cons, List.flatMap_nil, Value.category, junk, oadd, osub, omul, oand, oor, oxor, odiv, orem, oshl, oshr, oushr, omax, omin]; simp
        · simp only [f_mkF, w_sI, w_sR, w_sL, w_sC, w_sk, w_sbr, w_sco, w_rV, w_rI, w_rR, w_rL, w_dI, w_sO, w_sq, w_si, w_pI, w_pZ, w_pR, w_pU, w_qI, w_qB, w_qZ, w_qU, w_qR, w_kV, q_icst, q_lcst, q_xR, q_ldI, q_ldR, q_ldL, q_bn, q_un, q_dv, q_fI, q_fR, q_aI, q_aR, q_aN, q_tn, q_cmp, q_cmz, q_cnt, q_ctt, q_cand, q_cor, q_vn, q_vI, q_vR, q_vL, q_kI, q_kR, q_kL, q_ckI, envN, argE, List.flatMap_cons, List.flatMap_nil, Value.category, junk, oadd, osub, omul, oand, oor, oxor, odiv, orem, oshl, oshr, oushr, omax, omin]
          simp (disch := first | omega | simp) [rk_i, rk_b, rk_o, st1, kill, Value.category, rcv, nog, f1', f2, ly148, ly150, r1, nI_pred, inI_b, nI_clamp, nI_ltI, nI_leI, nI_eq, nI_9, nI_6, nI_22, nI_12, nI_180, nI_add, nI_1, t2]
          unfold tru at t1
          simp at t1 k4
          rw [← k4]
          rcases t1 with rfl | rfl <;> simp [b2, k8']
      | [], k5, k7, t1, k4 => simp at k5; omega
      | x :: y :: L, k5, k7, t1, k4 => simp at k5; omega
    · have hk2 : k < lTo d c := by omega
      obtain ⟨s1, s2, s3⟩ := x7 k k1 hk2
      rw [← f3 (la + 1) (k + c) (by omega)] at s1
      rw [← f3 (la + 2) (k + c) (by omega)] at s2 s3
      obtain ⟨o1, o2⟩ := w8 k k1 hk2
      rw [run_s hk2] at k4
      rw [s1]
      rcases o2 with ⟨ho, h1, h2⟩ | ⟨⟨h0, h0b⟩, h1, h2⟩ | ⟨ho, h1, h2, h3⟩ | ⟨ho, h1, h2, h3, h4, h5, h6, h7, h8⟩
      · refine (w_siT ?_).mpr ?_
        · simp only [f_mkF, w_sI, w_sR, w_sL, w_sC, w_sk, w_sbr, w_sco, w_rV, w_rI, w_rR, w_rL, w_dI, w_sO, w_sq, w_si, w_pI, w_pZ, w_pR, w_pU, w_qI, w_qB, w_qZ, w_qU, w_qR, w_kV, q_icst, q_lcst, q_xR, q_ldI, q_ldR, q_ldL, q_bn, q_un, q_dv, q_fI, q_fR, q_aI, q_aR, q_aN, q_tn, q_cmp, q_cmz, q_cnt, q_ctt, q_cand, q_cor, q_vn, q_vI, q_vR, q_vL, q_kI, q_kR, q_kL, q_ckI, envN, argE, List.flatMap_cons, List.flatMap_nil, Value.category, junk, oadd, osub, omul, oand, oor, oxor, odiv, orem, oshl, oshr, oushr, omax, omin]
          rcases ho with ⟨ho, -⟩ | ⟨ho, -⟩ <;> simp [ho, cop]
        have ln64 : nI L.length < 64 := by
          show nI L.length < nI 64
          rw [nI_ltI (by omega) (by omega)]
          omega
        have hl64 : L.length < 64 := by omega
        refine w_sq.mpr ((w_siF ?_).mpr (w_sk2.mpr ?_))
        · simp only [f_mkF, w_sI, w_sR, w_sL, w_sC, w_sk, w_sbr, w_sco, w_rV, w_rI, w_rR, w_rL, w_dI, w_sO, w_sq, w_si, w_pI, w_pZ, w_pR, w_pU, w_qI, w_qB, w_qZ, w_qU, w_qR, w_kV, q_icst, q_lcst, q_xR, q_ldI, q_ldR, q_ldL, q_bn, q_un, q_dv, q_fI, q_fR, q_aI, q_aR, q_aN, q_tn, q_cmp, q_cmz, q_cnt, q_ctt, q_cand, q_cor, q_vn, q_vI, q_vR, q_vL, q_kI, q_kR, q_kL, q_ckI, envN, argE, List.flatMap_cons, List.flatMap_nil, Value.category, junk, oadd, osub, omul, oand, oor, oxor, odiv, orem, oshl, oshr, oushr, omax, omin]; simp [ln64]
        rcases ho with ⟨ho, ha⟩ | ⟨ho, ha⟩
        · rw [if_pos ho] at k4
          refine w_sqS (fun E1 h1 => E1 = [.ref 148, .ref la, .int (nI (lFr d c + c)), .int (nI L.length), .int (nI (k + c)), .int (cop (lOp d k)), .int (h'.2.1 (la + 2) (k + c)), v7, v8] ∧ h1 = wI h' 150 L.length (nI (lAr d k))) (w_qIe 150 L.length (nI (lAr d k)) ?_ ?_ ?_ (by omega) rfl hl64 (by omega) ⟨rfl, rfl, rfl⟩) ?_
          · simp only [f_mkF, w_sI, w_sR, w_sL, w_sC, w_sk, w_sbr, w_sco, w_rV, w_rI, w_rR, w_rL, w_dI, w_sO, w_sq, w_si, w_pI, w_pZ, w_pR, w_pU, w_qI, w_qB, w_qZ, w_qU, w_qR, w_kV, q_icst, q_lcst, q_xR, q_ldI, q_ldR, q_ldL, q_bn, q_un, q_dv, q_fI, q_fR, q_aI, q_aR, q_aN, q_tn, q_cmp, q_cmz, q_cnt, q_ctt, q_cand, q_cor, q_vn, q_vI, q_vR, q_vL, q_kI, q_kR, q_kL, q_ckI, envN, argE, List.flatMap_cons, List.flatMap_nil, Value.category, junk, oadd, osub, omul, oand, oor, oxor, odiv, orem, oshl, oshr, oushr, omax, omin]; simp [f1', f2, ly148, r1]
          · simp only [f_mkF, w_sI, w_sR, w_sL, w_sC, w_sk, w_sbr, w_sco, w_rV, w_rI, w_rR, w_rL, w_dI, w_sO, w_sq, w_si, w_pI, w_pZ, w_pR, w_pU, w_qI, w_qB, w_qZ, w_qU, w_qR, w_kV, q_icst, q_lcst, q_xR, q_ldI, q_ldR, q_ldL, q_bn, q_un, q_dv, q_fI, q_fR, q_aI, q_aR, q_aN, q_tn, q_cmp, q_cmz, q_cnt, q_ctt, q_cand, q_cor, q_vn, q_vI, q_vR, q_vL, q_kI, q_kR, q_kL, q_ckI, envN, argE, List.flatMap_cons, List.flatMap_nil, Value.category, junk, oadd, osub, omul, oand, oor, oxor, odiv, orem, oshl, oshr, oushr, omax, omin]; simp
          · simp only [f_mkF, w_sI, w_sR, w_sL, w_sC, w_sk, w_sbr, w_sco, w_rV, w_rI, w_rR, w_rL, w_dI, w_sO, w_sq, w_si, w_pI, w_pZ, w_pR, w_pU, w_qI, w_qB, w_qZ, w_qU, w_qR, w_kV, q_icst, q_lcst, q_xR, q_ldI, q_ldR, q_ldL, q_bn, q_un, q_dv, q_fI, q_fR, q_aI, q_aR, q_aN, q_tn, q_cmp, q_cmz, q_cnt, q_ctt, q_cand, q_cor, q_vn, q_vI, q_vR, q_vL, q_kI, q_kR, q_kL, q_ckI, envN, argE, List.flatMap_cons, List.flatMap_nil, Value.category, junk, oadd, osub, omul, oand, oor, oxor, odiv, orem, oshl, oshr, oushr, omax, omin]; simp [ho, cop, s2 (by omega)]
          rintro E1 h1 ⟨rfl, rfl⟩
          refine w_sCe (nI L.length) (nI (L.length + 1)) rfl (nI_1 _) rfl ⟨fun _ => ?_, (fun z => by cases z), fun z => absurd rfl z⟩
          refine w_sCe (nI (k + c)) (nI (k + 1 + c)) rfl ?_ rfl ⟨rfl, lTo d c + 1 - (k + 1), by omega, k + 1, nI (lAr d k) :: L, fu, _, _, v7, v8, rfl, by omega, by omega, by omega, k4, ?_, fun z => ?_, SR_push k7, k8'.w rfl, rfl, rfl, rfl, c7, c8⟩
          · rw [nI_1]; congr 1; omega
          · simp [h2, k5]
          · have := o1 z; omega
        · rw [if_neg (by omega), if_pos ho] at k4
          have e9k : h'.2.1 149 (lAr d k) = h.2.1 149 (lAr d k) := by rw [e9]
          refine w_sqS (fun E1 h1 => E1 = [.ref 148, .ref la, .int (nI (lFr d c + c)), .int (nI L.length), .int (nI (k + c)), .int (cop (lOp d k)), .int (h'.2.1 (la + 2) (k + c)), v7, v8] ∧ h1 = wI h' 150 L.length (h.2.1 149 (lAr d k))) (w_qIe 150 L.length (h.2.1 149 (lAr d k)) ?_ ?_ ?_ (by omega) rfl hl64 (by omega) ⟨rfl, rfl, rfl⟩) ?_
          · simp only [f_mkF, w_sI, w_sR, w_sL, w_sC, w_sk, w_sbr, w_sco, w_rV, w_rI, w_rR, w_rL, w_dI, w_sO, w_sq, w_si, w_pI, w_pZ, w_pR, w_pU, w_qI, w_qB, w_qZ, w_qU, w_qR, w_kV, q_icst, q_lcst, q_xR, q_ldI, q_ldR, q_ldL, q_bn, q_un, q_dv, q_fI, q_fR, q_aI, q_aR, q_aN, q_tn, q_cmp, q_cmz, q_cnt, q_ctt, q_cand, q_cor, q_vn, q_vI, q_vR, q_vL, q_kI, q_kR, q_kL, q_ckI, envN, argE, List.flatMap_cons, List.flatMap_nil, Value.category, junk, oadd, osub, omul, oand, oor, oxor, odiv, orem, oshl, oshr, oushr, omax, omin]; simp [f1', f2, ly148, r1]
          · simp only [f_mkF, w_sI, w_sR, w_sL, w_sC, w_sk, w_sbr, w_sco, w_rV, w_rI, w_rR, w_rL, w_dI, w_sO, w_sq, w_si, w_pI, w_pZ, w_pR, w_pU, w_qI, w_qB, w_qZ, w_qU, w_qR, w_kV, q_icst, q_lcst, q_xR, q_ldI, q_ldR, q_ldL, q_bn, q_un, q_dv, q_fI, q_fR, q_aI, q_aR, q_aN, q_tn, q_cmp, q_cmz, q_cnt, q_ctt, q_cand, q_cor, q_vn, q_vI, q_vR, q_vL, q_kI, q_kR, q_kL, q_ckI, envN, argE, List.flatMap_cons, List.flatMap_nil, Value.category, junk, oadd, osub, omul, oand, oor, oxor, odiv, orem, oshl, oshr, oushr, omax, omin]; simp
          · simp only [f_mkF, w_sI, w_sR, w_sL, w_sC, w_sk, w_sbr, w_sco, w_rV, w_rI, w_rR, w_rL, w_dI, w_sO, w_sq, w_si, w_pI, w_pZ, w_pR, w_pU, w_qI, w_qB, w_qZ, w_qU, w_qR, w_kV, q_icst, q_lcst, q_xR, q_ldI, q_ldR, q_ldL, q_bn, q_un, q_dv, q_fI, q_fR, q_aI, q_aR, q_aN, q_tn, q_cmp, q_cmz, q_cnt, q_ctt, q_cand, q_cor, q_vn, q_vI, q_vR, q_vL, q_kI, q_kR, q_kL, q_ckI, envN, argE, List.flatMap_cons, List.flatMap_nil, Value.category, junk, oadd, osub, omul, oand, oor, oxor, odiv, orem, oshl, oshr, oushr, omax, omin]; simp (disch := first | omega | simp) [ho, cop, s2 (by omega), f1', f2, ly148, ly149, r0, inI_b, nI_clamp, nI_ltI, nI_leI, nI_eq, nI_9, nI_6, nI_22, nI_12, nI_180, nI_add, nI_1, ha, e9k]
          rintro E1 h1 ⟨rfl, rfl⟩
          refine w_sCe (nI L.length) (nI (L.length + 1)) rfl (nI_1 _) rfl ⟨fun _ => ?_, (fun z => by cases z), fun z => absurd rfl z⟩
          refine w_sCe (nI (k + c)) (nI (k + 1 + c)) rfl ?_ rfl ⟨rfl, lTo d c + 1 - (k + 1), by omega, k + 1, h.2.1 149 (lAr d k) :: L, fu, _, _, v7, v8, rfl, by omega, by omega, by omega, k4, ?_, fun z => ?_, SR_push k7, k8'.w rfl, rfl, rfl, rfl, c7, c8⟩
          · rw [nI_1]; congr 1; omega
          · simp [h2, k5]
          · have := o1 z; omega
      · obtain ⟨g0, g1, g2, g3, g4, g5, g6, g7⟩ := cop_b h0 h0b
        have ec := e_x_combine h0 h0b
        rw [if_neg (by omega), if_neg (by omega), if_neg (by omega), if_neg (by omega)] at k4
        match L, k5, k7, k4 with
        | [], k5, k7, k4 => simp at k5; omega
        | [x], k5, k7, k4 => simp at k5; omega
        | y :: x :: L, k5, k7, k4 =>
          obtain ⟨z1, z2, z3⟩ := k7
          simp at z1 k5
          have hl64 : L.length < 62 := by omega
          generalize lOp d k = o at *
          refine (w_siF ?_).mpr ((w_siF ?_).mpr ((w_siF ?_).mpr ((w_siF ?_).mpr ((w_siT ?_).mpr ?_))))
          · simp only [f_mkF, w_sI, w_sR, w_sL, w_sC, w_sk, w_sbr, w_sco, w_rV, w_rI, w_rR, w_rL, w_dI, w_sO, w_sq, w_si, w_pI, w_pZ, w_pR, w_pU, w_qI, w_qB, w_qZ, w_qU, w_qR, w_kV, q_icst, q_lcst, q_xR, q_ldI, q_ldR, q_ldL, q_bn, q_un, q_dv, q_fI, q_fR, q_aI, q_aR, q_aN, q_tn, q_cmp, q_cmz, q_cnt, q_ctt, q_cand, q_cor, q_vn, q_vI, q_vR, q_vL, q_kI, q_kR, q_kL, q_ckI, envN, argE, List.flatMap_cons, List.flatMap_nil, Value.category, junk, oadd, osub, omul, oand, oor, oxor, odiv, orem, oshl, oshr, oushr, omax, omin]; simp [g0, g1]
          · simp only [f_mkF, w_sI, w_sR, w_sL, w_sC, w_sk, w_sbr, w_sco, w_rV, w_rI, w_rR, w_rL, w_dI, w_sO, w_sq, w_si, w_pI, w_pZ, w_pR, w_pU, w_qI, w_qB, w_qZ, w_qU, w_qR, w_kV, q_icst, q_lcst, q_xR, q_ldI, q_ldR, q_ldL, q_bn, q_un, q_dv, q_fI, q_fR, q_aI, q_aR, q_aN, q_tn, q_cmp, q_cmz, q_cnt, q_ctt, q_cand, q_cor, q_vn, q_vI, q_vR, q_vL, q_kI, q_kR, q_kL, q_ckI, envN, argE, List.flatMap_cons, List.flatMap_nil, Value.category, junk, oadd, osub, omul, oand, oor, oxor, odiv, orem, oshl, oshr, oushr, omax, omin]; simp (disch := first | omega | simp) [nI_1le]
          · simp only [f_mkF, w_sI, w_sR, w_sL, w_sC, w_sk, w_sbr, w_sco, w_rV, w_rI, w_rR, w_rL, w_dI, w_sO, w_sq, w_si, w_pI, w_pZ, w_pR, w_pU, w_qI, w_qB, w_qZ, w_qU, w_qR, w_kV, q_icst, q_lcst, q_xR, q_ldI, q_ldR, q_ldL, q_bn, q_un, q_dv, q_fI, q_fR, q_aI, q_aR, q_aN, q_tn, q_cmp, q_cmz, q_cnt, q_ctt, q_cand, q_cor, q_vn, q_vI, q_vR, q_vL, q_kI, q_kR, q_kL, q_ckI, envN, argE, List.flatMap_cons, List.flatMap_nil, Value.category, junk, oadd, osub, omul, oand, oor, oxor, odiv, orem, oshl, oshr, oushr, omax, omin]; simp [g5]
          · simp only [f_mkF, w_sI, w_sR, w_sL, w_sC, w_sk, w_sbr, w_sco, w_rV, w_rI, w_rR, w_rL, w_dI, w_sO, w_sq, w_si, w_pI, w_pZ, w_pR, w_pU, w_qI, w_qB, w_qZ, w_qU, w_qR, w_kV, q_icst, q_lcst, q_xR, q_ldI, q_ldR, q_ldL, q_bn, q_un, q_dv, q_fI, q_fR, q_aI, q_aR, q_aN, q_tn, q_cmp, q_cmz, q_cnt, q_ctt, q_cand, q_cor, q_vn, q_vI, q_vR, q_vL, q_kI, q_kR, q_kL, q_ckI, envN, argE, List.flatMap_cons, List.flatMap_nil, Value.category, junk, oadd, osub, omul, oand, oor, oxor, odiv, orem, oshl, oshr, oushr, omax, omin]; simp [g2]
          · simp only [f_mkF, w_sI, w_sR, w_sL, w_sC, w_sk, w_sbr, w_sco, w_rV, w_rI, w_rR, w_rL, w_dI, w_sO, w_sq, w_si, w_pI, w_pZ, w_pR, w_pU, w_qI, w_qB, w_qZ, w_qU, w_qR, w_kV, q_icst, q_lcst, q_xR, q_ldI, q_ldR, q_ldL, q_bn, q_un, q_dv, q_fI, q_fR, q_aI, q_aR, q_aN, q_tn, q_cmp, q_cmz, q_cnt, q_ctt, q_cand, q_cor, q_vn, q_vI, q_vR, q_vL, q_kI, q_kR, q_kL, q_ckI, envN, argE, List.flatMap_cons, List.flatMap_nil, Value.category, junk, oadd, osub, omul, oand, oor, oxor, odiv, orem, oshl, oshr, oushr, omax, omin]; simp [g3, g4]
          refine w_sqI (E' := [.ref 148, .ref la, .int (nI (lFr d c + c)), .int (nI (L.length + 1 + 1)), .int (nI (k + c)), .int (cop o), .int (h'.2.1 (la + 2) (k + c)), .int y, v8]) y ?_ rfl ?_
          · simp only [f_mkF, w_sI, w_sR, w_sL, w_sC, w_sk, w_sbr, w_sco, w_rV, w_rI, w_rR, w_rL, w_dI, w_sO, w_sq, w_si, w_pI, w_pZ, w_pR, w_pU, w_qI, w_qB, w_qZ, w_qU, w_qR, w_kV, q_icst, q_lcst, q_xR, q_ldI, q_ldR, q_ldL, q_bn, q_un, q_dv, q_fI, q_fR, q_aI, q_aR, q_aN, q_tn, q_cmp, q_cmz, q_cnt, q_ctt, q_cand, q_cor, q_vn, q_vI, q_vR, q_vL, q_kI, q_kR, q_kL, q_ckI, envN, argE, List.flatMap_cons, List.flatMap_nil, Value.category, junk, oadd, osub, omul, oand, oor, oxor, odiv, orem, oshl, oshr, oushr, omax, omin]
            simp (disch := first | omega | simp) [f1', f2, ly148, ly150, r1, nI_pred, inI_b, nI_clamp, nI_ltI, nI_leI, nI_eq, nI_9, nI_6, nI_22, nI_12, nI_180, nI_add, nI_1, z1]
            omega
          refine w_sqI (E' := [.ref 148, .ref la, .int (nI (lFr d c + c)), .int (nI (L.length + 1 + 1)), .int (nI (k + c)), .int (cop o), .int (h'.2.1 (la + 2) (k + c)), .int y, .int (b2 (o = 5 ∨ o = 6))]) (b2 (o = 5 ∨ o = 6)) ?_ rfl ?_
          · simp only [f_mkF, w_sI, w_sR, w_sL, w_sC, w_sk, w_sbr, w_sco, w_rV, w_rI, w_rR, w_rL, w_dI, w_sO, w_sq, w_si, w_pI, w_pZ, w_pR, w_pU, w_qI, w_qB, w_qZ, w_qU, w_qR, w_kV, q_icst, q_lcst, q_xR, q_ldI, q_ldR, q_ldL, q_bn, q_un, q_dv, q_fI, q_fR, q_aI, q_aR, q_aN, q_tn, q_cmp, q_cmz, q_cnt, q_ctt, q_cand, q_cor, q_vn, q_vI, q_vR, q_vL, q_kI, q_kR, q_kL, q_ckI, envN, argE, List.flatMap_cons, List.flatMap_nil, Value.category, junk, oadd, osub, omul, oand, oor, oxor, odiv, orem, oshl, oshr, oushr, omax, omin]
            simp [g6, g7, b2]
            grind
          by_cases hd : (o = 5 ∨ o = 6) ∧ y = 0
          · rw [if_pos (by simpa using hd)] at k4
            refine w_sq.mpr ((w_siT ?_).mpr ?_)
            · simp only [f_mkF, w_sI, w_sR, w_sL, w_sC, w_sk, w_sbr, w_sco, w_rV, w_rI, w_rR, w_rL, w_dI, w_sO, w_sq, w_si, w_pI, w_pZ, w_pR, w_pU, w_qI, w_qB, w_qZ, w_qU, w_qR, w_kV, q_icst, q_lcst, q_xR, q_ldI, q_ldR, q_ldL, q_bn, q_un, q_dv, q_fI, q_fR, q_aI, q_aR, q_aN, q_tn, q_cmp, q_cmz, q_cnt, q_ctt, q_cand, q_cor, q_vn, q_vI, q_vR, q_vL, q_kI, q_kR, q_kL, q_ckI, envN, argE, List.flatMap_cons, List.flatMap_nil, Value.category, junk, oadd, osub, omul, oand, oor, oxor, odiv, orem, oshl, oshr, oushr, omax, omin]
              simp (disch := first | omega | simp) [nI_2le, hd.2, zne, zeq, b2_0, hd.1]
            · simp only [f_mkF, w_sI, w_sR, w_sL, w_sC, w_sk, w_sbr, w_sco, w_rV, w_rI, w_rR, w_rL, w_dI, w_sO, w_sq, w_si, w_pI, w_pZ, w_pR, w_pU, w_qI, w_qB, w_qZ, w_qU, w_qR, w_kV, q_icst, q_lcst, q_xR, q_ldI, q_ldR, q_ldL, q_bn, q_un, q_dv, q_fI, q_fR, q_aI, q_aR, q_aN, q_tn, q_cmp, q_cmz, q_cnt, q_ctt, q_cand, q_cor, q_vn, q_vI, q_vR, q_vL, q_kI, q_kR, q_kL, q_ckI, envN, argE, List.flatMap_cons, List.flatMap_nil, Value.category, junk, oadd, osub, omul, oand, oor, oxor, odiv, orem, oshl, oshr, oushr, omax, omin]
              simp [← k4, b2, k8']
          · rw [if_neg (by simpa using hd)] at k4
            refine w_sq.mpr ((w_siF ?_).mpr (w_sk2.mpr ?_))
            · simp only [f_mkF, w_sI, w_sR, w_sL, w_sC, w_sk, w_sbr, w_sco, w_rV, w_rI, w_rR, w_rL, w_dI, w_sO, w_sq, w_si, w_pI, w_pZ, w_pR, w_pU, w_qI, w_qB, w_qZ, w_qU, w_qR, w_kV, q_icst, q_lcst, q_xR, q_ldI, q_ldR, q_ldL, q_bn, q_un, q_dv, q_fI, q_fR, q_aI, q_aR, q_aN, q_tn, q_cmp, q_cmz, q_cnt, q_ctt, q_cand, q_cor, q_vn, q_vI, q_vR, q_vL, q_kI, q_kR, q_kL, q_ckI, envN, argE, List.flatMap_cons, List.flatMap_nil, Value.category, junk, oadd, osub, omul, oand, oor, oxor, odiv, orem, oshl, oshr, oushr, omax, omin]
              simp (disch := first | omega | simp) [nI_2le, zne, zeq, b2_0]
              grind
            refine w_sqS (fun E1 h1 => E1 = [.ref 148, .ref la, .int (nI (lFr d c + c)), .int (nI (L.length + 1)), .int (nI (k + c)), .int (cop o), .int (h'.2.1 (la + 2) (k + c)), .int y, .int (b2 (o = 5 ∨ o = 6))] ∧ h1 = h') (w_sCe (nI (L.length + 1 + 1)) (nI (L.length + 1)) rfl (nI_m1 _) rfl ⟨rfl, rfl, rfl⟩) ?_
            rintro E1 h1 ⟨rfl, rfl⟩
            have ec2 := ec x y (fun z z2 => hd ⟨z, z2⟩) h1
            refine w_qIe 150 L.length (bin o x y) ?_ ?_ ?_ (by omega) rfl (by omega) (by omega) ⟨fun _ => ?_, (fun z => by cases z), fun z => absurd rfl z⟩
            · simp only [f_mkF, w_sI, w_sR, w_sL, w_sC, w_sk, w_sbr, w_sco, w_rV, w_rI, w_rR, w_rL, w_dI, w_sO, w_sq, w_si, w_pI, w_pZ, w_pR, w_pU, w_qI, w_qB, w_qZ, w_qU, w_qR, w_kV, q_icst, q_lcst, q_xR, q_ldI, q_ldR, q_ldL, q_bn, q_un, q_dv, q_fI, q_fR, q_aI, q_aR, q_aN, q_tn, q_cmp, q_cmz, q_cnt, q_ctt, q_cand, q_cor, q_vn, q_vI, q_vR, q_vL, q_kI, q_kR, q_kL, q_ckI, envN, argE, List.flatMap_cons, List.flatMap_nil, Value.category, junk, oadd, osub, omul, oand, oor, oxor, odiv, orem, oshl, oshr, oushr, omax, omin]; simp [f1', f2, ly148, r1]
            · simp only [f_mkF, w_sI, w_sR, w_sL, w_sC, w_sk, w_sbr, w_sco, w_rV, w_rI, w_rR, w_rL, w_dI, w_sO, w_sq, w_si, w_pI, w_pZ, w_pR, w_pU, w_qI, w_qB, w_qZ, w_qU, w_qR, w_kV, q_icst, q_lcst, q_xR, q_ldI, q_ldR, q_ldL, q_bn, q_un, q_dv, q_fI, q_fR, q_aI, q_aR, q_aN, q_tn, q_cmp, q_cmz, q_cnt, q_ctt, q_cand, q_cor, q_vn, q_vI, q_vR, q_vL, q_kI, q_kR, q_kL, q_ckI, envN, argE, List.flatMap_cons, List.flatMap_nil, Value.category, junk, oadd, osub, omul, oand, oor, oxor, odiv, orem, oshl, oshr, oushr, omax, omin]; simp [nI_pred]
            · simp only [f_mkF, w_sI, w_sR, w_sL, w_sC, w_sk, w_sbr, w_sco, w_rV, w_rI, w_rR, w_rL, w_dI, w_sO, w_sq, w_si, w_pI, w_pZ, w_pR, w_pU, w_qI, w_qB, w_qZ, w_qU, w_qR, w_kV, q_icst, q_lcst, q_xR, q_ldI, q_ldR, q_ldL, q_bn, q_un, q_dv, q_fI, q_fR, q_aI, q_aR, q_aN, q_tn, q_cmp, q_cmz, q_cnt, q_ctt, q_cand, q_cor, q_vn, q_vI, q_vR, q_vL, q_kI, q_kR, q_kL, q_ckI, envN, argE, List.flatMap_cons, List.flatMap_nil, Value.category, junk, oadd, osub, omul, oand, oor, oxor, odiv, orem, oshl, oshr, oushr, omax, omin]
              simp (disch := first | omega | simp) [f1', f2, ly148, ly150, r1, nI_pred, inI_b, nI_clamp, nI_ltI, nI_leI, nI_eq, nI_9, nI_6, nI_22, nI_12, nI_180, nI_add, nI_1, z2, fq_of ec2, nog]
              omega
            refine w_sCe (nI (k + c)) (nI (k + 1 + c)) rfl ?_ rfl ⟨rfl, lTo d c + 1 - (k + 1), by omega, k + 1, bin o x y :: L, fu, _, _, _, _, rfl, by omega, by omega, by omega, k4, ?_, fun z => ?_, SR_push z3, k8'.w rfl, rfl, rfl, rfl, rfl, rfl⟩
            · rw [nI_1]; congr 1; omega
            · simp; omega
            · exact bin_t (o1 z).1 x y
      · rw [if_neg (by omega), if_neg (by omega), if_pos ho] at k4
        match L, k5, k7, k4, k6 with
        | [], k5, k7, k4, k6 => simp at k5; omega
        | x :: y :: L, k5, k7, k4, k6 => simp at k5; omega
        | [x], k5, k7, k4, k6 =>
          have z1 : h'.2.1 150 0 = x := k7.1
          have t1 : x = 0 ∨ x = 1 := k6 h1
          have hnot : (if x = 0 then (1 : Int32) else 0) = 1 - x := by rcases t1 with rfl | rfl <;> decide
          rw [ho]
          refine (w_siF ?_).mpr ((w_siF ?_).mpr ((w_siF ?_).mpr ((w_siT ?_).mpr ?_)))
          · simp only [f_mkF, w_sI, w_sR, w_sL, w_sC, w_sk, w_sbr, w_sco, w_rV, w_rI, w_rR, w_rL, w_dI, w_sO, w_sq, w_si, w_pI, w_pZ, w_pR, w_pU, w_qI, w_qB, w_qZ, w_qU, w_qR, w_kV, q_icst, q_lcst, q_xR, q_ldI, q_ldR, q_ldL, q_bn, q_un, q_dv, q_fI, q_fR, q_aI, q_aR, q_aN, q_tn, q_cmp, q_cmz, q_cnt, q_ctt, q_cand, q_cor, q_vn, q_vI, q_vR, q_vL, q_kI, q_kR, q_kL, q_ckI, envN, argE, List.flatMap_cons, List.flatMap_nil, Value.category, junk, oadd, osub, omul, oand, oor, oxor, odiv, orem, oshl, oshr, oushr, omax, omin]; simp [cop]
          · simp only [f_mkF, w_sI, w_sR, w_sL, w_sC, w_sk, w_sbr, w_sco, w_rV, w_rI, w_rR, w_rL, w_dI, w_sO, w_sq, w_si, w_pI, w_pZ, w_pR, w_pU, w_qI, w_qB, w_qZ, w_qU, w_qR, w_kV, q_icst, q_lcst, q_xR, q_ldI, q_ldR, q_ldL, q_bn, q_un, q_dv, q_fI, q_fR, q_aI, q_aR, q_aN, q_tn, q_cmp, q_cmz, q_cnt, q_ctt, q_cand, q_cor, q_vn, q_vI, q_vR, q_vL, q_kI, q_kR, q_kL, q_ckI, envN, argE, List.flatMap_cons, List.flatMap_nil, Value.category, junk, oadd, osub, omul, oand, oor, oxor, odiv, orem, oshl, oshr, oushr, omax, omin]; simp [nI_one]
          · simp only [f_mkF, w_sI, w_sR, w_sL, w_sC, w_sk, w_sbr, w_sco, w_rV, w_rI, w_rR, w_rL, w_dI, w_sO, w_sq, w_si, w_pI, w_pZ, w_pR, w_pU, w_qI, w_qB, w_qZ, w_qU, w_qR, w_kV, q_icst, q_lcst, q_xR, q_ldI, q_ldR, q_ldL, q_bn, q_un, q_dv, q_fI, q_fR, q_aI, q_aR, q_aN, q_tn, q_cmp, q_cmz, q_cnt, q_ctt, q_cand, q_cor, q_vn, q_vI, q_vR, q_vL, q_kI, q_kR, q_kL, q_ckI, envN, argE, List.flatMap_cons, List.flatMap_nil, Value.category, junk, oadd, osub, omul, oand, oor, oxor, odiv, orem, oshl, oshr, oushr, omax, omin]; simp [cop]
          · simp only [f_mkF, w_sI, w_sR, w_sL, w_sC, w_sk, w_sbr, w_sco, w_rV, w_rI, w_rR, w_rL, w_dI, w_sO, w_sq, w_si, w_pI, w_pZ, w_pR, w_pU, w_qI, w_qB, w_qZ, w_qU, w_qR, w_kV, q_icst, q_lcst, q_xR, q_ldI, q_ldR, q_ldL, q_bn, q_un, q_dv, q_fI, q_fR, q_aI, q_aR, q_aN, q_tn, q_cmp, q_cmz, q_cnt, q_ctt, q_cand, q_cor, q_vn, q_vI, q_vR, q_vL, q_kI, q_kR, q_kL, q_ckI, envN, argE, List.flatMap_cons, List.flatMap_nil, Value.category, junk, oadd, osub, omul, oand, oor, oxor, odiv, orem, oshl, oshr, oushr, omax, omin]; simp [cop]
          refine w_qIe 150 0 (1 - x) ?_ ?_ ?_ (by omega) rfl (by omega) (by omega) ⟨fun _ => ?_, (fun z => by cases z), fun z => absurd rfl z⟩
          · simp only [f_mkF, w_sI, w_sR, w_sL, w_sC, w_sk, w_sbr, w_sco, w_rV, w_rI, w_rR, w_rL, w_dI, w_sO, w_sq, w_si, w_pI, w_pZ, w_pR, w_pU, w_qI, w_qB, w_qZ, w_qU, w_qR, w_kV, q_icst, q_lcst, q_xR, q_ldI, q_ldR, q_ldL, q_bn, q_un, q_dv, q_fI, q_fR, q_aI, q_aR, q_aN, q_tn, q_cmp, q_cmz, q_cnt, q_ctt, q_cand, q_cor, q_vn, q_vI, q_vR, q_vL, q_kI, q_kR, q_kL, q_ckI, envN, argE, List.flatMap_cons, List.flatMap_nil, Value.category, junk, oadd, osub, omul, oand, oor, oxor, odiv, orem, oshl, oshr, oushr, omax, omin]; simp [f1', f2, ly148, r1]
          · simp only [f_mkF, w_sI, w_sR, w_sL, w_sC, w_sk, w_sbr, w_sco, w_rV, w_rI, w_rR, w_rL, w_dI, w_sO, w_sq, w_si, w_pI, w_pZ, w_pR, w_pU, w_qI, w_qB, w_qZ, w_qU, w_qR, w_kV, q_icst, q_lcst, q_xR, q_ldI, q_ldR, q_ldL, q_bn, q_un, q_dv, q_fI, q_fR, q_aI, q_aR, q_aN, q_tn, q_cmp, q_cmz, q_cnt, q_ctt, q_cand, q_cor, q_vn, q_vI, q_vR, q_vL, q_kI, q_kR, q_kL, q_ckI, envN, argE, List.flatMap_cons, List.flatMap_nil, Value.category, junk, oadd, osub, omul, oand, oor, oxor, odiv, orem, oshl, oshr, oushr, omax, omin]; simp [nI_one, nI_0]
          · simp only [f_mkF, w_sI, w_sR, w_sL, w_sC, w_sk, w_sbr, w_sco, w_rV, w_rI, w_rR, w_rL, w_dI, w_sO, w_sq, w_si, w_pI, w_pZ, w_pR, w_pU, w_qI, w_qB, w_qZ, w_qU, w_qR, w_kV, q_icst, q_lcst, q_xR, q_ldI, q_ldR, q_ldL, q_bn, q_un, q_dv, q_fI, q_fR, q_aI, q_aR, q_aN, q_tn, q_cmp, q_cmz, q_cnt, q_ctt, q_cand, q_cor, q_vn, q_vI, q_vR, q_vL, q_kI, q_kR, q_kL, q_ckI, envN, argE, List.flatMap_cons, List.flatMap_nil, Value.category, junk, oadd, osub, omul, oand, oor, oxor, odiv, orem, oshl, oshr, oushr, omax, omin]
            simp (disch := first | omega | simp) [f1', f2, ly148, ly150, r1, nI_pred, inI_b, nI_clamp, nI_ltI, nI_leI, nI_eq, nI_9, nI_6, nI_22, nI_12, nI_180, nI_add, nI_1, z1]
            rw [← hnot]
            rcases t1 with rfl | rfl <;> simp
          refine w_sCe (nI (k + c)) (nI (k + 1 + c)) rfl ?_ rfl ⟨rfl, lTo d c + 1 - (k + 1), by omega, k + 1, [1 - x], fu, _, _, _, _, rfl, by omega, by omega, by omega, k4, ?_, fun z => ?_, SR_push (L := []) trivial, k8'.w rfl, rfl, rfl, rfl, c7, c8⟩
          · rw [nI_1]; congr 1; omega
          · simp; omega
          · show 1 - x = 0 ∨ 1 - x = 1
            rcases t1 with rfl | rfl <;> decide
      · rw [if_neg (by omega), if_neg (by omega), if_neg (by omega), if_pos (by omega)] at k4
        match L, k5, k7, k4, k6 with
        | [], k5, k7, k4, k6 => simp at k5; omega
        | x :: y :: L, k5, k7, k4, k6 => simp at k5; omega
        | [x], k5, k7, k4, k6 =>
          have z1 : h'.2.1 150 0 = x := k7.1
          have t1 : x = 0 ∨ x = 1 := k6 h1
          have s3' := s3 (by omega)
          rw [s3']
          have hcp : cop (lOp d k) = (if lOp d k = 12 then 3 else 4) := by rcases ho with ho | ho <;> rw [ho] <;> rfl
          rw [hcp]
          refine (w_siF ?_).mpr ((w_siF ?_).mpr ((w_siF ?_).mpr ((w_siF ?_).mpr ((w_siF ?_).mpr ?_))))
          · simp only [f_mkF, w_sI, w_sR, w_sL, w_sC, w_sk, w_sbr, w_sco, w_rV, w_rI, w_rR, w_rL, w_dI, w_sO, w_sq, w_si, w_pI, w_pZ, w_pR, w_pU, w_qI, w_qB, w_qZ, w_qU, w_qR, w_kV, q_icst, q_lcst, q_xR, q_ldI, q_ldR, q_ldL, q_bn, q_un, q_dv, q_fI, q_fR, q_aI, q_aR, q_aN, q_tn, q_cmp, q_cmz, q_cnt, q_ctt, q_cand, q_cor, q_vn, q_vI, q_vR, q_vL, q_kI, q_kR, q_kL, q_ckI, envN, argE, List.flatMap_cons, List.flatMap_nil, Value.category, junk, oadd, osub, omul, oand, oor, oxor, odiv, orem, oshl, oshr, oushr, omax, omin]; rcases ho with ho | ho <;> simp [ho]
          · simp only [f_mkF, w_sI, w_sR, w_sL, w_sC, w_sk, w_sbr, w_sco, w_rV, w_rI, w_rR, w_rL, w_dI, w_sO, w_sq, w_si, w_pI, w_pZ, w_pR, w_pU, w_qI, w_qB, w_qZ, w_qU, w_qR, w_kV, q_icst, q_lcst, q_xR, q_ldI, q_ldR, q_ldL, q_bn, q_un, q_dv, q_fI, q_fR, q_aI, q_aR, q_aN, q_tn, q_cmp, q_cmz, q_cnt, q_ctt, q_cand, q_cor, q_vn, q_vI, q_vR, q_vL, q_kI, q_kR, q_kL, q_ckI, envN, argE, List.flatMap_cons, List.flatMap_nil, Value.category, junk, oadd, osub, omul, oand, oor, oxor, odiv, orem, oshl, oshr, oushr, omax, omin]; simp [nI_one]
          · simp only [f_mkF, w_sI, w_sR, w_sL, w_sC, w_sk, w_sbr, w_sco, w_rV, w_rI, w_rR, w_rL, w_dI, w_sO, w_sq, w_si, w_pI, w_pZ, w_pR, w_pU, w_qI, w_qB, w_qZ, w_qU, w_qR, w_kV, q_icst, q_lcst, q_xR, q_ldI, q_ldR, q_ldL, q_bn, q_un, q_dv, q_fI, q_fR, q_aI, q_aR, q_aN, q_tn, q_cmp, q_cmz, q_cnt, q_ctt, q_cand, q_cor, q_vn, q_vI, q_vR, q_vL, q_kI, q_kR, q_kL, q_ckI, envN, argE, List.flatMap_cons, List.flatMap_nil, Value.category, junk, oadd, osub, omul, oand, oor, oxor, odiv, orem, oshl, oshr, oushr, omax, omin]; rcases ho with ho | ho <;> simp [ho]
          · simp only [f_mkF, w_sI, w_sR, w_sL, w_sC, w_sk, w_sbr, w_sco, w_rV, w_rI, w_rR, w_rL, w_dI, w_sO, w_sq, w_si, w_pI, w_pZ, w_pR, w_pU, w_qI, w_qB, w_qZ, w_qU, w_qR, w_kV, q_icst, q_lcst, q_xR, q_ldI, q_ldR, q_ldL, q_bn, q_un, q_dv, q_fI, q_fR, q_aI, q_aR, q_aN, q_tn, q_cmp, q_cmz, q_cnt, q_ctt, q_cand, q_cor, q_vn, q_vI, q_vR, q_vL, q_kI, q_kR, q_kL, q_ckI, envN, argE, List.flatMap_cons, List.flatMap_nil, Value.category, junk, oadd, osub, omul, oand, oor, oxor, odiv, orem, oshl, oshr, oushr, omax, omin]; rcases ho with ho | ho <;> simp [ho]
          · simp only [f_mkF, w_sI, w_sR, w_sL, w_sC, w_sk, w_sbr, w_sco, w_rV, w_rI, w_rR, w_rL, w_dI, w_sO, w_sq, w_si, w_pI, w_pZ, w_pR, w_pU, w_qI, w_qB, w_qZ, w_qU, w_qR, w_kV, q_icst, q_lcst, q_xR, q_ldI, q_ldR, q_ldL, q_bn, q_un, q_dv, q_fI, q_fR, q_aI, q_aR, q_aN, q_tn, q_cmp, q_cmz, q_cnt, q_ctt, q_cand, q_cor, q_vn, q_vI, q_vR, q_vL, q_kI, q_kR, q_kL, q_ckI, envN, argE, List.flatMap_cons, List.flatMap_nil, Value.category, junk, oadd, osub, omul, oand, oor, oxor, odiv, orem, oshl, oshr, oushr, omax, omin]; rcases ho with ho | ho <;> simp [ho]
          have hcond : ev (cnt (cmp one (tn (cnt (cmz zeq (aI 13 (fR 6 1 (ldR 0)) (bn osub (ldI 3) (icst 1))))) (icst 1) (icst 0)) (tn (cnt (cmp one (ldI 5) (icst 3))) (icst 1) (icst 0)))) [.ref 148, .ref la, .int (nI (lFr d c + c)), .int (nI [x].length), .int (nI (k + c)), .int (if lOp d k = 12 then 3 else 4), .int (nI (lTg d k + c)), v7, v8] h' fun t h1 => t = decide (x = 1 ↔ lOp d k = 12) ∧ h1 = h' := by
            simp only [f_mkF, w_sI, w_sR, w_sL, w_sC, w_sk, w_sbr, w_sco, w_rV, w_rI, w_rR, w_rL, w_dI, w_sO, w_sq, w_si, w_pI, w_pZ, w_pR, w_pU, w_qI, w_qB, w_qZ, w_qU, w_qR, w_kV, q_icst, q_lcst, q_xR, q_ldI, q_ldR, q_ldL, q_bn, q_un, q_dv, q_fI, q_fR, q_aI, q_aR, q_aN, q_tn, q_cmp, q_cmz, q_cnt, q_ctt, q_cand, q_cor, q_vn, q_vI, q_vR, q_vL, q_kI, q_kR, q_kL, q_ckI, envN, argE, List.flatMap_cons, List.flatMap_nil, Value.category, junk, oadd, osub, omul, oand, oor, oxor, odiv, orem, oshl, oshr, oushr, omax, omin]
            simp (disch := first | omega | simp) [f1', f2, ly148, ly150, r1, nI_pred, inI_b, nI_clamp, nI_ltI, nI_leI, nI_eq, nI_9, nI_6, nI_22, nI_12, nI_180, nI_add, nI_1, z1, nI_one, nI_0]
            rcases t1 with rfl | rfl <;> rcases ho with ho | ho <;> simp [ho, inI_0]
          refine w_siN _ hcond (fun ht => ?_) (fun ht => ?_)
          · rw [decide_eq_true_iff] at ht
            rw [if_pos (by exact ht)] at k4
            refine w_sIe (nI (lTg d k + c - 1)) ?_ rfl ⟨fun _ => ?_, (fun z => by cases z), fun z => absurd rfl z⟩
            · simp only [f_mkF, w_sI, w_sR, w_sL, w_sC, w_sk, w_sbr, w_sco, w_rV, w_rI, w_rR, w_rL, w_dI, w_sO, w_sq, w_si, w_pI, w_pZ, w_pR, w_pU, w_qI, w_qB, w_qZ, w_qU, w_qR, w_kV, q_icst, q_lcst, q_xR, q_ldI, q_ldR, q_ldL, q_bn, q_un, q_dv, q_fI, q_fR, q_aI, q_aR, q_aN, q_tn, q_cmp, q_cmz, q_cnt, q_ctt, q_cand, q_cor, q_vn, q_vI, q_vR, q_vL, q_kI, q_kR, q_kL, q_ckI, envN, argE, List.flatMap_cons, List.flatMap_nil, Value.category, junk, oadd, osub, omul, oand, oor, oxor, odiv, orem, oshl, oshr, oushr, omax, omin]
              obtain ⟨u, hu⟩ : ∃ u, lTg d k + c = u + 1 := ⟨lTg d k + c - 1, by omega⟩
              rw [hu]
              simp (disch := first | omega | simp) [nI_pred, inI_b, nI_clamp, nI_ltI, nI_leI, nI_eq, nI_9, nI_6, nI_22, nI_12, nI_180, nI_add, nI_1]
              intro z
              congr 1
              omega
            refine w_sCe (nI (lTg d k + c - 1)) (nI (lTg d k + c)) rfl ?_ rfl ⟨rfl, lTo d c + 1 - lTg d k, by omega, lTg d k, [x], fu, _, _, _, _, rfl, by omega, by omega, by omega, k4, ?_, fun _ => t1, k7, k8', rfl, rfl, rfl, c7, c8⟩
            · rw [nI_1]; congr 1; omega
            · simp; omega
          · rw [decide_eq_false_iff_not] at ht
            rw [if_neg (by exact ht)] at k4
            refine w_sCe (nI 1) (nI 0) rfl rfl rfl ⟨fun _ => ?_, (fun z => by cases z), fun z => absurd rfl z⟩
            refine w_sCe (nI (k + c)) (nI (k + 1 + c)) rfl ?_ rfl ⟨rfl, lTo d c + 1 - (k + 1), by omega, k + 1, [], fu, _, _, _, _, rfl, by omega, by omega, by omega, k4, ?_, fun z => ?_, trivial, k8', rfl, rfl, rfl, c7, c8⟩
            · rw [nI_1]; congr 1; omega
            · simp; omega
            · have := o1 z; omega
  · rintro o v E' h' ⟨rfl, rfl, f⟩
    exact ⟨fun z => (by cases z), fun _ => Or.inr ⟨rfl, by rw [rk_b]; simp [b2_ok], rfl, f⟩⟩
