/-! the clauses of a letter, by the class; the reference's clauses -/
theorem LX_150 {h h' : Hp} {la : Nat} {d : LDt} (hA : lawA la) (q : LX h la d) (f : Fr (fun a _ => a = 150) h h') : LX h' la d := by
  obtain ⟨f1, f2, f3⟩ := f
  have e : ∀ a k, la ≤ a → a ≤ la + 4 → h'.2.1 a k = h.2.1 a k := fun a k h1 h2 => f3 a k (by unfold lawA at hA; omega)
  obtain ⟨q1, ⟨ln, q2, q3⟩, q4⟩ := q
  refine ⟨by rw [e _ _ (by omega) (by omega)]; exact q1, ⟨ln, by rw [e _ _ (by omega) (by omega)]; exact q2, q3⟩, fun c hc => ?_⟩
  obtain ⟨z1, z2, z3, z4⟩ := q4 c hc
  refine ⟨by rw [e _ _ (by omega) (by omega)]; exact z1, by rw [e _ _ (by omega) (by omega)]; exact z2, by rw [e _ _ (by omega) (by omega)]; exact z3, fun k h1 h2 => ?_⟩
  rw [e _ _ (by omega) (by omega), e _ _ (by omega) (by omega)]
  exact z4 k h1 h2
def hasN (d : LDt) (lt : Nat) : Nat → Bool
  | 0 => false
  | n + 1 => hasN d lt n || decide (lLt d n = lt)
theorem hsN_up {d : LDt} {lt : Nat} {fc : Nat → Int32} {c : Nat} : ∀ {n : Nat}, c < n → hsN d lt fc (c + 1) = true → hsN d lt fc n = true := by
  intro n
  induction n with
  | zero => intro h; omega
  | succ n ih =>
    intro h1 h2
    by_cases hc : c = n
    · subst hc; exact h2
    · unfold hsN
      rw [ih (by omega) h2]
      rfl
theorem hasN_up {d : LDt} {lt : Nat} {c : Nat} : ∀ {n : Nat}, c < n → hasN d lt (c + 1) = true → hasN d lt n = true := by
  intro n
  induction n with
  | zero => intro h; omega
  | succ n ih =>
    intro h1 h2
    by_cases hc : c = n
    · subst hc; exact h2
    · unfold hasN
      rw [ih (by omega) h2]
      rfl
theorem x_one {h : Hp} (hp : Ip h) {la : Nat} (hA : lawA la) {d : LDt} (hw : WD d) (hx : LX h la d) {lt : Nat} (hlt : lt < 8) : fq F_X6_isOneHolding [.ref 148, .ref la, .int (nI lt)] h fun r h' => r = some (.int (b2 (hs d lt (h.2.1 149) = true))) ∧ Fr (fun a _ => a = 150) h h' := by
  have hn := hp.1
  obtain ⟨⟨p0, p1, p2, p3⟩, ⟨y0, y1, y2, y3, y4⟩, yb⟩ := law_p hp hA
  have w1 := hw.1
  have ya : la < 212 := by omega
  have ya3 : la + 3 < 212 := by omega
  have ya4 : la + 4 < 212 := by omega
  unfold F_X6_isOneHolding
  simp only [f_mkF, w_sI, w_sR, w_sL, w_sC, w_sk, w_sbr, w_sco, w_rV, w_rI, w_rR, w_rL, w_dI, w_sO, w_sq, w_si, w_pI, w_pZ, w_pR, w_pU, w_qI, w_qB, w_qZ, w_qU, w_qR, w_kV, q_icst, q_lcst, q_xR, q_ldI, q_ldR, q_ldL, q_bn, q_un, q_dv, q_fI, q_fR, q_aI, q_aR, q_aN, q_tn, q_cmp, q_cmz, q_cnt, q_ctt, q_cand, q_cor, q_vn, q_vI, q_vR, q_vL, q_kI, q_kR, q_kL, q_ckI, envN, argE, List.flatMap_cons, List.flatMap_nil, Value.category, junk, oadd, osub, omul, oand, oor, oxor, odiv, orem, oshl, oshr, oushr, omax, omin]
  simp [rk_i, rk_b, rk_o, st1, kill, Value.category, rcv, nog]
  refine w_lp (fun m E h' => ∃ c, m = lCn d - c ∧ c ≤ lCn d ∧ Fr (fun a _ => a = 150) h h' ∧ E = [.ref 148, .ref la, .int (nI lt), .int (nI c)] ∧ hsN d lt (h.2.1 149) c = false) ?_ (lCn d) _ _ ⟨0, rfl, by omega, Fr.refl h, by simp [nI_0], rfl⟩
  rintro m E h' ⟨c, rfl, hc, f, rfl, hr⟩
  have hp' := f.ip hp
  have hx' := LX_150 hA hx f
  have f0 := f
  obtain ⟨f1, f2, f3⟩ := f
  have f1' : h'.1 = 212 := f1.trans hn
  have e9 : h'.2.1 149 = h.2.1 149 := funext fun j => f3 149 j (by omega)
  have e5 := hx'.1
  simp only [f_mkF, w_sI, w_sR, w_sL, w_sC, w_sk, w_sbr, w_sco, w_rV, w_rI, w_rR, w_rL, w_dI, w_sO, w_sq, w_si, w_pI, w_pZ, w_pR, w_pU, w_qI, w_qB, w_qZ, w_qU, w_qR, w_kV, q_icst, q_lcst, q_xR, q_ldI, q_ldR, q_ldL, q_bn, q_un, q_dv, q_fI, q_fR, q_aI, q_aR, q_aN, q_tn, q_cmp, q_cmz, q_cnt, q_ctt, q_cand, q_cor, q_vn, q_vI, q_vR, q_vL, q_kI, q_kR, q_kL, q_ckI, envN, argE, List.flatMap_cons, List.flatMap_nil, Value.category, junk, oadd, osub, omul, oand, oor, oxor, odiv, orem, oshl, oshr, oushr, omax, omin]
  by_cases hcn : c < lCn d
  · obtain ⟨z1, z2, -, -⟩ := hx'.2.2 c hcn
    have c12 : c < 12 := by omega
    have wl := (hw.2 c hcn).1
    by_cases hl : lLt d c = lt
    · simp (disch := first | omega | simp) [rk_i, rk_b, rk_o, st1, kill, Value.category, rcv, nog, f1', f2, p0, p1, p2, p3, y0, y3, y4, ya, ya3, ya4, inI_b, nI_clamp, nI_ltI, nI_leI, nI_eq, nI_9, nI_6, nI_22, nI_12, nI_180, nI_add, nI_1, e5, hcn, c12, z1, z2, hl, ly148]
      refine ⟨fun z => by omega, ?_⟩
      refine fq_mono (x_holding hp' hA hw hx' hcn) ?_
      rintro r h2 ⟨rfl, g⟩
      rw [e9]
      have g' := f0.trans g
      cases hb : cls d (h.2.1 149) c with
      | true =>
        have hs1 : hs d lt (h.2.1 149) = true := hsN_up (c := c) hcn (by simp [hsN, hl, hb])
        simp [b2, hs1, g', rk_i, rk_b, rk_o, st1, kill, Value.category, rcv, nog]
      | false =>
        simp [b2, rk_i, rk_b, rk_o, st1, kill, Value.category, rcv, nog, inI_b, nI_clamp, nI_ltI, nI_leI, nI_eq, nI_9, nI_6, nI_22, nI_12, nI_180, nI_add, nI_1]
        exact ⟨lCn d - (c + 1), by omega, c + 1, rfl, by omega, g', rfl, by simp [hsN, hr, hb]⟩
    · simp (disch := first | omega | simp) [rk_i, rk_b, rk_o, st1, kill, Value.category, rcv, nog, f1', f2, p0, p1, p2, p3, y0, y3, y4, ya, ya3, ya4, inI_b, nI_clamp, nI_ltI, nI_leI, nI_eq, nI_9, nI_6, nI_22, nI_12, nI_180, nI_add, nI_1, e5, hcn, c12, z1, z2, hl, ly148]
      exact ⟨fun z => by omega, lCn d - (c + 1), by omega, c + 1, rfl, by omega, f0, rfl, by simp [hsN, hr, hl]⟩
  · have : c = lCn d := by omega
    subst this
    simp (disch := first | omega | simp) [rk_i, rk_b, rk_o, st1, kill, Value.category, rcv, nog, f1', f2, y0, ya, inI_b, nI_clamp, nI_ltI, nI_leI, nI_eq, nI_9, nI_6, nI_22, nI_12, nI_180, nI_add, nI_1, e5]
    exact ⟨by rw [show hs d lt (h.2.1 149) = false from hr]; rfl, f0⟩
theorem hsN_no {d : LDt} {lt : Nat} {fc : Nat → Int32} {n : Nat} (h : hasN d lt n = false) : hsN d lt fc n = false := by
  induction n with
  | zero => rfl
  | succ n ih =>
    unfold hasN at h
    unfold hsN
    simp at h
    simp [ih h.1, h.2]
theorem x_has {h : Hp} (hp : Ip h) {la : Nat} (hA : lawA la) {d : LDt} (hw : WD d) (hx : LX h la d) {lt : Nat} (hlt : lt < 8) : F_X3_has [.ref la, .int (nI lt)] h = some (some (.int (b2 (hasN d lt (lCn d) = true))), h) := by
  have hn := hp.1
  obtain ⟨⟨p0, p1, p2, p3⟩, ⟨y0, y1, y2, y3, y4⟩, yb⟩ := law_p hp hA
  have w1 := hw.1
  have ya : la < 212 := by omega
  have ya3 : la + 3 < 212 := by omega
  rw [← fq_eq]
  unfold F_X3_has
  simp only [f_mkF, w_sI, w_sR, w_sL, w_sC, w_sk, w_sbr, w_sco, w_rV, w_rI, w_rR, w_rL, w_dI, w_sO, w_sq, w_si, w_pI, w_pZ, w_pR, w_pU, w_qI, w_qB, w_qZ, w_qU, w_qR, w_kV, q_icst, q_lcst, q_xR, q_ldI, q_ldR, q_ldL, q_bn, q_un, q_dv, q_fI, q_fR, q_aI, q_aR, q_aN, q_tn, q_cmp, q_cmz, q_cnt, q_ctt, q_cand, q_cor, q_vn, q_vI, q_vR, q_vL, q_kI, q_kR, q_kL, q_ckI, envN, argE, List.flatMap_cons, List.flatMap_nil, Value.category, junk, oadd, osub, omul, oand, oor, oxor, odiv, orem, oshl, oshr, oushr, omax, omin]
  simp [rk_i, rk_b, rk_o, st1, kill, Value.category, rcv, nog]
  refine w_lp (fun m E h' => h' = h ∧ ∃ c, m = lCn d - c ∧ c ≤ lCn d ∧ E = [.ref la, .int (nI lt), .int (nI c)] ∧ hasN d lt c = false) ?_ (lCn d) _ _ ⟨rfl, 0, rfl, by omega, by simp [nI_0], rfl⟩
  rintro m E h' ⟨rfl, c, rfl, hc, rfl, hr⟩
  have e5 := hx.1
  simp only [f_mkF, w_sI, w_sR, w_sL, w_sC, w_sk, w_sbr, w_sco, w_rV, w_rI, w_rR, w_rL, w_dI, w_sO, w_sq, w_si, w_pI, w_pZ, w_pR, w_pU, w_qI, w_qB, w_qZ, w_qU, w_qR, w_kV, q_icst, q_lcst, q_xR, q_ldI, q_ldR, q_ldL, q_bn, q_un, q_dv, q_fI, q_fR, q_aI, q_aR, q_aN, q_tn, q_cmp, q_cmz, q_cnt, q_ctt, q_cand, q_cor, q_vn, q_vI, q_vR, q_vL, q_kI, q_kR, q_kL, q_ckI, envN, argE, List.flatMap_cons, List.flatMap_nil, Value.category, junk, oadd, osub, omul, oand, oor, oxor, odiv, orem, oshl, oshr, oushr, omax, omin]
  by_cases hcn : c < lCn d
  · obtain ⟨z1, z2, -, -⟩ := hx.2.2 c hcn
    have c12 : c < 12 := by omega
    have wl := (hw.2 c hcn).1
    simp (disch := first | omega | simp) [rk_i, rk_b, rk_o, st1, kill, Value.category, rcv, nog, hn, p2, y0, y3, ya, ya3, inI_b, nI_clamp, nI_ltI, nI_leI, nI_eq, nI_9, nI_6, nI_22, nI_12, nI_180, nI_add, nI_1, e5, hcn, c12, z1]
    refine ⟨fun z => by omega, fun hl => ?_, fun hl => ⟨lCn d - (c + 1), by omega, c + 1, rfl, by omega, rfl, by simp [hasN, hr, hl]⟩⟩
    rw [hasN_up (c := c) hcn (by simp [hasN, hl])]
    rfl
  · have : c = lCn d := by omega
    subst this
    simp (disch := first | omega | simp) [rk_i, rk_b, rk_o, st1, kill, Value.category, rcv, nog, hn, y0, ya, inI_b, nI_clamp, nI_ltI, nI_leI, nI_eq, nI_9, nI_6, nI_22, nI_12, nI_180, nI_add, nI_1, e5]
    rw [hr]
    rfl
theorem nI_div {a b : Nat} (ha : a < 2 ^ 31) (hb : b < 2 ^ 31) : nI a / nI b = nI (a / b) := by
  have h0 : a / b ≤ a := Nat.div_le_self a b
  apply Int32.toInt_inj.mp
  rw [Int32.toInt_div, nI_toInt ha, nI_toInt hb, nI_toInt (by omega)]
  rw [← Int.ofNat_tdiv]
  generalize a / b = q at *
  exact Int.bmod_eq_of_le (by omega) (by omega)
theorem m_true {h : Hp} (hp : Ip h) {l : Nat} (hl6 : l < 6) {d : LDt} (hw : WD d) (hx : LM h l d) {c : Nat} (hc : c < lCn d) : fq F_X11_isTrue [.ref 166, .int (nI (12 * l + c))] h fun r h' => r = some (.int (b2 (cls d (h.2.1 195) c = true))) ∧ Fr (fun a _ => a = 194) h h' := by
  have hn := hp.1
  have hm := hp.2.2
  obtain ⟨w1, w2⟩ := hw
  obtain ⟨wl, w3, w4, sh, bo, w5, w5b, w6, w7, w8⟩ := w2 c hc
  obtain ⟨x1, x5⟩ := hx
  obtain ⟨-, x6, x7, x8⟩ := x5 c hc
  have c12 : c < 12 := by omega
  clear x5 w2
  generalize hB : cls d (h.2.1 195) c = B
  have d12 : nI (12 * l + c) / 12 = nI l := by
    show nI (12 * l + c) / nI 12 = nI l
    rw [nI_div (by omega) (by omega)]
    congr 1
    omega
  have c72 : 12 * l + c < 72 := by omega
  have w_rt : ∀ {k fu : Nat} {L : List Int32}, lFr d c ≤ k → k < lTo d c → (lOp d k = 11 ∨ lOp d k = 12) → (L.headD 0 = 1 ↔ lOp d k = 12) → lTo d c < k + (fu + 1) → ∃ fu', lTo d c < lRt d k + fu' ∧ run d (h.2.1 195) (lTo d c) fu' (lRt d k) L = run d (h.2.1 195) (lTo d c) fu (lTg d k) L ∧ sh (lRt d k) = 1 ∧ bo (lRt d k) = true ∧ k < lRt d k ∧ lRt d k ≤ lTo d c := by
    intro k fu L h1 h2 ho ht hf
    obtain ⟨o1, o2⟩ := w8 k h1 h2
    rcases o2 with ⟨ho2, -⟩ | ⟨ho2, -⟩ | ⟨ho2, -⟩ | ⟨-, g1, g2, g3, g4, g5, g6, g7, g8, g9, g10⟩
    · omega
    · omega
    · omega
    · rcases g10 with g10 | ⟨g10, g11⟩
      · rw [g10]
        exact ⟨fu, by omega, rfl, g6, g7, g4, g5⟩
      · by_cases he : lRt d k = lTg d k
        · rw [he]
          exact ⟨fu, by omega, rfl, g6, g7, g4, g5⟩
        · obtain ⟨-, o3⟩ := w8 (lRt d k) (by omega) (by omega)
          refine ⟨fu + 1, by omega, ?_, ?_, ?_, g8, by omega⟩
          · rw [run_s (by omega), if_neg (by omega), if_neg (by omega), if_neg (by omega), if_pos (by omega), if_pos (by rw [g10]; exact ht), g11]
          · omega
          · rcases o3 with ⟨ho2, -⟩ | ⟨ho2, -⟩ | ⟨ho2, -⟩ | ⟨-, q1, -⟩
            · omega
            · omega
            · omega
            · exact q1
  have hE : envN 7 [Value.ref 166, Value.int (nI (12 * l + c))] = [Value.ref 166, Value.int (nI (12 * l + c)), junk, junk, junk, junk, junk] := rfl
  unfold F_X11_isTrue
  refine f_mkE _ hE (by simp [argE, Value.category]) ?_
  refine w_sqI 0 (by simp only [f_mkF, w_sI, w_sR, w_sL, w_sC, w_sk, w_sbr, w_sco, w_rV, w_rI, w_rR, w_rL, w_dI, w_sO, w_sq, w_si, w_pI, w_pZ, w_pR, w_pU, w_qI, w_qB, w_qZ, w_qU, w_qR, w_kV, q_icst, q_lcst, q_xR, q_ldI, q_ldR, q_ldL, q_bn, q_un, q_dv, q_fI, q_fR, q_aI, q_aR, q_aN, q_tn, q_cmp, q_cmz, q_cnt, q_ctt, q_cand, q_cor, q_vn, q_vI, q_vR, q_vL, q_kI, q_kR, q_kL, q_ckI, envN, argE, List.flatMap_cons, List.flatMap_nil, Value.category, junk, oadd, osub, omul, oand, oor, oxor, odiv, orem, oshl, oshr, oushr, omax, omin]; simp) rfl ?_
  refine w_sqI (nI (180 * l)) (by simp only [f_mkF, w_sI, w_sR, w_sL, w_sC, w_sk, w_sbr, w_sco, w_rV, w_rI, w_rR, w_rL, w_dI, w_sO, w_sq, w_si, w_pI, w_pZ, w_pR, w_pU, w_qI, w_qB, w_qZ, w_qU, w_qR, w_kV, q_icst, q_lcst, q_xR, q_ldI, q_ldR, q_ldL, q_bn, q_un, q_dv, q_fI, q_fR, q_aI, q_aR, q_aN, q_tn, q_cmp, q_cmz, q_cnt, q_ctt, q_cand, q_cor, q_vn, q_vI, q_vR, q_vL, q_kI, q_kR, q_kL, q_ckI, envN, argE, List.flatMap_cons, List.flatMap_nil, Value.category, junk, oadd, osub, omul, oand, oor, oxor, odiv, orem, oshl, oshr, oushr, omax, omin]; simp [rk_i, rk_b, rk_o, st1, kill, Value.category, rcv, nog, d12, nI_180]) rfl ?_
  refine w_sqI (nI (180 * l + lFr d c)) (by simp only [f_mkF, w_sI, w_sR, w_sL, w_sC, w_sk, w_sbr, w_sco, w_rV, w_rI, w_rR, w_rL, w_dI, w_sO, w_sq, w_si, w_pI, w_pZ, w_pR, w_pU, w_qI, w_qB, w_qZ, w_qU, w_qR, w_kV, q_icst, q_lcst, q_xR, q_ldI, q_ldR, q_ldL, q_bn, q_un, q_dv, q_fI, q_fR, q_aI, q_aR, q_aN, q_tn, q_cmp, q_cmz, q_cnt, q_ctt, q_cand, q_cor, q_vn, q_vI, q_vR, q_vL, q_kI, q_kR, q_kL, q_ckI, envN, argE, List.flatMap_cons, List.flatMap_nil, Value.category, junk, oadd, osub, omul, oand, oor, oxor, odiv, orem, oshl, oshr, oushr, omax, omin]; simp (disch := first | omega | simp) [rk_i, rk_b, rk_o, st1, kill, Value.category, rcv, nog, hn, ly166, hm 37, mp, ly192, inI_b, nI_clamp, nI_ltI, nI_leI, nI_eq, nI_9, nI_6, nI_22, nI_12, nI_180, nI_add, nI_1, c72, x6]) rfl ?_
  refine w_sq.mpr ?_
  refine wp_mono (w_lp (Q := fun o v E1 h' => ((o = 2 ∧ v = .int 0 ∧ B = false) ∨ (o = 0 ∧ v = .null ∧ E1[0]? = some (.ref 166) ∧ h'.2.1 194 0 = b2 (B = true))) ∧ Fr (fun a _ => a = 194) h h') (fun m E h' => ∃ k L fu v5 v6, m = lTo d c + 1 - k ∧ lFr d c ≤ k ∧ k ≤ lTo d c ∧ lTo d c < k + fu ∧ run d (h.2.1 195) (lTo d c) fu k L = B ∧ L.length = sh k ∧ (bo k = true → tru L) ∧ SR (h'.2.1 194) L ∧ Fr (fun a _ => a = 194) h h' ∧ E = [.ref 166, .int (nI (12 * l + c)), .int (nI L.length), .int (nI (180 * l)), .int (nI (180 * l + k)), v5, v6] ∧ v5.category = 1 ∧ v6.category = 1) ?_ (lTo d c + 1 - lFr d c) _ _ ⟨lFr d c, [], 200, junk, junk, rfl, Nat.le_refl _, w3, by omega, hB, w5.symm, (fun z => by rw [w5b] at z; cases z), trivial, Fr.refl h, rfl, rfl, rfl⟩) ?_
  · rintro m E h' ⟨k, L, fu, v5, v6, rfl, k1, k2, k3, k4, k5, k6, k7, k8, rfl, c5, c6⟩
    have k8' := k8
    obtain ⟨f1, f2, f3⟩ := k8
    have f1' : h'.1 = 212 := f1.trans hn
    have e3 : h'.2.1 193 (12 * l + c) = nI (180 * l + lTo d c) := (f3 193 _ (by omega)).trans x7
    have e9 : h'.2.1 195 = h.2.1 195 := funext fun j => f3 195 j (by omega)
    have hm' : ∀ j, h'.2.2 166 j = mp j := fun j => by rw [f2]; exact hm j
    match fu, k3, k4 with
    | 0, k3, k4 => omega
    | fu + 1, k3, k4 =>
    by_cases hk : k = lTo d c
    · subst hk
      have t1 := k6 w7
      rw [run_e] at k4
      match L, k5, k7, t1, k4 with
      | [], k5, k7, t1, k4 => simp at k5; omega
      | x :: y :: L, k5, k7, t1, k4 => simp at k5; omega
      | [x], k5, k7, t1, k4 =>
        have t2 : h'.2.1 194 0 = x := k7.1
        refine ev_F ?_ ⟨fun _ => ⟨Or.inr ⟨rfl, rfl, rfl, ?_⟩, k8'⟩, fun z => (by cases z)⟩
        · simp only [f_mkF, w_sI, w_sR, w_sL, w_sC, w_sk, w_sbr, w_sco, w_rV, w_rI, w_rR, w_rL, w_dI, w_sO, w_sq, w_si, w_pI, w_pZ, w_pR, w_pU, w_qI, w_qB, w_qZ, w_qU, w_qR, w_kV, q_icst, q_lcst, q_xR, q_ldI, q_ldR, q_ldL, q_bn, q_un, q_dv, q_fI, q_fR, q_aI, q_aR, q_aN, q_tn, q_cmp, q_cmz, q_cnt, q_ctt, q_cand, q_cor, q_vn, q_vI, q_vR, q_vL, q_kI, q_kR, q_kL, q_ckI, envN, argE, List.flatMap_cons, List.flatMap_nil, Value.category, junk, oadd, osub, omul, oand, oor, oxor, odiv, orem, oshl, oshr, oushr, omax, omin]
          simp (disch := first | omega | simp) [f1', hm', mp, ly166, ly193, inI_b, nI_clamp, nI_ltI, nI_leI, nI_eq, nI_9, nI_6, nI_22, nI_12, nI_180, nI_add, nI_1, c72, e3]
        · rw [t2, ← k4]
          unfold tru at t1
          simp at t1
          rcases t1 with rfl | rfl <;> simp [b2]
    · have hk2 : k < lTo d c := by omega
      have s1 := (f3 189 (180 * l + k) (by omega)).trans (x8 k k1 hk2)
      obtain ⟨o1, o2⟩ := w8 k k1 hk2
      rw [run_s hk2] at k4
      have hop : lOp d k ≤ 12 := by omega
      generalize hv : (if lOp d k ≤ 1 then lAr d k else if 11 ≤ lOp d k then lRt d k else 0) = v at s1
      have hv2 : v < 1048576 := by
        rw [← hv]
        split
        · omega
        · split <;> omega
      have kk : 180 * l + k < 1080 := by omega
      have dv1 : nI (1048576 * lOp d k + v) / 1048576 = nI (lOp d k) := by
        show nI (1048576 * lOp d k + v) / nI 1048576 = nI (lOp d k)
        rw [nI_div (by omega) (by omega)]
        congr 1
        omega
      have dv2 : nI (1048576 * lOp d k + v) - nI (lOp d k) * 1048576 = nI v := by
        show nI (1048576 * lOp d k + v) - nI (lOp d k) * nI 1048576 = nI v
        rw [nI_mul, Nat.mul_comm, nI_sub]
      refine ev_T ?_ ⟨fun z => (by cases z), fun _ => ?_⟩
      · simp only [f_mkF, w_sI, w_sR, w_sL, w_sC, w_sk, w_sbr, w_sco, w_rV, w_rI, w_rR, w_rL, w_dI, w_sO, w_sq, w_si, w_pI, w_pZ, w_pR, w_pU, w_qI, w_qB, w_qZ, w_qU, w_qR, w_kV, q_icst, q_lcst, q_xR, q_ldI, q_ldR, q_ldL, q_bn, q_un, q_dv, q_fI, q_fR, q_aI, q_aR, q_aN, q_tn, q_cmp, q_cmz, q_cnt, q_ctt, q_cand, q_cor, q_vn, q_vI, q_vR, q_vL, q_kI, q_kR, q_kL, q_ckI, envN, argE, List.flatMap_cons, List.flatMap_nil, Value.category, junk, oadd, osub, omul, oand, oor, oxor, odiv, orem, oshl, oshr, oushr, omax, omin]
        simp (disch := first | omega | simp) [f1', hm', mp, ly166, ly193, inI_b, nI_clamp, nI_ltI, nI_leI, nI_eq, nI_9, nI_6, nI_22, nI_12, nI_180, nI_add, nI_1, c72, e3]
        omega
      refine w_sqI (E' := [.ref 166, .int (nI (12 * l + c)), .int (nI L.length), .int (nI (180 * l)), .int (nI (180 * l + k)), .int (nI (lOp d k)), v6]) (nI (lOp d k)) ?_ (by simp [st1, kill, Value.category]) ?_
      · simp only [f_mkF, w_sI, w_sR, w_sL, w_sC, w_sk, w_sbr, w_sco, w_rV, w_rI, w_rR, w_rL, w_dI, w_sO, w_sq, w_si, w_pI, w_pZ, w_pR, w_pU, w_qI, w_qB, w_qZ, w_qU, w_qR, w_kV, q_icst, q_lcst, q_xR, q_ldI, q_ldR, q_ldL, q_bn, q_un, q_dv, q_fI, q_fR, q_aI, q_aR, q_aN, q_tn, q_cmp, q_cmz, q_cnt, q_ctt, q_cand, q_cor, q_vn, q_vI, q_vR, q_vL, q_kI, q_kR, q_kL, q_ckI, envN, argE, List.flatMap_cons, List.flatMap_nil, Value.category, junk, oadd, osub, omul, oand, oor, oxor, odiv, orem, oshl, oshr, oushr, omax, omin]
        simp (disch := first | omega | simp) [f1', hm', mp, ly166, ly189, inI_b, nI_clamp, nI_ltI, nI_leI, nI_eq, nI_9, nI_6, nI_22, nI_12, nI_180, nI_add, nI_1, kk, s1, dv1]
      refine w_sqI (E' := [.ref 166, .int (nI (12 * l + c)), .int (nI L.length), .int (nI (180 * l)), .int (nI (180 * l + k)), .int (nI (lOp d k)), .int (nI v)]) (nI v) ?_ (by simp [st1, kill, Value.category]) ?_
      · simp only [f_mkF, w_sI, w_sR, w_sL, w_sC, w_sk, w_sbr, w_sco, w_rV, w_rI, w_rR, w_rL, w_dI, w_sO, w_sq, w_si, w_pI, w_pZ, w_pR, w_pU, w_qI, w_qB, w_qZ, w_qU, w_qR, w_kV, q_icst, q_lcst, q_xR, q_ldI, q_ldR, q_ldL, q_bn, q_un, q_dv, q_fI, q_fR, q_aI, q_aR, q_aN, q_tn, q_cmp, q_cmz, q_cnt, q_ctt, q_cand, q_cor, q_vn, q_vI, q_vR, q_vL, q_kI, q_kR, q_kL, q_ckI, envN, argE, List.flatMap_cons, List.flatMap_nil, Value.category, junk, oadd, osub, omul, oand, oor, oxor, odiv, orem, oshl, oshr, oushr, omax, omin]
        simp (disch := first | omega | simp) [f1', hm', mp, ly166, ly189, inI_b, nI_clamp, nI_ltI, nI_leI, nI_eq, nI_9, nI_6, nI_22, nI_12, nI_180, nI_add, nI_1, kk, s1, dv1, dv2]
      refine w_sqI (E' := [.ref 166, .int (nI (12 * l + c)), .int (nI L.length), .int (nI (180 * l)), .int (nI (180 * l + (k + 1))), .int (nI (lOp d k)), .int (nI v)]) (nI (180 * l + (k + 1))) ?_ (by simp [st1, kill, Value.category]) ?_
      · simp only [f_mkF, w_sI, w_sR, w_sL, w_sC, w_sk, w_sbr, w_sco, w_rV, w_rI, w_rR, w_rL, w_dI, w_sO, w_sq, w_si, w_pI, w_pZ, w_pR, w_pU, w_qI, w_qB, w_qZ, w_qU, w_qR, w_kV, q_icst, q_lcst, q_xR, q_ldI, q_ldR, q_ldL, q_bn, q_un, q_dv, q_fI, q_fR, q_aI, q_aR, q_aN, q_tn, q_cmp, q_cmz, q_cnt, q_ctt, q_cand, q_cor, q_vn, q_vI, q_vR, q_vL, q_kI, q_kR, q_kL, q_ckI, envN, argE, List.flatMap_cons, List.flatMap_nil, Value.category, junk, oadd, osub, omul, oand, oor, oxor, odiv, orem, oshl, oshr, oushr, omax, omin]
        simp [nI_1]
        rfl
      have i_lit : ∀ j, j < 100 → (nI (lOp d k) = nI j ↔ lOp d k = j) := fun j hj => nI_eq (by omega) (by omega)
      have l0 : nI (lOp d k) = 0 ↔ lOp d k = 0 := i_lit 0 (by omega)
      have l1 : nI (lOp d k) = 1 ↔ lOp d k = 1 := i_lit 1 (by omega)
      have l10 : nI (lOp d k) = 10 ↔ lOp d k = 10 := i_lit 10 (by omega)
      have l11 : nI (lOp d k) = 11 ↔ lOp d k = 11 := i_lit 11 (by omega)
      have l12 : nI (lOp d k) = 12 ↔ lOp d k = 12 := i_lit 12 (by omega)
      have l5 : nI (lOp d k) = 5 ↔ lOp d k = 5 := i_lit 5 (by omega)
      have l6 : nI (lOp d k) = 6 ↔ lOp d k = 6 := i_lit 6 (by omega)
      rcases o2 with ⟨ho, h1, h2⟩ | ⟨⟨h0, h0b⟩, h1, h2⟩ | ⟨ho, h1, h2, h3⟩ | ⟨ho, h1, h2, h3, h4, h5, h6, h7, h8⟩
      · refine (w_siT ?_).mpr ?_
        · simp only [f_mkF, w_sI, w_sR, w_sL, w_sC, w_sk, w_sbr, w_sco, w_rV, w_rI, w_rR, w_rL, w_dI, w_sO, w_sq, w_si, w_pI, w_pZ, w_pR, w_pU, w_qI, w_qB, w_qZ, w_qU, w_qR, w_kV, q_icst, q_lcst, q_xR, q_ldI, q_ldR, q_ldL, q_bn, q_un, q_dv, q_fI, q_fR, q_aI, q_aR, q_aN, q_tn, q_cmp, q_cmz, q_cnt, q_ctt, q_cand, q_cor, q_vn, q_vI, q_vR, q_vL, q_kI, q_kR, q_kL, q_ckI, envN, argE, List.flatMap_cons, List.flatMap_nil, Value.category, junk, oadd, osub, omul, oand, oor, oxor, odiv, orem, oshl, oshr, oushr, omax, omin]
          rcases ho with ⟨ho, -⟩ | ⟨ho, -⟩ <;> simp [ho, nI_one, nI_0]
        have hl64 : L.length < 180 := by omega
        have hfin : ∀ X, run d (h.2.1 195) (lTo d c) fu (k + 1) (X :: L) = B → ev (tn (cnt (cmz zne (ldI 5))) (ldI 6) (aI 13 (fR 11 40 (ldR 0)) (ldI 6))) [.ref 166, .int (nI (12 * l + c)), .int (nI L.length), .int (nI (180 * l)), .int (nI (180 * l + (k + 1))), .int (nI (lOp d k)), .int (nI v)] h' (fun x h1 => x = X ∧ h1 = h') → wp (sq (qI 13 (fR 11 39 (ldR 0)) (ldI 2) (tn (cnt (cmz zne (ldI 5))) (ldI 6) (aI 13 (fR 11 40 (ldR 0)) (ldI 6)))) (sI 2 (bn oadd (ldI 2) (icst 1)))) [.ref 166, .int (nI (12 * l + c)), .int (nI L.length), .int (nI (180 * l)), .int (nI (180 * l + (k + 1))), .int (nI (lOp d k)), .int (nI v)] h' fun o v E1 h2 => ((o = 0 ∨ o = 4) → wp sk E1 h2 fun o2 _ E2 h3 => o2 = 0 ∧ ∃ k2, k2 < lTo d c + 1 - k ∧ ∃ k L fu v5 v6, k2 = lTo d c + 1 - k ∧ lFr d c ≤ k ∧ k ≤ lTo d c ∧ lTo d c < k + fu ∧ run d (h.2.1 195) (lTo d c) fu k L = B ∧ L.length = sh k ∧ (bo k = true → tru L) ∧ SR (h3.2.1 194) L ∧ Fr (fun a _ => a = 194) h h3 ∧ E2 = [.ref 166, .int (nI (12 * l + c)), .int (nI L.length), .int (nI (180 * l)), .int (nI (180 * l + k)), v5, v6] ∧ v5.category = 1 ∧ v6.category = 1) ∧ (o = 3 → ((0 = 2 ∧ Value.null = .int 0 ∧ B = false) ∨ (0 = 0 ∧ Value.null = .null ∧ E1[0]? = some (.ref 166) ∧ h2.2.1 194 0 = b2 (B = true))) ∧ Fr (fun a _ => a = 194) h h2) ∧ (o ≠ 0 → o ≠ 4 → o ≠ 3 → ((o = 2 ∧ v = .int 0 ∧ B = false) ∨ (o = 0 ∧ v = .null ∧ E1[0]? = some (.ref 166) ∧ h2.2.1 194 0 = b2 (B = true))) ∧ Fr (fun a _ => a = 194) h h2) := by
          intro X hX hev
          refine w_sqS (fun E1 h1 => E1 = [.ref 166, .int (nI (12 * l + c)), .int (nI L.length), .int (nI (180 * l)), .int (nI (180 * l + (k + 1))), .int (nI (lOp d k)), .int (nI v)] ∧ h1 = wI h' 194 L.length X) (w_qIe 194 L.length X ?_ ?_ hev (by omega) rfl hl64 (by omega) ⟨rfl, rfl, rfl⟩) ?_
          · simp only [f_mkF, w_sI, w_sR, w_sL, w_sC, w_sk, w_sbr, w_sco, w_rV, w_rI, w_rR, w_rL, w_dI, w_sO, w_sq, w_si, w_pI, w_pZ, w_pR, w_pU, w_qI, w_qB, w_qZ, w_qU, w_qR, w_kV, q_icst, q_lcst, q_xR, q_ldI, q_ldR, q_ldL, q_bn, q_un, q_dv, q_fI, q_fR, q_aI, q_aR, q_aN, q_tn, q_cmp, q_cmz, q_cnt, q_ctt, q_cand, q_cor, q_vn, q_vI, q_vR, q_vL, q_kI, q_kR, q_kL, q_ckI, envN, argE, List.flatMap_cons, List.flatMap_nil, Value.category, junk, oadd, osub, omul, oand, oor, oxor, odiv, orem, oshl, oshr, oushr, omax, omin]; simp [f1', hm', mp, ly166]
          · simp only [f_mkF, w_sI, w_sR, w_sL, w_sC, w_sk, w_sbr, w_sco, w_rV, w_rI, w_rR, w_rL, w_dI, w_sO, w_sq, w_si, w_pI, w_pZ, w_pR, w_pU, w_qI, w_qB, w_qZ, w_qU, w_qR, w_kV, q_icst, q_lcst, q_xR, q_ldI, q_ldR, q_ldL, q_bn, q_un, q_dv, q_fI, q_fR, q_aI, q_aR, q_aN, q_tn, q_cmp, q_cmz, q_cnt, q_ctt, q_cand, q_cor, q_vn, q_vI, q_vR, q_vL, q_kI, q_kR, q_kL, q_ckI, envN, argE, List.flatMap_cons, List.flatMap_nil, Value.category, junk, oadd, osub, omul, oand, oor, oxor, odiv, orem, oshl, oshr, oushr, omax, omin]; simp
          rintro E1 h1 ⟨rfl, rfl⟩
          refine w_sIe (nI (L.length + 1)) (by simp only [f_mkF, w_sI, w_sR, w_sL, w_sC, w_sk, w_sbr, w_sco, w_rV, w_rI, w_rR, w_rL, w_dI, w_sO, w_sq, w_si, w_pI, w_pZ, w_pR, w_pU, w_qI, w_qB, w_qZ, w_qU, w_qR, w_kV, q_icst, q_lcst, q_xR, q_ldI, q_ldR, q_ldL, q_bn, q_un, q_dv, q_fI, q_fR, q_aI, q_aR, q_aN, q_tn, q_cmp, q_cmz, q_cnt, q_ctt, q_cand, q_cor, q_vn, q_vI, q_vR, q_vL, q_kI, q_kR, q_kL, q_ckI, envN, argE, List.flatMap_cons, List.flatMap_nil, Value.category, junk, oadd, osub, omul, oand, oor, oxor, odiv, orem, oshl, oshr, oushr, omax, omin]; simp [nI_1]) rfl ⟨fun _ => w_sk.mpr ⟨rfl, lTo d c + 1 - (k + 1), by omega, k + 1, X :: L, fu, _, _, rfl, by omega, by omega, by omega, hX, ?_, fun z => ?_, SR_push k7, k8'.w rfl, rfl, rfl, rfl⟩, (fun z => by cases z), fun z => absurd rfl z⟩
          · simp [h2, k5]
          · have := o1 z; omega
        rcases ho with ⟨ho, ha⟩ | ⟨ho, ha⟩
        · rw [if_pos ho] at k4
          rw [if_pos (by omega)] at hv
          refine hfin _ k4 ?_
          simp only [f_mkF, w_sI, w_sR, w_sL, w_sC, w_sk, w_sbr, w_sco, w_rV, w_rI, w_rR, w_rL, w_dI, w_sO, w_sq, w_si, w_pI, w_pZ, w_pR, w_pU, w_qI, w_qB, w_qZ, w_qU, w_qR, w_kV, q_icst, q_lcst, q_xR, q_ldI, q_ldR, q_ldL, q_bn, q_un, q_dv, q_fI, q_fR, q_aI, q_aR, q_aN, q_tn, q_cmp, q_cmz, q_cnt, q_ctt, q_cand, q_cor, q_vn, q_vI, q_vR, q_vL, q_kI, q_kR, q_kL, q_ckI, envN, argE, List.flatMap_cons, List.flatMap_nil, Value.category, junk, oadd, osub, omul, oand, oor, oxor, odiv, orem, oshl, oshr, oushr, omax, omin]; simp [ho, hv, nI_0]
        · rw [if_neg (by omega), if_pos ho] at k4
          rw [if_pos (by omega)] at hv
          have e9k : h'.2.1 195 (lAr d k) = h.2.1 195 (lAr d k) := by rw [e9]
          refine hfin _ k4 ?_
          simp only [f_mkF, w_sI, w_sR, w_sL, w_sC, w_sk, w_sbr, w_sco, w_rV, w_rI, w_rR, w_rL, w_dI, w_sO, w_sq, w_si, w_pI, w_pZ, w_pR, w_pU, w_qI, w_qB, w_qZ, w_qU, w_qR, w_kV, q_icst, q_lcst, q_xR, q_ldI, q_ldR, q_ldL, q_bn, q_un, q_dv, q_fI, q_fR, q_aI, q_aR, q_aN, q_tn, q_cmp, q_cmz, q_cnt, q_ctt, q_cand, q_cor, q_vn, q_vI, q_vR, q_vL, q_kI, q_kR, q_kL, q_ckI, envN, argE, List.flatMap_cons, List.flatMap_nil, Value.category, junk, oadd, osub, omul, oand, oor, oxor, odiv, orem, oshl, oshr, oushr, omax, omin]; simp (disch := first | omega | simp) [ho, nI_one, ← hv, f1', hm', mp, ly166, ly195, inI_b, nI_clamp, nI_ltI, nI_leI, nI_eq, nI_9, nI_6, nI_22, nI_12, nI_180, nI_add, nI_1, ha, e9k]
      · have ec := e_m_reckon h0 h0b
        rw [if_neg (by omega), if_neg (by omega), if_neg (by omega), if_neg (by omega)] at k4
        match L, k5, k7, k4 with
        | [], k5, k7, k4 => simp at k5; omega
        | [x], k5, k7, k4 => simp at k5; omega
        | y :: x :: L, k5, k7, k4 =>
          obtain ⟨z1, z2, z3⟩ := k7
          simp at z1 k5
          have hl64 : L.length < 62 := by omega
          clear x8 w8 w_rt
          generalize lOp d k = o at *
          refine (w_siF ?_).mpr ((w_siF ?_).mpr ((w_siF ?_).mpr ?_))
          · simp only [f_mkF, w_sI, w_sR, w_sL, w_sC, w_sk, w_sbr, w_sco, w_rV, w_rI, w_rR, w_rL, w_dI, w_sO, w_sq, w_si, w_pI, w_pZ, w_pR, w_pU, w_qI, w_qB, w_qZ, w_qU, w_qR, w_kV, q_icst, q_lcst, q_xR, q_ldI, q_ldR, q_ldL, q_bn, q_un, q_dv, q_fI, q_fR, q_aI, q_aR, q_aN, q_tn, q_cmp, q_cmz, q_cnt, q_ctt, q_cand, q_cor, q_vn, q_vI, q_vR, q_vL, q_kI, q_kR, q_kL, q_ckI, envN, argE, List.flatMap_cons, List.flatMap_nil, Value.category, junk, oadd, osub, omul, oand, oor, oxor, odiv, orem, oshl, oshr, oushr, omax, omin]; simp [l0, l1]; omega
          · simp only [f_mkF, w_sI, w_sR, w_sL, w_sC, w_sk, w_sbr, w_sco, w_rV, w_rI, w_rR, w_rL, w_dI, w_sO, w_sq, w_si, w_pI, w_pZ, w_pR, w_pU, w_qI, w_qB, w_qZ, w_qU, w_qR, w_kV, q_icst, q_lcst, q_xR, q_ldI, q_ldR, q_ldL, q_bn, q_un, q_dv, q_fI, q_fR, q_aI, q_aR, q_aN, q_tn, q_cmp, q_cmz, q_cnt, q_ctt, q_cand, q_cor, q_vn, q_vI, q_vR, q_vL, q_kI, q_kR, q_kL, q_ckI, envN, argE, List.flatMap_cons, List.flatMap_nil, Value.category, junk, oadd, osub, omul, oand, oor, oxor, odiv, orem, oshl, oshr, oushr, omax, omin]; simp [l10]; omega
          · simp only [f_mkF, w_sI, w_sR, w_sL, w_sC, w_sk, w_sbr, w_sco, w_rV, w_rI, w_rR, w_rL, w_dI, w_sO, w_sq, w_si, w_pI, w_pZ, w_pR, w_pU, w_qI, w_qB, w_qZ, w_qU, w_qR, w_kV, q_icst, q_lcst, q_xR, q_ldI, q_ldR, q_ldL, q_bn, q_un, q_dv, q_fI, q_fR, q_aI, q_aR, q_aN, q_tn, q_cmp, q_cmz, q_cnt, q_ctt, q_cand, q_cor, q_vn, q_vI, q_vR, q_vL, q_kI, q_kR, q_kL, q_ckI, envN, argE, List.flatMap_cons, List.flatMap_nil, Value.category, junk, oadd, osub, omul, oand, oor, oxor, odiv, orem, oshl, oshr, oushr, omax, omin]; simp [l11, l12]; omega
          refine w_sqI (E' := [.ref 166, .int (nI (12 * l + c)), .int (nI (L.length + 1)), .int (nI (180 * l)), .int (nI (180 * l + (k + 1))), .int (nI o), .int (nI v)]) (nI (L.length + 1)) ?_ rfl ?_
          · simp only [f_mkF, w_sI, w_sR, w_sL, w_sC, w_sk, w_sbr, w_sco, w_rV, w_rI, w_rR, w_rL, w_dI, w_sO, w_sq, w_si, w_pI, w_pZ, w_pR, w_pU, w_qI, w_qB, w_qZ, w_qU, w_qR, w_kV, q_icst, q_lcst, q_xR, q_ldI, q_ldR, q_ldL, q_bn, q_un, q_dv, q_fI, q_fR, q_aI, q_aR, q_aN, q_tn, q_cmp, q_cmz, q_cnt, q_ctt, q_cand, q_cor, q_vn, q_vI, q_vR, q_vL, q_kI, q_kR, q_kL, q_ckI, envN, argE, List.flatMap_cons, List.flatMap_nil, Value.category, junk, oadd, osub, omul, oand, oor, oxor, odiv, orem, oshl, oshr, oushr, omax, omin]; simp [nI_pred]
          by_cases hd : (o = 5 ∨ o = 6) ∧ y = 0
          · rw [if_pos (by simpa using hd)] at k4
            refine w_sq.mpr ((w_siT ?_).mpr ?_)
            · simp only [f_mkF, w_sI, w_sR, w_sL, w_sC, w_sk, w_sbr, w_sco, w_rV, w_rI, w_rR, w_rL, w_dI, w_sO, w_sq, w_si, w_pI, w_pZ, w_pR, w_pU, w_qI, w_qB, w_qZ, w_qU, w_qR, w_kV, q_icst, q_lcst, q_xR, q_ldI, q_ldR, q_ldL, q_bn, q_un, q_dv, q_fI, q_fR, q_aI, q_aR, q_aN, q_tn, q_cmp, q_cmz, q_cnt, q_ctt, q_cand, q_cor, q_vn, q_vI, q_vR, q_vL, q_kI, q_kR, q_kL, q_ckI, envN, argE, List.flatMap_cons, List.flatMap_nil, Value.category, junk, oadd, osub, omul, oand, oor, oxor, odiv, orem, oshl, oshr, oushr, omax, omin]
              simp (disch := first | omega | simp) [f1', hm', mp, ly166, ly194, inI_b, nI_clamp, nI_ltI, nI_leI, nI_eq, nI_9, nI_6, nI_22, nI_12, nI_180, nI_add, nI_1, z1, hd.2, zne, zeq]
              simp only [l5, l6]
              have := hd.1
              refine ⟨?_, ?_⟩ <;> (try intro _) <;> first | omega | (refine ⟨by omega, trivial⟩) | skip
            · simp only [f_mkF, w_sI, w_sR, w_sL, w_sC, w_sk, w_sbr, w_sco, w_rV, w_rI, w_rR, w_rL, w_dI, w_sO, w_sq, w_si, w_pI, w_pZ, w_pR, w_pU, w_qI, w_qB, w_qZ, w_qU, w_qR, w_kV, q_icst, q_lcst, q_xR, q_ldI, q_ldR, q_ldL, q_bn, q_un, q_dv, q_fI, q_fR, q_aI, q_aR, q_aN, q_tn, q_cmp, q_cmz, q_cnt, q_ctt, q_cand, q_cor, q_vn, q_vI, q_vR, q_vL, q_kI, q_kR, q_kL, q_ckI, envN, argE, List.flatMap_cons, List.flatMap_nil, Value.category, junk, oadd, osub, omul, oand, oor, oxor, odiv, orem, oshl, oshr, oushr, omax, omin]
              simp [← k4, k8']
          · rw [if_neg (by simpa using hd)] at k4
            refine w_sq.mpr ((w_siF ?_).mpr (w_sk2.mpr ?_))
            · simp only [f_mkF, w_sI, w_sR, w_sL, w_sC, w_sk, w_sbr, w_sco, w_rV, w_rI, w_rR, w_rL, w_dI, w_sO, w_sq, w_si, w_pI, w_pZ, w_pR, w_pU, w_qI, w_qB, w_qZ, w_qU, w_qR, w_kV, q_icst, q_lcst, q_xR, q_ldI, q_ldR, q_ldL, q_bn, q_un, q_dv, q_fI, q_fR, q_aI, q_aR, q_aN, q_tn, q_cmp, q_cmz, q_cnt, q_ctt, q_cand, q_cor, q_vn, q_vI, q_vR, q_vL, q_kI, q_kR, q_kL, q_ckI, envN, argE, List.flatMap_cons, List.flatMap_nil, Value.category, junk, oadd, osub, omul, oand, oor, oxor, odiv, orem, oshl, oshr, oushr, omax, omin]
              simp (disch := first | omega | simp) [f1', hm', mp, ly166, ly194, inI_b, nI_clamp, nI_ltI, nI_leI, nI_eq, nI_9, nI_6, nI_22, nI_12, nI_180, nI_add, nI_1, z1, zne, zeq, l5, l6]
              grind
            have ec2 := ec x y (fun z z2 => hd ⟨z, z2⟩) h'
            refine w_qIe 194 L.length (bin o x y) ?_ ?_ ?_ (by omega) rfl (by omega) (by omega) ⟨fun _ => w_sk.mpr ⟨rfl, lTo d c + 1 - (k + 1), by omega, k + 1, bin o x y :: L, fu, _, _, rfl, by omega, by omega, by omega, k4, ?_, fun z => ?_, SR_push z3, k8'.w rfl, rfl, rfl, rfl⟩, (fun z => by cases z), fun z => absurd rfl z⟩
            · simp only [f_mkF, w_sI, w_sR, w_sL, w_sC, w_sk, w_sbr, w_sco, w_rV, w_rI, w_rR, w_rL, w_dI, w_sO, w_sq, w_si, w_pI, w_pZ, w_pR, w_pU, w_qI, w_qB, w_qZ, w_qU, w_qR, w_kV, q_icst, q_lcst, q_xR, q_ldI, q_ldR, q_ldL, q_bn, q_un, q_dv, q_fI, q_fR, q_aI, q_aR, q_aN, q_tn, q_cmp, q_cmz, q_cnt, q_ctt, q_cand, q_cor, q_vn, q_vI, q_vR, q_vL, q_kI, q_kR, q_kL, q_ckI, envN, argE, List.flatMap_cons, List.flatMap_nil, Value.category, junk, oadd, osub, omul, oand, oor, oxor, odiv, orem, oshl, oshr, oushr, omax, omin]; simp [f1', hm', mp, ly166]
            · simp only [f_mkF, w_sI, w_sR, w_sL, w_sC, w_sk, w_sbr, w_sco, w_rV, w_rI, w_rR, w_rL, w_dI, w_sO, w_sq, w_si, w_pI, w_pZ, w_pR, w_pU, w_qI, w_qB, w_qZ, w_qU, w_qR, w_kV, q_icst, q_lcst, q_xR, q_ldI, q_ldR, q_ldL, q_bn, q_un, q_dv, q_fI, q_fR, q_aI, q_aR, q_aN, q_tn, q_cmp, q_cmz, q_cnt, q_ctt, q_cand, q_cor, q_vn, q_vI, q_vR, q_vL, q_kI, q_kR, q_kL, q_ckI, envN, argE, List.flatMap_cons, List.flatMap_nil, Value.category, junk, oadd, osub, omul, oand, oor, oxor, odiv, orem, oshl, oshr, oushr, omax, omin]; simp [nI_pred]
            · simp only [f_mkF, w_sI, w_sR, w_sL, w_sC, w_sk, w_sbr, w_sco, w_rV, w_rI, w_rR, w_rL, w_dI, w_sO, w_sq, w_si, w_pI, w_pZ, w_pR, w_pU, w_qI, w_qB, w_qZ, w_qU, w_qR, w_kV, q_icst, q_lcst, q_xR, q_ldI, q_ldR, q_ldL, q_bn, q_un, q_dv, q_fI, q_fR, q_aI, q_aR, q_aN, q_tn, q_cmp, q_cmz, q_cnt, q_ctt, q_cand, q_cor, q_vn, q_vI, q_vR, q_vL, q_kI, q_kR, q_kL, q_ckI, envN, argE, List.flatMap_cons, List.flatMap_nil, Value.category, junk, oadd, osub, omul, oand, oor, oxor, odiv, orem, oshl, oshr, oushr, omax, omin]
              simp (disch := first | omega | simp) [f1', hm', mp, ly166, ly194, nI_pred, inI_b, nI_clamp, nI_ltI, nI_leI, nI_eq, nI_9, nI_6, nI_22, nI_12, nI_180, nI_add, nI_1, z1, z2, fq_of ec2, nog]
              omega
            · simp; omega
            · exact bin_t (o1 z).1 x y
      · rw [if_neg (by omega), if_neg (by omega), if_pos ho] at k4
        match L, k5, k7, k4, k6 with
        | [], k5, k7, k4, k6 => simp at k5; omega
        | x :: y :: L, k5, k7, k4, k6 => simp at k5; omega
        | [x], k5, k7, k4, k6 =>
          have z1 : h'.2.1 194 0 = x := k7.1
          have t1 : x = 0 ∨ x = 1 := k6 h1
          refine (w_siF ?_).mpr ((w_siT ?_).mpr ?_)
          · simp only [f_mkF, w_sI, w_sR, w_sL, w_sC, w_sk, w_sbr, w_sco, w_rV, w_rI, w_rR, w_rL, w_dI, w_sO, w_sq, w_si, w_pI, w_pZ, w_pR, w_pU, w_qI, w_qB, w_qZ, w_qU, w_qR, w_kV, q_icst, q_lcst, q_xR, q_ldI, q_ldR, q_ldL, q_bn, q_un, q_dv, q_fI, q_fR, q_aI, q_aR, q_aN, q_tn, q_cmp, q_cmz, q_cnt, q_ctt, q_cand, q_cor, q_vn, q_vI, q_vR, q_vL, q_kI, q_kR, q_kL, q_ckI, envN, argE, List.flatMap_cons, List.flatMap_nil, Value.category, junk, oadd, osub, omul, oand, oor, oxor, odiv, orem, oshl, oshr, oushr, omax, omin]; simp [l0, l1]; omega
          · simp only [f_mkF, w_sI, w_sR, w_sL, w_sC, w_sk, w_sbr, w_sco, w_rV, w_rI, w_rR, w_rL, w_dI, w_sO, w_sq, w_si, w_pI, w_pZ, w_pR, w_pU, w_qI, w_qB, w_qZ, w_qU, w_qR, w_kV, q_icst, q_lcst, q_xR, q_ldI, q_ldR, q_ldL, q_bn, q_un, q_dv, q_fI, q_fR, q_aI, q_aR, q_aN, q_tn, q_cmp, q_cmz, q_cnt, q_ctt, q_cand, q_cor, q_vn, q_vI, q_vR, q_vL, q_kI, q_kR, q_kL, q_ckI, envN, argE, List.flatMap_cons, List.flatMap_nil, Value.category, junk, oadd, osub, omul, oand, oor, oxor, odiv, orem, oshl, oshr, oushr, omax, omin]; simp [l10]; omega
          refine w_qIe 194 0 (1 - x) ?_ ?_ ?_ (by omega) rfl (by omega) (by omega) ⟨fun _ => w_sk.mpr ⟨rfl, lTo d c + 1 - (k + 1), by omega, k + 1, [1 - x], fu, _, _, rfl, by omega, by omega, by omega, k4, ?_, fun z => ?_, SR_push (L := []) trivial, k8'.w rfl, rfl, rfl, rfl⟩, (fun z => by cases z), fun z => absurd rfl z⟩
          · simp only [f_mkF, w_sI, w_sR, w_sL, w_sC, w_sk, w_sbr, w_sco, w_rV, w_rI, w_rR, w_rL, w_dI, w_sO, w_sq, w_si, w_pI, w_pZ, w_pR, w_pU, w_qI, w_qB, w_qZ, w_qU, w_qR, w_kV, q_icst, q_lcst, q_xR, q_ldI, q_ldR, q_ldL, q_bn, q_un, q_dv, q_fI, q_fR, q_aI, q_aR, q_aN, q_tn, q_cmp, q_cmz, q_cnt, q_ctt, q_cand, q_cor, q_vn, q_vI, q_vR, q_vL, q_kI, q_kR, q_kL, q_ckI, envN, argE, List.flatMap_cons, List.flatMap_nil, Value.category, junk, oadd, osub, omul, oand, oor, oxor, odiv, orem, oshl, oshr, oushr, omax, omin]; simp [f1', hm', mp, ly166]
          · simp only [f_mkF, w_sI, w_sR, w_sL, w_sC, w_sk, w_sbr, w_sco, w_rV, w_rI, w_rR, w_rL, w_dI, w_sO, w_sq, w_si, w_pI, w_pZ, w_pR, w_pU, w_qI, w_qB, w_qZ, w_qU, w_qR, w_kV, q_icst, q_lcst, q_xR, q_ldI, q_ldR, q_ldL, q_bn, q_un, q_dv, q_fI, q_fR, q_aI, q_aR, q_aN, q_tn, q_cmp, q_cmz, q_cnt, q_ctt, q_cand, q_cor, q_vn, q_vI, q_vR, q_vL, q_kI, q_kR, q_kL, q_ckI, envN, argE, List.flatMap_cons, List.flatMap_nil, Value.category, junk, oadd, osub, omul, oand, oor, oxor, odiv, orem, oshl, oshr, oushr, omax, omin]; simp [nI_one, nI_0]
          · simp only [f_mkF, w_sI, w_sR, w_sL, w_sC, w_sk, w_sbr, w_sco, w_rV, w_rI, w_rR, w_rL, w_dI, w_sO, w_sq, w_si, w_pI, w_pZ, w_pR, w_pU, w_qI, w_qB, w_qZ, w_qU, w_qR, w_kV, q_icst, q_lcst, q_xR, q_ldI, q_ldR, q_ldL, q_bn, q_un, q_dv, q_fI, q_fR, q_aI, q_aR, q_aN, q_tn, q_cmp, q_cmz, q_cnt, q_ctt, q_cand, q_cor, q_vn, q_vI, q_vR, q_vL, q_kI, q_kR, q_kL, q_ckI, envN, argE, List.flatMap_cons, List.flatMap_nil, Value.category, junk, oadd, osub, omul, oand, oor, oxor, odiv, orem, oshl, oshr, oushr, omax, omin]
            simp (disch := first | omega | simp) [f1', hm', mp, ly166, ly194, nI_one, inI_0, z1]
          · simp; omega
          · show 1 - x = 0 ∨ 1 - x = 1
            rcases t1 with rfl | rfl <;> decide
      · rw [if_neg (by omega), if_neg (by omega), if_neg (by omega), if_pos (by omega)] at k4
        rw [if_neg (by omega), if_pos (by omega)] at hv
        match L, k5, k7, k4, k6 with
        | [], k5, k7, k4, k6 => simp at k5; omega
        | x :: y :: L, k5, k7, k4, k6 => simp at k5; omega
        | [x], k5, k7, k4, k6 =>
          have z1 : h'.2.1 194 0 = x := k7.1
          have t1 : x = 0 ∨ x = 1 := k6 h1
          refine (w_siF ?_).mpr ((w_siF ?_).mpr ((w_siT ?_).mpr ?_))
          · simp only [f_mkF, w_sI, w_sR, w_sL, w_sC, w_sk, w_sbr, w_sco, w_rV, w_rI, w_rR, w_rL, w_dI, w_sO, w_sq, w_si, w_pI, w_pZ, w_pR, w_pU, w_qI, w_qB, w_qZ, w_qU, w_qR, w_kV, q_icst, q_lcst, q_xR, q_ldI, q_ldR, q_ldL, q_bn, q_un, q_dv, q_fI, q_fR, q_aI, q_aR, q_aN, q_tn, q_cmp, q_cmz, q_cnt, q_ctt, q_cand, q_cor, q_vn, q_vI, q_vR, q_vL, q_kI, q_kR, q_kL, q_ckI, envN, argE, List.flatMap_cons, List.flatMap_nil, Value.category, junk, oadd, osub, omul, oand, oor, oxor, odiv, orem, oshl, oshr, oushr, omax, omin]; simp [l0, l1]; omega
          · simp only [f_mkF, w_sI, w_sR, w_sL, w_sC, w_sk, w_sbr, w_sco, w_rV, w_rI, w_rR, w_rL, w_dI, w_sO, w_sq, w_si, w_pI, w_pZ, w_pR, w_pU, w_qI, w_qB, w_qZ, w_qU, w_qR, w_kV, q_icst, q_lcst, q_xR, q_ldI, q_ldR, q_ldL, q_bn, q_un, q_dv, q_fI, q_fR, q_aI, q_aR, q_aN, q_tn, q_cmp, q_cmz, q_cnt, q_ctt, q_cand, q_cor, q_vn, q_vI, q_vR, q_vL, q_kI, q_kR, q_kL, q_ckI, envN, argE, List.flatMap_cons, List.flatMap_nil, Value.category, junk, oadd, osub, omul, oand, oor, oxor, odiv, orem, oshl, oshr, oushr, omax, omin]; simp [l10]; omega
          · simp only [f_mkF, w_sI, w_sR, w_sL, w_sC, w_sk, w_sbr, w_sco, w_rV, w_rI, w_rR, w_rL, w_dI, w_sO, w_sq, w_si, w_pI, w_pZ, w_pR, w_pU, w_qI, w_qB, w_qZ, w_qU, w_qR, w_kV, q_icst, q_lcst, q_xR, q_ldI, q_ldR, q_ldL, q_bn, q_un, q_dv, q_fI, q_fR, q_aI, q_aR, q_aN, q_tn, q_cmp, q_cmz, q_cnt, q_ctt, q_cand, q_cor, q_vn, q_vI, q_vR, q_vL, q_kI, q_kR, q_kL, q_ckI, envN, argE, List.flatMap_cons, List.flatMap_nil, Value.category, junk, oadd, osub, omul, oand, oor, oxor, odiv, orem, oshl, oshr, oushr, omax, omin]; simp [l11, l12]; omega
          have hcond : ev (cnt (cmp one (aI 13 (fR 11 39 (ldR 0)) (bn osub (ldI 2) (icst 1))) (tn (cnt (cmp one (ldI 5) (icst 12))) (icst 1) (icst 0)))) [.ref 166, .int (nI (12 * l + c)), .int (nI [x].length), .int (nI (180 * l)), .int (nI (180 * l + (k + 1))), .int (nI (lOp d k)), .int (nI v)] h' fun t h1 => t = decide (x = 1 ↔ lOp d k = 12) ∧ h1 = h' := by
            simp only [f_mkF, w_sI, w_sR, w_sL, w_sC, w_sk, w_sbr, w_sco, w_rV, w_rI, w_rR, w_rL, w_dI, w_sO, w_sq, w_si, w_pI, w_pZ, w_pR, w_pU, w_qI, w_qB, w_qZ, w_qU, w_qR, w_kV, q_icst, q_lcst, q_xR, q_ldI, q_ldR, q_ldL, q_bn, q_un, q_dv, q_fI, q_fR, q_aI, q_aR, q_aN, q_tn, q_cmp, q_cmz, q_cnt, q_ctt, q_cand, q_cor, q_vn, q_vI, q_vR, q_vL, q_kI, q_kR, q_kL, q_ckI, envN, argE, List.flatMap_cons, List.flatMap_nil, Value.category, junk, oadd, osub, omul, oand, oor, oxor, odiv, orem, oshl, oshr, oushr, omax, omin]
            simp (disch := first | omega | simp) [f1', hm', mp, ly166, ly194, nI_one, inI_0, z1, l12]
            rcases t1 with rfl | rfl <;> rcases ho with ho | ho <;> simp [ho]
          refine w_siN _ hcond (fun ht => ?_) (fun ht => ?_)
          · rw [decide_eq_true_iff] at ht
            rw [if_pos (by exact ht)] at k4
            obtain ⟨fu', q1, q2, q3, q4, q5, q6⟩ := w_rt (L := [x]) (fu := fu) k1 hk2 ho (by exact ht) k3
            refine w_sIe (nI (180 * l + lRt d k)) ?_ rfl ⟨fun _ => w_sk.mpr ⟨rfl, lTo d c + 1 - lRt d k, by omega, lRt d k, [x], fu', _, _, rfl, by omega, by omega, q1, q2.trans k4, ?_, fun _ => t1, k7, k8', rfl, rfl, rfl⟩, (fun z => by cases z), fun z => absurd rfl z⟩
            · simp only [f_mkF, w_sI, w_sR, w_sL, w_sC, w_sk, w_sbr, w_sco, w_rV, w_rI, w_rR, w_rL, w_dI, w_sO, w_sq, w_si, w_pI, w_pZ, w_pR, w_pU, w_qI, w_qB, w_qZ, w_qU, w_qR, w_kV, q_icst, q_lcst, q_xR, q_ldI, q_ldR, q_ldL, q_bn, q_un, q_dv, q_fI, q_fR, q_aI, q_aR, q_aN, q_tn, q_cmp, q_cmz, q_cnt, q_ctt, q_cand, q_cor, q_vn, q_vI, q_vR, q_vL, q_kI, q_kR, q_kL, q_ckI, envN, argE, List.flatMap_cons, List.flatMap_nil, Value.category, junk, oadd, osub, omul, oand, oor, oxor, odiv, orem, oshl, oshr, oushr, omax, omin]; simp [nI_add, hv]
            · simp; omega
          · rw [decide_eq_false_iff_not] at ht
            rw [if_neg (by exact ht)] at k4
            refine w_sIe (nI 0) ?_ rfl ⟨fun _ => w_sk.mpr ⟨rfl, lTo d c + 1 - (k + 1), by omega, k + 1, [], fu, _, _, rfl, by omega, by omega, by omega, k4, ?_, fun z => ?_, trivial, k8', rfl, rfl, rfl⟩, (fun z => by cases z), fun z => absurd rfl z⟩
            · simp only [f_mkF, w_sI, w_sR, w_sL, w_sC, w_sk, w_sbr, w_sco, w_rV, w_rI, w_rR, w_rL, w_dI, w_sO, w_sq, w_si, w_pI, w_pZ, w_pR, w_pU, w_qI, w_qB, w_qZ, w_qU, w_qR, w_kV, q_icst, q_lcst, q_xR, q_ldI, q_ldR, q_ldL, q_bn, q_un, q_dv, q_fI, q_fR, q_aI, q_aR, q_aN, q_tn, q_cmp, q_cmz, q_cnt, q_ctt, q_cand, q_cor, q_vn, q_vI, q_vR, q_vL, q_kI, q_kR, q_kL, q_ckI, envN, argE, List.flatMap_cons, List.flatMap_nil, Value.category, junk, oadd, osub, omul, oand, oor, oxor, odiv, orem, oshl, oshr, oushr, omax, omin]; simp [nI_one, nI_0]
            · simp; omega
            · have := o1 z; omega
  · rintro o v E' h' ⟨⟨rfl, rfl, rfl⟩ | ⟨rfl, rfl, hE0, hv⟩, f⟩
    · exact ⟨fun z => (by cases z), fun _ => Or.inr ⟨rfl, by rw [rk_b]; simp, by simp [b2], f⟩⟩
    · refine ⟨fun _ => ?_, fun z => absurd rfl z⟩
      have f1' : h'.1 = 212 := f.1.trans hn
      have hm' : ∀ j, h'.2.2 166 j = mp j := fun j => by rw [f.2.1]; exact hm j
      simp only [f_mkF, w_sI, w_sR, w_sL, w_sC, w_sk, w_sbr, w_sco, w_rV, w_rI, w_rR, w_rL, w_dI, w_sO, w_sq, w_si, w_pI, w_pZ, w_pR, w_pU, w_qI, w_qB, w_qZ, w_qU, w_qR, w_kV, q_icst, q_lcst, q_xR, q_ldI, q_ldR, q_ldL, q_bn, q_un, q_dv, q_fI, q_fR, q_aI, q_aR, q_aN, q_tn, q_cmp, q_cmz, q_cnt, q_ctt, q_cand, q_cor, q_vn, q_vI, q_vR, q_vL, q_kI, q_kR, q_kL, q_ckI, envN, argE, List.flatMap_cons, List.flatMap_nil, Value.category, junk, oadd, osub, omul, oand, oor, oxor, odiv, orem, oshl, oshr, oushr, omax, omin]
      simp [rk_i, rk_b, rk_o, st1, kill, Value.category, rcv, nog, hE0, f1', hm', mp, ly166, ly194, inI_0, hv, b2_1, f]
      cases B <;> simp [b2]
theorem chL_i : ∀ a, a < 8 → ∀ b, b < 8 → (chL a = chL b ↔ a = b) := by decide +kernel
theorem chL_s : ∀ a, a < 8 → (chL a = 115 ↔ a = 0) := by decide +kernel
theorem mskA : ∀ m, m < 64 → ∀ k, k < 6 → (oand (oushr (nI m) (nI k)) 1 = if m.testBit k = true then 1 else 0) ∧ (oand (oshr (nI m) (nI k)) 1 = if m.testBit k = true then 1 else 0) ∧ oor (nI m) (oshl 1 (nI k)) = nI (m ||| 2 ^ k) ∧ m ||| 2 ^ k < 64 := by decide +kernel
theorem LM_194 {h h' : Hp} {l : Nat} {d : LDt} (q : LM h l d) (f : Fr (fun a _ => a = 194) h h') : LM h' l d := by
  obtain ⟨f1, f2, f3⟩ := f
  obtain ⟨q1, q2⟩ := q
  refine ⟨by rw [f3 _ _ (by omega)]; exact q1, fun c hc => ?_⟩
  obtain ⟨z1, z2, z3, z4⟩ := q2 c hc
  refine ⟨by rw [f3 _ _ (by omega)]; exact z1, by rw [f3 _ _ (by omega)]; exact z2, by rw [f3 _ _ (by omega)]; exact z3, fun k h1 h2 => ?_⟩
  rw [f3 _ _ (by omega)]
  exact z4 k h1 h2
theorem m_such {h : Hp} (hp : Ip h) {l : Nat} (hl6 : l < 6) {d : LDt} (hw : WD d) (hx : LM h l d) {sp : Nat} (hs1 : h.2.1 166 41 = nI sp) (hs2 : sp < 64) {lt : Nat} (hlt : lt < 8) : fq F_X11_hasSuch [.ref 166, .int (nI l), .int (chL lt)] h fun r h' => r = some (.int (b2 ((!(decide (lt = 0) && sp.testBit l) && hs d lt (h.2.1 195)) = true))) ∧ Fr (fun a _ => a = 194) h h' := by
  have hn := hp.1
  have hm := hp.2.2
  have w1 := hw.1
  have ms := (mskA sp hs2 l hl6).2.1
  have cs := chL_s lt hlt
  have hE : envN 4 [Value.ref 166, Value.int (nI l), Value.int (chL lt)] = [Value.ref 166, Value.int (nI l), Value.int (chL lt), junk] := rfl
  unfold F_X11_hasSuch
  refine f_mkE _ hE (by simp [argE, Value.category]) ?_
  have hcond : ev (cand (cnt (cmp one (ldI 2) (icst 115))) (cnt (cmp one (bn oand (bn oshr (fI 11 41 (ldR 0)) (ldI 1)) (icst 1)) (icst 1)))) [Value.ref 166, Value.int (nI l), Value.int (chL lt), junk] h fun t h1 => t = (decide (lt = 0) && sp.testBit l) ∧ h1 = h := by
    simp only [f_mkF, w_sI, w_sR, w_sL, w_sC, w_sk, w_sbr, w_sco, w_rV, w_rI, w_rR, w_rL, w_dI, w_sO, w_sq, w_si, w_pI, w_pZ, w_pR, w_pU, w_qI, w_qB, w_qZ, w_qU, w_qR, w_kV, q_icst, q_lcst, q_xR, q_ldI, q_ldR, q_ldL, q_bn, q_un, q_dv, q_fI, q_fR, q_aI, q_aR, q_aN, q_tn, q_cmp, q_cmz, q_cnt, q_ctt, q_cand, q_cor, q_vn, q_vI, q_vR, q_vL, q_kI, q_kR, q_kL, q_ckI, envN, argE, List.flatMap_cons, List.flatMap_nil, Value.category, junk, oadd, osub, omul, oand, oor, oxor, odiv, orem, oshl, omax, omin]
    simp [hn, ly166, hs1]
    rw [show oshr (nI sp) (nI l) &&& 1 = _ from ms]
    simp only [cs]
    by_cases a : lt = 0 <;> cases b : sp.testBit l <;> simp [a]
  refine w_sq.mpr (w_siN _ hcond (fun ht => ?_) (fun ht => ?_))
  · simp only [f_mkF, w_sI, w_sR, w_sL, w_sC, w_sk, w_sbr, w_sco, w_rV, w_rI, w_rR, w_rL, w_dI, w_sO, w_sq, w_si, w_pI, w_pZ, w_pR, w_pU, w_qI, w_qB, w_qZ, w_qU, w_qR, w_kV, q_icst, q_lcst, q_xR, q_ldI, q_ldR, q_ldL, q_bn, q_un, q_dv, q_fI, q_fR, q_aI, q_aR, q_aN, q_tn, q_cmp, q_cmz, q_cnt, q_ctt, q_cand, q_cor, q_vn, q_vI, q_vR, q_vL, q_kI, q_kR, q_kL, q_ckI, envN, argE, List.flatMap_cons, List.flatMap_nil, Value.category, junk, oadd, osub, omul, oand, oor, oxor, odiv, orem, oshl, oshr, oushr, omax, omin]
    simp [rk_i, rk_b, rk_o, st1, kill, Value.category, rcv, nog, ht, b2, Fr.refl]
  refine w_sk2.mpr ?_
  rw [ht]
  refine w_sq.mpr ?_
  refine w_sqI (nI (12 * l)) (by simp only [f_mkF, w_sI, w_sR, w_sL, w_sC, w_sk, w_sbr, w_sco, w_rV, w_rI, w_rR, w_rL, w_dI, w_sO, w_sq, w_si, w_pI, w_pZ, w_pR, w_pU, w_qI, w_qB, w_qZ, w_qU, w_qR, w_kV, q_icst, q_lcst, q_xR, q_ldI, q_ldR, q_ldL, q_bn, q_un, q_dv, q_fI, q_fR, q_aI, q_aR, q_aN, q_tn, q_cmp, q_cmz, q_cnt, q_ctt, q_cand, q_cor, q_vn, q_vI, q_vR, q_vL, q_kI, q_kR, q_kL, q_ckI, envN, argE, List.flatMap_cons, List.flatMap_nil, Value.category, junk, oadd, osub, omul, oand, oor, oxor, odiv, orem, oshl, oshr, oushr, omax, omin]; simp [nI_12]) rfl ?_
  refine wp_mono (w_lp (Q := fun o v E1 h' => ((o = 2 ∧ v = .int 1 ∧ hs d lt (h.2.1 195) = true) ∨ (o = 0 ∧ hs d lt (h.2.1 195) = false)) ∧ Fr (fun a _ => a = 194) h h') (fun m E h' => ∃ c, m = lCn d - c ∧ c ≤ lCn d ∧ Fr (fun a _ => a = 194) h h' ∧ E = [.ref 166, .int (nI l), .int (chL lt), .int (nI (12 * l + c))] ∧ hsN d lt (h.2.1 195) c = false) ?_ (lCn d) _ _ ⟨0, rfl, by omega, Fr.refl h, rfl, rfl⟩) ?_
  · rintro m E h' ⟨c, rfl, hc, f, rfl, hr⟩
    have hp' := f.ip hp
    have hx' := LM_194 hx f
    have hm' : ∀ j, h'.2.2 166 j = mp j := hp'.2.2
    have f1' := hp'.1
    have e9 : h'.2.1 195 = h.2.1 195 := funext fun j => f.2.2 195 j (by omega)
    have e5 := hx'.1
    by_cases hcn : c < lCn d
    · obtain ⟨z1, -, -, -⟩ := hx'.2 c hcn
      have c72 : 12 * l + c < 72 := by omega
      have wl := (hw.2 c hcn).1
      refine ev_T ?_ ⟨fun z => (by cases z), fun _ => ?_⟩
      · simp only [f_mkF, w_sI, w_sR, w_sL, w_sC, w_sk, w_sbr, w_sco, w_rV, w_rI, w_rR, w_rL, w_dI, w_sO, w_sq, w_si, w_pI, w_pZ, w_pR, w_pU, w_qI, w_qB, w_qZ, w_qU, w_qR, w_kV, q_icst, q_lcst, q_xR, q_ldI, q_ldR, q_ldL, q_bn, q_un, q_dv, q_fI, q_fR, q_aI, q_aR, q_aN, q_tn, q_cmp, q_cmz, q_cnt, q_ctt, q_cand, q_cor, q_vn, q_vI, q_vR, q_vL, q_kI, q_kR, q_kL, q_ckI, envN, argE, List.flatMap_cons, List.flatMap_nil, Value.category, junk, oadd, osub, omul, oand, oor, oxor, odiv, orem, oshl, oshr, oushr, omax, omin]
        simp (disch := first | omega | simp) [f1', hm', mp, ly166, ly190, inI_b, nI_clamp, nI_ltI, nI_leI, nI_eq, nI_9, nI_6, nI_22, nI_12, nI_180, nI_add, nI_1, e5, hcn]
        omega
      have hstep : wp (sC 3 1) [.ref 166, .int (nI l), .int (chL lt), .int (nI (12 * l + c))] h' fun o2 _ E2 h3 => o2 = 0 ∧ h3 = h' ∧ E2 = [.ref 166, .int (nI l), .int (chL lt), .int (nI (12 * l + (c + 1)))] := by
        refine w_sCe (nI (12 * l + c)) (nI (12 * l + (c + 1))) rfl (nI_1 _) rfl ⟨rfl, rfl, rfl⟩
      have hck : ev (cnt (cmp one (aI 13 (fR 11 36 (ldR 0)) (ldI 3)) (ldI 2))) [.ref 166, .int (nI l), .int (chL lt), .int (nI (12 * l + c))] h' fun t h1 => t = decide (lLt d c = lt) ∧ h1 = h' := by
        simp only [f_mkF, w_sI, w_sR, w_sL, w_sC, w_sk, w_sbr, w_sco, w_rV, w_rI, w_rR, w_rL, w_dI, w_sO, w_sq, w_si, w_pI, w_pZ, w_pR, w_pU, w_qI, w_qB, w_qZ, w_qU, w_qR, w_kV, q_icst, q_lcst, q_xR, q_ldI, q_ldR, q_ldL, q_bn, q_un, q_dv, q_fI, q_fR, q_aI, q_aR, q_aN, q_tn, q_cmp, q_cmz, q_cnt, q_ctt, q_cand, q_cor, q_vn, q_vI, q_vR, q_vL, q_kI, q_kR, q_kL, q_ckI, envN, argE, List.flatMap_cons, List.flatMap_nil, Value.category, junk, oadd, osub, omul, oand, oor, oxor, odiv, orem, oshl, oshr, oushr, omax, omin]
        simp (disch := first | omega | simp) [f1', hm', mp, ly166, ly191, inI_b, nI_clamp, nI_ltI, nI_leI, nI_eq, nI_9, nI_6, nI_22, nI_12, nI_180, nI_add, nI_1, c72, z1]
        have := chL_i (lLt d c) wl lt hlt
        by_cases a : lLt d c = lt <;> simp [this, a]
      rw [w_si, q_cand]
      refine ev_mono hck ?_
      rintro t h1 ⟨rfl, rfl⟩
      refine ⟨fun hl => ?_, fun hl => ?_⟩
      · rw [decide_eq_true_iff] at hl
        rw [q_cnt, q_cmz]
        refine q_kIe [.ref 166, .int (nI (12 * l + c))] (by simp only [f_mkF, w_sI, w_sR, w_sL, w_sC, w_sk, w_sbr, w_sco, w_rV, w_rI, w_rR, w_rL, w_dI, w_sO, w_sq, w_si, w_pI, w_pZ, w_pR, w_pU, w_qI, w_qB, w_qZ, w_qU, w_qR, w_kV, q_icst, q_lcst, q_xR, q_ldI, q_ldR, q_ldL, q_bn, q_un, q_dv, q_fI, q_fR, q_aI, q_aR, q_aN, q_tn, q_cmp, q_cmz, q_cnt, q_ctt, q_cand, q_cor, q_vn, q_vI, q_vR, q_vL, q_kI, q_kR, q_kL, q_ckI, envN, argE, List.flatMap_cons, List.flatMap_nil, Value.category, junk, oadd, osub, omul, oand, oor, oxor, odiv, orem, oshl, oshr, oushr, omax, omin]; simp) (by simp [rcv, f1', ly166]) ?_
        refine fq_mono (m_true hp' hl6 hw hx' hcn) ?_
        rintro r h2 ⟨rfl, g⟩
        rw [e9]
        have g' := f.trans g
        refine ⟨_, rfl, ?_⟩
        cases hb : cls d (h.2.1 195) c with
        | true =>
          have hs3 : hs d lt (h.2.1 195) = true := hsN_up (c := c) hcn (by simp [hsN, hl, hb])
          refine ⟨fun _ => ?_, fun z => ?_⟩
          · simp only [f_mkF, w_sI, w_sR, w_sL, w_sC, w_sk, w_sbr, w_sco, w_rV, w_rI, w_rR, w_rL, w_dI, w_sO, w_sq, w_si, w_pI, w_pZ, w_pR, w_pU, w_qI, w_qB, w_qZ, w_qU, w_qR, w_kV, q_icst, q_lcst, q_xR, q_ldI, q_ldR, q_ldL, q_bn, q_un, q_dv, q_fI, q_fR, q_aI, q_aR, q_aN, q_tn, q_cmp, q_cmz, q_cnt, q_ctt, q_cand, q_cor, q_vn, q_vI, q_vR, q_vL, q_kI, q_kR, q_kL, q_ckI, envN, argE, List.flatMap_cons, List.flatMap_nil, Value.category, junk, oadd, osub, omul, oand, oor, oxor, odiv, orem, oshl, oshr, oushr, omax, omin]
            simp [hs3, g']
          · simp [b2] at z
        | false =>
          refine ⟨fun z => ?_, fun _ => ?_⟩
          · simp [b2] at z
          · rw [w_sk]
            refine ⟨fun _ => w_sCe (nI (12 * l + c)) (nI (12 * l + (c + 1))) rfl (nI_1 _) rfl ⟨rfl, lCn d - (c + 1), by omega, c + 1, rfl, by omega, g', rfl, by simp [hsN, hr, hb]⟩, (fun z => by cases z), fun z => absurd rfl z⟩
      · rw [decide_eq_false_iff_not] at hl
        refine ⟨fun z => (by cases z), fun _ => ?_⟩
        rw [w_sk]
        refine ⟨fun _ => w_sCe (nI (12 * l + c)) (nI (12 * l + (c + 1))) rfl (nI_1 _) rfl ⟨rfl, lCn d - (c + 1), by omega, c + 1, rfl, by omega, f, rfl, by simp [hsN, hr, hl]⟩, (fun z => by cases z), fun z => absurd rfl z⟩
    · have : c = lCn d := by omega
      subst this
      refine ev_F ?_ ⟨fun _ => ⟨Or.inr ⟨rfl, hr⟩, f⟩, fun z => (by cases z)⟩
      simp only [f_mkF, w_sI, w_sR, w_sL, w_sC, w_sk, w_sbr, w_sco, w_rV, w_rI, w_rR, w_rL, w_dI, w_sO, w_sq, w_si, w_pI, w_pZ, w_pR, w_pU, w_qI, w_qB, w_qZ, w_qU, w_qR, w_kV, q_icst, q_lcst, q_xR, q_ldI, q_ldR, q_ldL, q_bn, q_un, q_dv, q_fI, q_fR, q_aI, q_aR, q_aN, q_tn, q_cmp, q_cmz, q_cnt, q_ctt, q_cand, q_cor, q_vn, q_vI, q_vR, q_vL, q_kI, q_kR, q_kL, q_ckI, envN, argE, List.flatMap_cons, List.flatMap_nil, Value.category, junk, oadd, osub, omul, oand, oor, oxor, odiv, orem, oshl, oshr, oushr, omax, omin]
      simp (disch := first | omega | simp) [f1', hm', mp, ly166, ly190, inI_b, nI_clamp, nI_ltI, nI_leI, nI_eq, nI_9, nI_6, nI_22, nI_12, nI_180, nI_add, nI_1, e5]
      omega
  · rintro o v E' h' ⟨⟨rfl, rfl, hs3⟩ | ⟨rfl, hs3⟩, f⟩
    · exact ⟨fun z => (by cases z), fun _ => Or.inr ⟨rfl, by rw [rk_b]; simp, by simp [b2, hs3], f⟩⟩
    · refine ⟨fun _ => ?_, fun z => absurd rfl z⟩
      simp only [f_mkF, w_sI, w_sR, w_sL, w_sC, w_sk, w_sbr, w_sco, w_rV, w_rI, w_rR, w_rL, w_dI, w_sO, w_sq, w_si, w_pI, w_pZ, w_pR, w_pU, w_qI, w_qB, w_qZ, w_qU, w_qR, w_kV, q_icst, q_lcst, q_xR, q_ldI, q_ldR, q_ldL, q_bn, q_un, q_dv, q_fI, q_fR, q_aI, q_aR, q_aN, q_tn, q_cmp, q_cmz, q_cnt, q_ctt, q_cand, q_cor, q_vn, q_vI, q_vR, q_vL, q_kI, q_kR, q_kL, q_ckI, envN, argE, List.flatMap_cons, List.flatMap_nil, Value.category, junk, oadd, osub, omul, oand, oor, oxor, odiv, orem, oshl, oshr, oushr, omax, omin]
      simp [rk_i, rk_b, rk_o, st1, kill, Value.category, rcv, nog, hs3, b2, f]
