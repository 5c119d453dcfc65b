/-! the theft and the sale that are only thought of -/
def stR (R : Nat → Nat → Int32) (n : Nat) (q p fr land no wo : Int32) (i : Nat) : Nat → Int32 := if i < n then R i else if i = n then r8 5 q fr no 0 0 0 0 else r8 0 p land no wo 3 0 0
def stg (w : Wd) (q p fr land : Int32) : Wd := (stR (W_R w) (W_n w) q p fr land (W_no w) (W_wo w), W_fo w, W_fl w, W_wo w, W_hm w, W_sd w, W_no w, W_n w + 2, W_f w, W_D w)
theorem stg_R (w : Wd) (q p fr land : Int32) : W_R (stg w q p fr land) = stR (W_R w) (W_n w) q p fr land (W_no w) (W_wo w) := rfl
theorem stg_n (w : Wd) (q p fr land : Int32) : W_n (stg w q p fr land) = W_n w + 2 := rfl
theorem stg_wv {w : Wd} (hw : WV w) (h18 : W_n w ≤ 18) {q p fr land : Int32} (hq : 0 ≤ q.toInt ∧ q.toInt < 12) (hp : 0 ≤ p.toInt ∧ p.toInt < 12) (hfr : 0 ≤ fr.toInt ∧ fr.toInt ≤ 5) (hla : 0 ≤ land.toInt ∧ land.toInt ≤ 5) (hwo : 1 ≤ (W_wo w).toInt ∧ (W_wo w).toInt ≤ 1000000) : WV (stg w q p fr land) := by
  obtain ⟨a1, a2, a3, a4, a5, a6, a7, a8, a9, a10⟩ := hw
  have z0 : (0 : Int32).toInt = 0 := rfl
  have z3 : (3 : Int32).toInt = 3 := rfl
  have z5 : (5 : Int32).toInt = 5 := rfl
  have r1 : rowV 12 (W_no w).toInt (r8 5 q fr (W_no w) 0 0 0 0) := by
    unfold rowV
    simp only [r8, z0, z5]
    refine ⟨⟨by omega, by omega⟩, hq, hfr, ⟨a8.1, by omega⟩, ⟨by omega, by omega⟩, (by first | exact fun _ => rfl | exact fun _ => trivial), ⟨by omega, by omega⟩, by omega, by omega, by omega⟩
  have r2 : rowV 12 (W_no w).toInt (r8 0 p land (W_no w) (W_wo w) 3 0 0) := by
    unfold rowV
    simp only [r8, z0, z3]
    omega
  have hR : ∀ i, i < W_n w + 2 → rowV 12 (W_no w).toInt (stR (W_R w) (W_n w) q p fr land (W_no w) (W_wo w) i) := by
    intro i hi
    unfold stR
    by_cases c1 : i < W_n w
    · rw [if_pos c1]; exact a3 i c1
    · rw [if_neg c1]
      by_cases c2 : i = W_n w
      · rw [if_pos c2]; exact r1
      · rw [if_neg c2]; exact r2
  refine ⟨by show W_n w + 2 ≤ 20; omega, a2, hR, fun i hi => ?_, a5, a6, a7, a8, a9, a10⟩
  have hi' : i + 1 < W_n w + 2 := hi
  show (stR (W_R w) (W_n w) q p fr land (W_no w) (W_wo w) i 3).toInt ≤ (stR (W_R w) (W_n w) q p fr land (W_no w) (W_wo w) (i + 1) 3).toInt
  unfold stR
  by_cases c1 : i + 1 < W_n w
  · rw [if_pos (show i < W_n w by omega), if_pos c1]; exact a4 i c1
  · rw [if_neg c1]
    have e : (if i + 1 = W_n w then r8 5 q fr (W_no w) 0 0 0 0 else r8 0 p land (W_no w) (W_wo w) 3 0 0) 3 = W_no w := by
      by_cases c2 : i + 1 = W_n w
      · rw [if_pos c2]; rfl
      · rw [if_neg c2]; rfl
    rw [e]
    by_cases c3 : i < W_n w
    · rw [if_pos c3]; exact (a3 i c3).2.2.2.1.2
    · rw [if_neg c3, if_pos (by omega)]; exact Int.le_refl _
/-- what staging changes -/
def Fs (T : Nat) (ra : Nat → Nat) (n : Nat) (h h' : Hp) : Prop := h'.1 = h.1 ∧ (∀ a k, a ≠ T + 1 → h'.2.2 a k = h.2.2 a k) ∧ (∀ i, i < 20 → h'.2.2 (T + 1) i = some (ra i)) ∧ ∀ a k, a ≠ ra n → a ≠ ra (n + 1) → ¬ (a = T ∧ k = 1) → h'.2.1 a k = h.2.1 a k
theorem insA_n {ra : Nat → Nat} {n i : Nat} : insA ra n n i = ra i := by
  unfold insA
  by_cases c1 : i < n
  · rw [if_pos c1]
  · rw [if_neg c1]
    by_cases c2 : i = n
    · rw [if_pos c2, c2]
    · rw [if_neg c2, if_neg (by omega)]
theorem puts8 {h : Hp} {A : Nat} (a b c d e f g i : Int32) : (∀ k, k < 8 → (wI (wI (wI (wI (wI (wI (wI (wI h A 0 a) A 1 b) A 2 c) A 3 d) A 4 e) A 5 f) A 6 g) A 7 i).2.1 A k = r8 a b c d e f g i k) ∧ ∀ x k, x ≠ A → (wI (wI (wI (wI (wI (wI (wI (wI h A 0 a) A 1 b) A 2 c) A 3 d) A 4 e) A 5 f) A 6 g) A 7 i).2.1 x k = h.2.1 x k := by
  refine ⟨fun k hk => ?_, fun x k hx => ?_⟩
  · match k, hk with
    | 0, _ => simp [wI_i, r8]
    | 1, _ => simp [wI_i, r8]
    | 2, _ => simp [wI_i, r8]
    | 3, _ => simp [wI_i, r8]
    | 4, _ => simp [wI_i, r8]
    | 5, _ => simp [wI_i, r8]
    | 6, _ => simp [wI_i, r8]
    | 7, _ => simp [wI_i, r8]
  · simp [wI_i, hx]
/-- one more row of the class's thing -/
theorem x_add {h : Hp} {T : Nat} {ra : Nat → Nat} {n : Nat} {R : Nat → Nat → Int32} (q : TH h T ra n R) (hj : ∀ i j, i < 20 → j < 20 → ra i = ra j → i = j) (h20 : n < 20) (kind to land month price signs lo hi' : Int32) : ∀ h1, h1.1 = 212 → h1.2.1 = (wI h T 1 (nI (n + 1))).2.1 → (∀ i, i < 20 → h1.2.2 (T + 1) i = some (insA ra n n i)) → (∀ a k, a ≠ T + 1 → h1.2.2 a k = h.2.2 a k) → TH (wI (wI (wI (wI (wI (wI (wI (wI h1 (ra n) 0 kind) (ra n) 1 to) (ra n) 2 land) (ra n) 3 month) (ra n) 4 price) (ra n) 5 signs) (ra n) 6 lo) (ra n) 7 hi') T ra (n + 1) (fun i => if i = n then r8 kind to land month price signs lo hi' else R i) ∧ (∀ a k, a ≠ ra n → ¬ (a = T ∧ k = 1) → (wI (wI (wI (wI (wI (wI (wI (wI h1 (ra n) 0 kind) (ra n) 1 to) (ra n) 2 land) (ra n) 3 month) (ra n) 4 price) (ra n) 5 signs) (ra n) 6 lo) (ra n) 7 hi').2.1 a k = h.2.1 a k) ∧ ∀ k, k < 8 → (wI (wI (wI (wI (wI (wI (wI (wI h1 (ra n) 0 kind) (ra n) 1 to) (ra n) 2 land) (ra n) 3 month) (ra n) 4 price) (ra n) 5 signs) (ra n) 6 lo) (ra n) 7 hi').2.1 (ra n) k = r8 kind to land month price signs lo hi' k := by
  intro h1 e1 e2 e3 e4
  obtain ⟨⟨hn, t1, t2, t3, t4, t5⟩, ⟨n1, n2⟩, r1, r2⟩ := q
  obtain ⟨p1, p2⟩ := puts8 (h := h1) (A := ra n) kind to land month price signs lo hi'
  obtain ⟨u1, u2, u3, u4⟩ := r1 n h20
  have g : ∀ a k, a ≠ ra n → ¬ (a = T ∧ k = 1) → (wI (wI (wI (wI (wI (wI (wI (wI h1 (ra n) 0 kind) (ra n) 1 to) (ra n) 2 land) (ra n) 3 month) (ra n) 4 price) (ra n) 5 signs) (ra n) 6 lo) (ra n) 7 hi').2.1 a k = h.2.1 a k := fun a k z1 z2 => by rw [p2 a k z1, e2, wI_i, if_neg z2]
  refine ⟨⟨⟨e1, t1, t2, t3, ?_, t5⟩, ⟨?_, by omega⟩, fun i hi => ?_, fun i k hi hk => ?_⟩, g, p1⟩
  · show h1.2.2 T 0 = _
    rw [e4 T 0 (by omega)]; exact t4
  · rw [p2 T 1 (by omega), e2, wI_i, if_pos ⟨rfl, rfl⟩]
  · show h1.2.2 (T + 1) i = _ ∧ _
    rw [e3 i hi, insA_n]
    exact ⟨rfl, (r1 i hi).2⟩
  · show _ = (if i = n then r8 kind to land month price signs lo hi' else R i) k
    by_cases c : i = n
    · rw [if_pos c, c]; exact p1 k hk
    · rw [if_neg c, g (ra i) k (fun z => c (hj i n (by omega) h20 z)) (by have := r1 i (by omega); omega)]
      exact r2 i k (by omega) hk
theorem ty9 {T : Nat} (h1 : 28 ≤ T) (h2 : T < 115) (h3 : (LY T).1 = 9) : T = 28 ∨ T = 50 ∨ T = 72 ∨ T = 94 := by
  have : ∀ x, x < 115 → 28 ≤ x → (LY x).1 = 9 → x = 28 ∨ x = 50 ∨ x = 72 ∨ x = 94 := by decide +kernel
  exact this T h2 h1 h3
theorem CY.st {w : Wd} {T : Nat} {ra : Nat → Nat} {h : Hp} (y : CY w T ra h) {h' : Hp} {q p fr land : Int32} (f : Fs T ra (W_n w) h h') (hw : WV (stg w q p fr land)) (th : TH h' T ra (W_n w + 2) (stR (W_R w) (W_n w) q p fr land (W_no w) (W_wo w))) : CY (stg w q p fr land) T ra h' := by
  obtain ⟨q1, q2, ⟨q4, q5, q6⟩, q9, q10, q11, q12⟩ := y
  obtain ⟨f1, f2, f3, f4⟩ := f
  have n20 : W_n w + 2 ≤ 20 := hw.1
  have b1 := q2.2.2.1 (W_n w) (by omega)
  have b2 := q2.2.2.1 (W_n w + 1) (by omega)
  have t1 := q2.1.2.1
  have t2 := q2.1.2.2.1
  have tT := ty9 t1 t2 q2.1.2.2.2.1
  have ip : Ip h' := by
    refine ⟨f1.trans q1.1, fun x hx => ?_, fun k => ?_⟩
    · have h1 := q1.2.1 x hx
      have : x.1 ≠ T + 1 := by
        have s := spl_n x hx
        intro z
        have e5 := q2.1.2.2.2.1
        have : T = 28 ∨ T = 50 ∨ T = 72 ∨ T = 94 := ty9 t1 t2 e5
        omega
      rw [f2 _ _ this]; exact h1
    · rw [f2 _ _ (by omega)]; exact q1.2.2 k
  refine ⟨ip, th, ⟨by rw [f4 _ _ (by omega) (by omega) (by omega)]; exact q4, by rw [f4 _ _ (by omega) (by omega) (by omega)]; exact q5, by rw [f4 _ _ (by omega) (by omega) (by omega)]; exact q6⟩, fun k => by rw [f4 _ _ (by omega) (by omega) (by omega)]; exact q9 k, fun l k hl hk => by rw [f4 _ _ (by omega) (by omega) (by omega)]; exact q10 l k hl hk, fun l hl => ?_, hw⟩
  obtain ⟨la, z1, z2, z3⟩ := q11 l hl
  refine ⟨la, by rw [f2 _ _ (by omega)]; exact z1, z2, LX_e (fun a k h1 h2 => f4 a k ?_ ?_ ?_) z3⟩
  · unfold lawA at z2; omega
  · unfold lawA at z2; omega
  · unfold lawA at z2; omega
theorem TH.ex {h : Hp} {T : Nat} {ra : Nat → Nat} {n : Nat} {R R' : Nat → Nat → Int32} (q : TH h T ra n R) (e : ∀ i k, i < n → k < 8 → R i k = R' i k) : TH h T ra n R' := by
  obtain ⟨a, b, c, d⟩ := q
  exact ⟨a, b, c, fun i k hi hk => (d i k hi hk).trans (e i k hi hk)⟩
theorem x_stage {w : Wd} {T : Nat} {ra : Nat → Nat} {h : Hp} (y : CY w T ra h) (hj : ∀ i j, i < 20 → j < 20 → ra i = ra j → i = j) (h18 : W_n w ≤ 18) {t : Nat} (ht : t < 4) (hT : T = 28 + 22 * t) (h12 : h.2.1 0 12 = W_no w) (q p fr : Int32) : fq F_X10_stage [.ref 0, .int (nI t), .int fr, .int q, .int p] h fun r h' => r = some (.ref (ra (W_n w + 1))) ∧ Fs T ra (W_n w) h h' ∧ TH h' T ra (W_n w + 2) (stR (W_R w) (W_n w) q p fr fr (W_no w) (W_wo w)) ∧ Ip h' := by
  have hp := y.1
  have hn := hp.1
  have p2 : h.2.2 0 2 = some 3 := hp.2.1.at 2 rfl
  obtain ⟨p1, p3, -⟩ := ptT hp ht
  rw [← hT] at p1 p3
  have th := y.2.1
  have tT := ty9 th.1.2.1 th.1.2.2.1 th.1.2.2.2.1
  have a7 := th.2.1.1
  have t6 : T < 212 := by omega
  obtain ⟨u1, u2, u3, u4⟩ := th.2.2.1 (W_n w) (by omega)
  obtain ⟨v1, v2, v3, v4⟩ := th.2.2.1 (W_n w + 1) (by omega)
  have u5 : ra (W_n w) < 212 := by omega
  have v5 : ra (W_n w + 1) < 212 := by omega
  have huv : ra (W_n w + 1) ≠ ra (W_n w) := fun z => by have := hj _ _ (by omega) (by omega) z; omega
  unfold F_X10_stage
  refine f_mkE [.ref 0, .int (nI t), .int fr, .int q, .int p, junk, junk] rfl (by simp [argE, Value.category]) ?_
  refine w_fz fun B hB C hC => ?_
  simp only [f_mkF, w_sI, w_sR, w_sL, w_sC, w_sk, w_sbr, w_sco, w_rV, w_rI, w_rR, w_rL, w_dI, w_sO, w_sq, w_si, w_pI, w_pZ, w_pR, w_pU, w_qI, w_qB, w_qZ, w_qU, w_qR, w_kV, q_icst, q_lcst, q_xR, q_ldI, q_ldR, q_ldL, q_bn, q_un, q_dv, q_fI, q_fR, q_aI, q_aR, q_aN, q_tn, q_cmp, q_cmz, q_cnt, q_ctt, q_cand, q_cor, q_vn, q_vI, q_vR, q_vL, q_kI, q_kR, q_kL, q_ckI, envN, argE, List.flatMap_cons, List.flatMap_nil, Value.category, junk, oadd, osub, omul, oand, oor, oxor, odiv, orem, oshl, oshr, oushr, omax, omin]
  simp (disch := first | omega | simp) [rk_i, rk_b, rk_o, st1, kill, Value.category, rcv, nog, inI_b, nI_clamp, nI_ltI, nI_leI, nI_eq, nI_9, nI_6, nI_22, nI_12, nI_180, nI_add, nI_1, hn, ly0, ly3, p2, p1, p3, ht, a7, t6]
  refine fq_mono (e_x_insert th (Nat.le_refl _) (by omega)) ?_
  rintro r h1 ⟨rfl, f1, f2, f3, f4⟩
  simp [rk_i, rk_b, rk_o, st1, kill, Value.category, rcv, nog]
  subst hB hC
  have e12 : ∀ x k, x ≠ T → h1.2.1 x k = h.2.1 x k := fun x k z => by rw [f2, wI_i, if_neg (fun y => z y.1)]
  have g12 : h1.2.1 0 12 = W_no w := (e12 0 12 (by omega)).trans h12
  (refine w_fz fun B hB C hC => ?_); (simp only [f_mkF, w_sI, w_sR, w_sL, w_sC, w_sk, w_sbr, w_sco, w_rV, w_rI, w_rR, w_rL, w_dI, w_sO, w_sq, w_si, w_pI, w_pZ, w_pR, w_pU, w_qI, w_qB, w_qZ, w_qU, w_qR, w_kV, q_icst, q_lcst, q_xR, q_ldI, q_ldR, q_ldL, q_bn, q_un, q_dv, q_fI, q_fR, q_aI, q_aR, q_aN, q_tn, q_cmp, q_cmz, q_cnt, q_ctt, q_cand, q_cor, q_vn, q_vI, q_vR, q_vL, q_kI, q_kR, q_kL, q_ckI, envN, argE, List.flatMap_cons, List.flatMap_nil, Value.category, junk, oadd, osub, omul, oand, oor, oxor, odiv, orem, oshl, oshr, oushr, omax, omin]); (simp (disch := first | omega | simp) [rk_i, rk_b, rk_o, st1, kill, Value.category, rcv, nog, inI_b, nI_clamp, nI_ltI, nI_leI, nI_eq, nI_9, nI_6, nI_22, nI_12, nI_180, nI_add, nI_1, f1, ly0, u5, u4, g12, fq_of (e_x_goes (ra (W_n w)) 5 q fr (W_no w) h1 f1 u5 u4)]); (subst hB hC)
  have f1' : (wI (wI (wI (wI h1 (ra (W_n w)) 0 5) (ra (W_n w)) 1 q) (ra (W_n w)) 2 fr) (ra (W_n w)) 3 (W_no w)).1 = 212 := f1
  (refine w_fz fun B hB C hC => ?_); (simp only [f_mkF, w_sI, w_sR, w_sL, w_sC, w_sk, w_sbr, w_sco, w_rV, w_rI, w_rR, w_rL, w_dI, w_sO, w_sq, w_si, w_pI, w_pZ, w_pR, w_pU, w_qI, w_qB, w_qZ, w_qU, w_qR, w_kV, q_icst, q_lcst, q_xR, q_ldI, q_ldR, q_ldL, q_bn, q_un, q_dv, q_fI, q_fR, q_aI, q_aR, q_aN, q_tn, q_cmp, q_cmz, q_cnt, q_ctt, q_cand, q_cor, q_vn, q_vI, q_vR, q_vL, q_kI, q_kR, q_kL, q_ckI, envN, argE, List.flatMap_cons, List.flatMap_nil, Value.category, junk, oadd, osub, omul, oand, oor, oxor, odiv, orem, oshl, oshr, oushr, omax, omin]); (simp (disch := first | omega | simp) [rk_i, rk_b, rk_o, st1, kill, Value.category, rcv, nog, inI_b, nI_clamp, nI_ltI, nI_leI, nI_eq, nI_9, nI_6, nI_22, nI_12, nI_180, nI_add, nI_1, f1', u5, u4, fq_of (e_x_costs (ra (W_n w)) 0 0 _ f1' u5 u4)]); (subst hB hC)
  have f1'' : (wI (wI (wI (wI (wI (wI h1 (ra (W_n w)) 0 5) (ra (W_n w)) 1 q) (ra (W_n w)) 2 fr) (ra (W_n w)) 3 (W_no w)) (ra (W_n w)) 4 0) (ra (W_n w)) 5 0).1 = 212 := f1
  (refine w_fz fun B hB C hC => ?_); (simp only [f_mkF, w_sI, w_sR, w_sL, w_sC, w_sk, w_sbr, w_sco, w_rV, w_rI, w_rR, w_rL, w_dI, w_sO, w_sq, w_si, w_pI, w_pZ, w_pR, w_pU, w_qI, w_qB, w_qZ, w_qU, w_qR, w_kV, q_icst, q_lcst, q_xR, q_ldI, q_ldR, q_ldL, q_bn, q_un, q_dv, q_fI, q_fR, q_aI, q_aR, q_aN, q_tn, q_cmp, q_cmz, q_cnt, q_ctt, q_cand, q_cor, q_vn, q_vI, q_vR, q_vL, q_kI, q_kR, q_kL, q_ckI, envN, argE, List.flatMap_cons, List.flatMap_nil, Value.category, junk, oadd, osub, omul, oand, oor, oxor, odiv, orem, oshl, oshr, oushr, omax, omin]); (simp (disch := first | omega | simp) [rk_i, rk_b, rk_o, st1, kill, Value.category, rcv, nog, inI_b, nI_clamp, nI_ltI, nI_leI, nI_eq, nI_9, nI_6, nI_22, nI_12, nI_180, nI_add, nI_1, f1'', u5, u4, fq_of (e_x_knows (ra (W_n w)) 0 0 _ f1'' u5 u4)]); (subst hB hC)
  obtain ⟨th2, g2, r2⟩ := x_add th hj (by omega) 5 q fr (W_no w) 0 0 0 0 h1 f1 f2 f3 f4
  have fr2 : ∀ a k, (wI (wI (wI (wI (wI (wI (wI (wI h1 (ra (W_n w)) 0 5) (ra (W_n w)) 1 q) (ra (W_n w)) 2 fr) (ra (W_n w)) 3 (W_no w)) (ra (W_n w)) 4 0) (ra (W_n w)) 5 0) (ra (W_n w)) 6 0) (ra (W_n w)) 7 0).2.2 a k = h1.2.2 a k := fun a k => rfl
  generalize wI (wI (wI (wI (wI (wI (wI (wI h1 (ra (W_n w)) 0 5) (ra (W_n w)) 1 q) (ra (W_n w)) 2 fr) (ra (W_n w)) 3 (W_no w)) (ra (W_n w)) 4 0) (ra (W_n w)) 5 0) (ra (W_n w)) 6 0) (ra (W_n w)) 7 0 = h2 at *
  have hn2 := th2.1.1
  have a72 := th2.2.1.1
  have q2 : h2.2.2 0 2 = some 3 := by rw [fr2, f4 0 2 (by omega)]; exact p2
  have q1 : h2.2.2 3 t = some T := by rw [fr2, f4 3 t (by omega)]; exact p1
  refine w_fz fun B hB C hC => ?_
  simp only [f_mkF, w_sI, w_sR, w_sL, w_sC, w_sk, w_sbr, w_sco, w_rV, w_rI, w_rR, w_rL, w_dI, w_sO, w_sq, w_si, w_pI, w_pZ, w_pR, w_pU, w_qI, w_qB, w_qZ, w_qU, w_qR, w_kV, q_icst, q_lcst, q_xR, q_ldI, q_ldR, q_ldL, q_bn, q_un, q_dv, q_fI, q_fR, q_aI, q_aR, q_aN, q_tn, q_cmp, q_cmz, q_cnt, q_ctt, q_cand, q_cor, q_vn, q_vI, q_vR, q_vL, q_kI, q_kR, q_kL, q_ckI, envN, argE, List.flatMap_cons, List.flatMap_nil, Value.category, junk, oadd, osub, omul, oand, oor, oxor, odiv, orem, oshl, oshr, oushr, omax, omin]
  simp (disch := first | omega | simp) [rk_i, rk_b, rk_o, st1, kill, Value.category, rcv, nog, inI_b, nI_clamp, nI_ltI, nI_leI, nI_eq, nI_9, nI_6, nI_22, nI_12, nI_180, nI_add, nI_1, hn2, ly0, ly3, q2, q1, p3, ht, a72, t6]
  refine fq_mono (e_x_insert th2 (Nat.le_refl _) (by omega)) ?_
  rintro r h3 ⟨rfl, k1, k2, k3, k4⟩
  simp [rk_i, rk_b, rk_o, st1, kill, Value.category, rcv, nog]
  subst hB hC
  have e13 : ∀ x k, x ≠ T → h3.2.1 x k = h2.2.1 x k := fun x k z => by rw [k2, wI_i, if_neg (fun y => z y.1)]
  have g13 : h3.2.1 0 12 = W_no w := by rw [e13 0 12 (by omega), g2 0 12 (by omega) (by omega)]; exact h12
  have g1w : h3.2.1 T 2 = W_wo w := by
    rw [k2, wI_i, if_neg (by omega), g2 T 2 (by omega) (by omega)]
    exact y.2.2.1.1
  have q2' : h3.2.2 0 2 = some 3 := by rw [k4 0 2 (by omega)]; exact q2
  have q1' : h3.2.2 3 t = some T := by rw [k4 3 t (by omega)]; exact q1
  (refine w_fz fun B hB C hC => ?_); (simp only [f_mkF, w_sI, w_sR, w_sL, w_sC, w_sk, w_sbr, w_sco, w_rV, w_rI, w_rR, w_rL, w_dI, w_sO, w_sq, w_si, w_pI, w_pZ, w_pR, w_pU, w_qI, w_qB, w_qZ, w_qU, w_qR, w_kV, q_icst, q_lcst, q_xR, q_ldI, q_ldR, q_ldL, q_bn, q_un, q_dv, q_fI, q_fR, q_aI, q_aR, q_aN, q_tn, q_cmp, q_cmz, q_cnt, q_ctt, q_cand, q_cor, q_vn, q_vI, q_vR, q_vL, q_kI, q_kR, q_kL, q_ckI, envN, argE, List.flatMap_cons, List.flatMap_nil, Value.category, junk, oadd, osub, omul, oand, oor, oxor, odiv, orem, oshl, oshr, oushr, omax, omin]); (simp (disch := first | omega | simp) [rk_i, rk_b, rk_o, st1, kill, Value.category, rcv, nog, inI_b, nI_clamp, nI_ltI, nI_leI, nI_eq, nI_9, nI_6, nI_22, nI_12, nI_180, nI_add, nI_1, k1, ly0, v5, v4, g13, fq_of (e_x_goes (ra (W_n w + 1)) 0 p fr (W_no w) h3 k1 v5 v4)]); (subst hB hC)
  have k1' : (wI (wI (wI (wI h3 (ra (W_n w + 1)) 0 0) (ra (W_n w + 1)) 1 p) (ra (W_n w + 1)) 2 fr) (ra (W_n w + 1)) 3 (W_no w)).1 = 212 := k1
  have hTv : ¬ T = ra (W_n w + 1) := by omega
  (refine w_fz fun B hB C hC => ?_); (simp only [f_mkF, w_sI, w_sR, w_sL, w_sC, w_sk, w_sbr, w_sco, w_rV, w_rI, w_rR, w_rL, w_dI, w_sO, w_sq, w_si, w_pI, w_pZ, w_pR, w_pU, w_qI, w_qB, w_qZ, w_qU, w_qR, w_kV, q_icst, q_lcst, q_xR, q_ldI, q_ldR, q_ldL, q_bn, q_un, q_dv, q_fI, q_fR, q_aI, q_aR, q_aN, q_tn, q_cmp, q_cmz, q_cnt, q_ctt, q_cand, q_cor, q_vn, q_vI, q_vR, q_vL, q_kI, q_kR, q_kL, q_ckI, envN, argE, List.flatMap_cons, List.flatMap_nil, Value.category, junk, oadd, osub, omul, oand, oor, oxor, odiv, orem, oshl, oshr, oushr, omax, omin]); (simp (disch := first | omega | simp) [rk_i, rk_b, rk_o, st1, kill, Value.category, rcv, nog, inI_b, nI_clamp, nI_ltI, nI_leI, nI_eq, nI_9, nI_6, nI_22, nI_12, nI_180, nI_add, nI_1, k1', k1, ly0, ly3, v5, v4, t6, p3, ht, q2', q1', wI_1, wI_r, wI_i, hTv, g1w, fq_of (e_x_costs (ra (W_n w + 1)) (W_wo w) 3 _ k1' v5 v4)]); (subst hB hC)
  have k1'' : (wI (wI (wI (wI (wI (wI h3 (ra (W_n w + 1)) 0 0) (ra (W_n w + 1)) 1 p) (ra (W_n w + 1)) 2 fr) (ra (W_n w + 1)) 3 (W_no w)) (ra (W_n w + 1)) 4 (W_wo w)) (ra (W_n w + 1)) 5 3).1 = 212 := k1
  (refine w_fz fun B hB C hC => ?_); (simp only [f_mkF, w_sI, w_sR, w_sL, w_sC, w_sk, w_sbr, w_sco, w_rV, w_rI, w_rR, w_rL, w_dI, w_sO, w_sq, w_si, w_pI, w_pZ, w_pR, w_pU, w_qI, w_qB, w_qZ, w_qU, w_qR, w_kV, q_icst, q_lcst, q_xR, q_ldI, q_ldR, q_ldL, q_bn, q_un, q_dv, q_fI, q_fR, q_aI, q_aR, q_aN, q_tn, q_cmp, q_cmz, q_cnt, q_ctt, q_cand, q_cor, q_vn, q_vI, q_vR, q_vL, q_kI, q_kR, q_kL, q_ckI, envN, argE, List.flatMap_cons, List.flatMap_nil, Value.category, junk, oadd, osub, omul, oand, oor, oxor, odiv, orem, oshl, oshr, oushr, omax, omin]); (simp (disch := first | omega | simp) [rk_i, rk_b, rk_o, st1, kill, Value.category, rcv, nog, inI_b, nI_clamp, nI_ltI, nI_leI, nI_eq, nI_9, nI_6, nI_22, nI_12, nI_180, nI_add, nI_1, k1'', v5, v4, fq_of (e_x_knows (ra (W_n w + 1)) 0 0 _ k1'' v5 v4)]); (subst hB hC)
  obtain ⟨th4, g4, r4⟩ := x_add th2 hj (by omega) 0 p fr (W_no w) (W_wo w) 3 0 0 h3 k1 k2 k3 k4
  have fr4 : ∀ a k, (wI (wI (wI (wI (wI (wI (wI (wI h3 (ra (W_n w + 1)) 0 0) (ra (W_n w + 1)) 1 p) (ra (W_n w + 1)) 2 fr) (ra (W_n w + 1)) 3 (W_no w)) (ra (W_n w + 1)) 4 (W_wo w)) (ra (W_n w + 1)) 5 3) (ra (W_n w + 1)) 6 0) (ra (W_n w + 1)) 7 0).2.2 a k = h3.2.2 a k := fun a k => rfl
  generalize wI (wI (wI (wI (wI (wI (wI (wI h3 (ra (W_n w + 1)) 0 0) (ra (W_n w + 1)) 1 p) (ra (W_n w + 1)) 2 fr) (ra (W_n w + 1)) 3 (W_no w)) (ra (W_n w + 1)) 4 (W_wo w)) (ra (W_n w + 1)) 5 3) (ra (W_n w + 1)) 6 0) (ra (W_n w + 1)) 7 0 = h4 at *
  rw [w_rR, q_ldR]
  have hrf : ∀ a k, a ≠ T + 1 → h4.2.2 a k = h.2.2 a k := fun a k z => by rw [fr4, k4 a k z, fr2, f4 a k z]
  have hfs : Fs T ra (W_n w) h h4 := ⟨th4.1.1.trans hn.symm, hrf, fun i hi => (th4.2.2.1 i hi).1, fun a k z1 z2 z3 => by rw [g4 a k z2 z3, g2 a k z1 z3]⟩
  refine ⟨_, rfl, Or.inr ⟨rfl, rfl, rfl, hfs, th4.ex fun i k hi hk => ?_, ?_⟩⟩
  · unfold stR
    by_cases c1 : i = W_n w + 1
    · rw [if_pos c1, if_neg (by omega), if_neg (by omega)]
    · rw [if_neg c1]
      by_cases c2 : i = W_n w
      · rw [if_pos c2, if_neg (by omega), if_pos c2]
      · rw [if_neg c2, if_pos (by omega)]
  · refine ⟨th4.1.1, fun x hx => ?_, fun k => ?_⟩
    · have s := spl_n x hx
      rw [hrf _ _ (by omega)]; exact hp.2.1 x hx
    · rw [hrf _ _ (by omega)]; exact hp.2.2 k
theorem Fs.w {T : Nat} {ra : Nat → Nat} {n : Nat} {h h' : Hp} (f : Fs T ra n h h') {k : Nat} {v : Int32} : Fs T ra n h (wI h' (ra (n + 1)) k v) := by
  obtain ⟨f1, f2, f3, f4⟩ := f
  refine ⟨f1, f2, f3, fun a j z1 z2 z3 => ?_⟩
  rw [wI_i, if_neg (fun y => z2 y.1)]
  exact f4 a j z1 z2 z3
theorem TH.land {w : Wd} {T : Nat} {ra : Nat → Nat} {h : Hp} (hj : ∀ i j, i < 20 → j < 20 → ra i = ra j → i = j) (h18 : W_n w ≤ 18) {q p fr l0 l : Int32} (th : TH h T ra (W_n w + 2) (stR (W_R w) (W_n w) q p fr l0 (W_no w) (W_wo w))) : TH (wI h (ra (W_n w + 1)) 2 l) T ra (W_n w + 2) (stR (W_R w) (W_n w) q p fr l (W_no w) (W_wo w)) := by
  obtain ⟨⟨hn, t1, t2, t3, t4, t5⟩, ⟨n1, n2⟩, r1, r2⟩ := th
  have v := r1 (W_n w + 1) (by omega)
  refine ⟨⟨hn, t1, t2, t3, t4, t5⟩, ⟨by rw [wI_i, if_neg (by omega)]; exact n1, n2⟩, r1, fun i k hi hk => ?_⟩
  rw [wI_i]
  by_cases c : i = W_n w + 1
  · subst c
    by_cases c2 : k = 2
    · subst c2
      rw [if_pos ⟨rfl, rfl⟩]
      unfold stR
      rw [if_neg (by omega), if_neg (by omega)]
      rfl
    · rw [if_neg (fun y => c2 y.2), r2 (W_n w + 1) k hi hk]
      unfold stR
      rw [if_neg (by omega), if_neg (by omega), if_neg (by omega), if_neg (by omega)]
      match k, hk, c2 with
      | 0, _, _ => rfl
      | 1, _, _ => rfl
      | 2, _, c2 => exact absurd rfl c2
      | 3, _, _ => rfl
      | 4, _, _ => rfl
      | 5, _, _ => rfl
      | 6, _, _ => rfl
      | 7, _, _ => rfl
  · rw [if_neg (fun y => c (hj i (W_n w + 1) (by omega) (by omega) y.1)), r2 i k hi hk]
    unfold stR
    by_cases c1 : i < W_n w
    · rw [if_pos c1, if_pos c1]
    · rw [if_neg c1, if_neg c1, if_pos (by omega), if_pos (by omega)]
