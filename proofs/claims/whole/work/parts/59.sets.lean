/-! sets of lands: the class -/
theorem w_sLe {i : Nat} {a : DL} {E E' : En} {h : Hp} {Q : Nat → Value → En → Hp → Prop} (v : Int64) (ha : ev a E h fun x h1 => x = v ∧ h1 = h) (hE : st2 E i (.long v) = E') (hb : Q 0 .null E' h) : wp (sL i a) E h Q := by
  rw [w_sL]
  refine ev_mono ha ?_
  rintro x h1 ⟨rfl, rfl⟩
  rw [hE]
  exact hb
theorem w_sqL {i : Nat} {a : DL} {b : Sm} {E E' : En} {h : Hp} {Q : Nat → Value → En → Hp → Prop} (v : Int64) (ha : ev a E h fun x h1 => x = v ∧ h1 = h) (hE : st2 E i (.long v) = E') (hb : wp b E' h Q) : wp (sq (sL i a) b) E h Q := by
  refine w_sqN ?_
  rw [w_sL]
  refine ev_mono ha ?_
  rintro x h1 ⟨rfl, rfl⟩
  rw [hE]
  exact ⟨rfl, hb⟩
theorem q_kLe {g : List Value → Hp → Bool} {F : FN} {a : DA} {E : En} {h : Hp} {P : Int64 → Hp → Prop} (vs : List Value) (ha : ev a E h fun x h1 => x = vs ∧ h1 = h) (hg : g vs h = true) (hf : fq F vs h fun r h2 => ∃ x, r = some (.long x) ∧ P x h2) : ev (kL g F a) E h P := by
  rw [q_kL]
  refine ev_mono ha ?_
  rintro x h1 ⟨rfl, rfl⟩
  exact ⟨hg, hf⟩
theorem nA_k : ∀ A, A < 64 → ∀ s, s < 64 → (oand (nI s) (oxor (nI A) (-1)) = 0 ↔ s &&& A = s) := by decide +kernel
theorem slm_s (D : Nat → LDt) (l : Nat) : slm D (l + 1) = if hasN (D l) 0 (lCn (D l)) = true then slm D l ||| 2 ^ l else slm D l := rfl
theorem x_sales {h : Hp} (hp : Ip h) {D : Nat → LDt} (hD : ∀ l, l < 6 → WD (D l) ∧ ∃ la, h.2.2 4 l = some la ∧ lawA la ∧ LX h la (D l)) : fq F_X10_setsOfLandsWithSales [.ref 0] h fun r h' => h' = h ∧ ∃ x, r = some (.long x) ∧ ∀ s, s < 64 → BT x s = decide (s &&& slm D 6 = s) := by
  have hn := hp.1
  have p3 : h.2.2 0 3 = some 4 := hp.2.1.at 3 rfl
  have k6 : (6 : Int32) = nI 6 := rfl
  have k64 : (64 : Int32) = nI 64 := rfl
  have hA := (slm_ok D 6 (by omega)).1
  unfold F_X10_setsOfLandsWithSales
  refine f_mkE [.ref 0, junk, junk, junk, junk] rfl (by simp [argE, Value.category]) ?_
  refine w_sqI (E' := [.ref 0, .int (nI 0), junk, junk, junk]) (nI 0) (by simp only [f_mkF, w_sI, w_sR, w_sL, w_sC, w_sk, w_sbr, w_sco, w_rV, w_rI, w_rR, w_rL, w_dI, w_sO, w_sq, w_si, w_pI, w_pZ, w_pR, w_pU, w_qI, w_qB, w_qZ, w_qU, w_qR, w_kV, q_icst, q_lcst, q_xR, q_ldI, q_ldR, q_ldL, q_bn, q_un, q_dv, q_fI, q_fR, q_aI, q_aR, q_aN, q_tn, q_cmp, q_cmz, q_cnt, q_ctt, q_cand, q_cor, q_vn, q_vI, q_vR, q_vL, q_kI, q_kR, q_kL, q_ckI, envN, argE, List.flatMap_cons, List.flatMap_nil, Value.category, junk, oadd, osub, omul, oand, oor, oxor, odiv, orem, oshl, oshr, oushr, omax, omin]; simp [nI_0]) rfl ?_
  refine w_sqS (fun E1 h1 => h1 = h ∧ ∃ v2, E1 = [.ref 0, .int (nI (slm D 6)), .int v2, junk, junk]) ?_ ?_
  · refine w_sqI (E' := [.ref 0, .int (nI 0), .int (nI 0), junk, junk]) (nI 0) (by simp only [f_mkF, w_sI, w_sR, w_sL, w_sC, w_sk, w_sbr, w_sco, w_rV, w_rI, w_rR, w_rL, w_dI, w_sO, w_sq, w_si, w_pI, w_pZ, w_pR, w_pU, w_qI, w_qB, w_qZ, w_qU, w_qR, w_kV, q_icst, q_lcst, q_xR, q_ldI, q_ldR, q_ldL, q_bn, q_un, q_dv, q_fI, q_fR, q_aI, q_aR, q_aN, q_tn, q_cmp, q_cmz, q_cnt, q_ctt, q_cand, q_cor, q_vn, q_vI, q_vR, q_vL, q_kI, q_kR, q_kL, q_ckI, envN, argE, List.flatMap_cons, List.flatMap_nil, Value.category, junk, oadd, osub, omul, oand, oor, oxor, odiv, orem, oshl, oshr, oushr, omax, omin]; simp [nI_0]) rfl ?_
    refine w_lp (fun k E h' => h' = h ∧ ∃ l, k = 6 - l ∧ l ≤ 6 ∧ E = [.ref 0, .int (nI (slm D l)), .int (nI l), junk, junk]) ?_ 6 _ _ ⟨rfl, 0, rfl, by omega, rfl⟩
    rintro k E h' ⟨rfl, l, rfl, hl, rfl⟩
    by_cases hl6 : l < 6
    · refine ev_T ?_ ⟨fun z => (by cases z), fun _ => ?_⟩
      · simp only [f_mkF, w_sI, w_sR, w_sL, w_sC, w_sk, w_sbr, w_sco, w_rV, w_rI, w_rR, w_rL, w_dI, w_sO, w_sq, w_si, w_pI, w_pZ, w_pR, w_pU, w_qI, w_qB, w_qZ, w_qU, w_qR, w_kV, q_icst, q_lcst, q_xR, q_ldI, q_ldR, q_ldL, q_bn, q_un, q_dv, q_fI, q_fR, q_aI, q_aR, q_aN, q_tn, q_cmp, q_cmz, q_cnt, q_ctt, q_cand, q_cor, q_vn, q_vI, q_vR, q_vL, q_kI, q_kR, q_kL, q_ckI, envN, argE, List.flatMap_cons, List.flatMap_nil, Value.category, junk, oadd, osub, omul, oand, oor, oxor, odiv, orem, oshl, oshr, oushr, omax, omin]
        simp (disch := first | omega | simp) [rk_i, rk_b, rk_o, st1, kill, Value.category, rcv, nog, inI_b, nI_clamp, nI_ltI, nI_leI, nI_eq, nI_9, nI_6, nI_22, nI_12, nI_180, nI_add, nI_1, k6, hl6]
      obtain ⟨wd, la, d1, d2, d3⟩ := hD l hl6
      obtain ⟨-, ⟨y0, -⟩, yb⟩ := law_p hp d2
      have ya : la < 212 := by omega
      have eh := x_has hp d2 wd d3 (lt := 0) (by omega)
      rw [nI_0] at eh
      have sl := (slm_ok D l (by omega)).1
      have hgo : ∀ A', A' = slm D (l + 1) → wp (sC 2 1) [.ref 0, .int (nI A'), .int (nI l), junk, junk] h' fun o2 _ E2 h3 => o2 = 0 ∧ ∃ k2, k2 < 6 - l ∧ h3 = h' ∧ ∃ l, k2 = 6 - l ∧ l ≤ 6 ∧ E2 = [.ref 0, .int (nI (slm D l)), .int (nI l), junk, junk] := by
        intro A' hA'
        subst hA'
        refine w_sCe (nI l) (nI (l + 1)) rfl (nI_1 _) rfl ⟨rfl, 6 - (l + 1), by omega, rfl, l + 1, rfl, by omega, rfl⟩
      by_cases c : hasN (D l) 0 (lCn (D l)) = true
      · refine (w_siT ?_).mpr ?_
        · simp only [f_mkF, w_sI, w_sR, w_sL, w_sC, w_sk, w_sbr, w_sco, w_rV, w_rI, w_rR, w_rL, w_dI, w_sO, w_sq, w_si, w_pI, w_pZ, w_pR, w_pU, w_qI, w_qB, w_qZ, w_qU, w_qR, w_kV, q_icst, q_lcst, q_xR, q_ldI, q_ldR, q_ldL, q_bn, q_un, q_dv, q_fI, q_fR, q_aI, q_aR, q_aN, q_tn, q_cmp, q_cmz, q_cnt, q_ctt, q_cand, q_cor, q_vn, q_vI, q_vR, q_vL, q_kI, q_kR, q_kL, q_ckI, envN, argE, List.flatMap_cons, List.flatMap_nil, Value.category, junk, oadd, osub, omul, oand, oor, oxor, odiv, orem, oshl, oshr, oushr, omax, omin]
          simp (disch := first | omega | simp) [rk_i, rk_b, rk_o, st1, kill, Value.category, rcv, nog, inI_b, nI_clamp, nI_ltI, nI_leI, nI_eq, nI_9, nI_6, nI_22, nI_12, nI_180, nI_add, nI_1, hn, ly0, ly4, p3, hl6, d1, ya, y0, fq_of eh, c, b2]
        · refine w_sIe (nI (slm D l ||| 2 ^ l)) ?_ rfl ⟨fun _ => hgo _ (by rw [slm_s, if_pos c]), (fun z => by cases z), fun z => absurd rfl z⟩
          rw [← (mskA _ sl l hl6).2.2.1]
          simp only [q_bn, q_ldI, q_icst]
          exact ⟨_, rfl, _, rfl, rfl, by first | rfl | trivial⟩
      · refine (w_siF ?_).mpr (w_sk.mpr ⟨fun _ => hgo _ (by rw [slm_s, if_neg c]), (fun z => by cases z), fun z => absurd rfl z⟩)
        simp only [f_mkF, w_sI, w_sR, w_sL, w_sC, w_sk, w_sbr, w_sco, w_rV, w_rI, w_rR, w_rL, w_dI, w_sO, w_sq, w_si, w_pI, w_pZ, w_pR, w_pU, w_qI, w_qB, w_qZ, w_qU, w_qR, w_kV, q_icst, q_lcst, q_xR, q_ldI, q_ldR, q_ldL, q_bn, q_un, q_dv, q_fI, q_fR, q_aI, q_aR, q_aN, q_tn, q_cmp, q_cmz, q_cnt, q_ctt, q_cand, q_cor, q_vn, q_vI, q_vR, q_vL, q_kI, q_kR, q_kL, q_ckI, envN, argE, List.flatMap_cons, List.flatMap_nil, Value.category, junk, oadd, osub, omul, oand, oor, oxor, odiv, orem, oshl, oshr, oushr, omax, omin]
        simp (disch := first | omega | simp) [rk_i, rk_b, rk_o, st1, kill, Value.category, rcv, nog, inI_b, nI_clamp, nI_ltI, nI_leI, nI_eq, nI_9, nI_6, nI_22, nI_12, nI_180, nI_add, nI_1, hn, ly0, ly4, p3, hl6, d1, ya, y0, fq_of eh, c, b2]
    · have : l = 6 := by omega
      subst this
      refine ev_F ?_ ⟨fun _ => ⟨rfl, rfl, _, rfl⟩, fun z => (by cases z)⟩
      simp only [f_mkF, w_sI, w_sR, w_sL, w_sC, w_sk, w_sbr, w_sco, w_rV, w_rI, w_rR, w_rL, w_dI, w_sO, w_sq, w_si, w_pI, w_pZ, w_pR, w_pU, w_qI, w_qB, w_qZ, w_qU, w_qR, w_kV, q_icst, q_lcst, q_xR, q_ldI, q_ldR, q_ldL, q_bn, q_un, q_dv, q_fI, q_fR, q_aI, q_aR, q_aN, q_tn, q_cmp, q_cmz, q_cnt, q_ctt, q_cand, q_cor, q_vn, q_vI, q_vR, q_vL, q_kI, q_kR, q_kL, q_ckI, envN, argE, List.flatMap_cons, List.flatMap_nil, Value.category, junk, oadd, osub, omul, oand, oor, oxor, odiv, orem, oshl, oshr, oushr, omax, omin]
      simp (disch := first | omega | simp) [rk_i, rk_b, rk_o, st1, kill, Value.category, rcv, nog, inI_b, nI_clamp, nI_ltI, nI_leI, nI_eq, nI_9, nI_6, nI_22, nI_12, nI_180, nI_add, nI_1, k6]
  rintro E1 h1 ⟨rfl, v2, rfl⟩
  refine w_sqL (E' := [.ref 0, .int (nI (slm D 6)), .long 0, junk, junk]) 0 (by simp only [f_mkF, w_sI, w_sR, w_sL, w_sC, w_sk, w_sbr, w_sco, w_rV, w_rI, w_rR, w_rL, w_dI, w_sO, w_sq, w_si, w_pI, w_pZ, w_pR, w_pU, w_qI, w_qB, w_qZ, w_qU, w_qR, w_kV, q_icst, q_lcst, q_xR, q_ldI, q_ldR, q_ldL, q_bn, q_un, q_dv, q_fI, q_fR, q_aI, q_aR, q_aN, q_tn, q_cmp, q_cmz, q_cnt, q_ctt, q_cand, q_cor, q_vn, q_vI, q_vR, q_vL, q_kI, q_kR, q_kL, q_ckI, envN, argE, List.flatMap_cons, List.flatMap_nil, Value.category, junk, oadd, osub, omul, oand, oor, oxor, odiv, orem, oshl, oshr, oushr, omax, omin]; simp) rfl ?_
  refine w_sq.mpr ?_
  refine w_sqI (E' := [.ref 0, .int (nI (slm D 6)), .long 0, junk, .int (nI 0)]) (nI 0) (by simp only [f_mkF, w_sI, w_sR, w_sL, w_sC, w_sk, w_sbr, w_sco, w_rV, w_rI, w_rR, w_rL, w_dI, w_sO, w_sq, w_si, w_pI, w_pZ, w_pR, w_pU, w_qI, w_qB, w_qZ, w_qU, w_qR, w_kV, q_icst, q_lcst, q_xR, q_ldI, q_ldR, q_ldL, q_bn, q_un, q_dv, q_fI, q_fR, q_aI, q_aR, q_aN, q_tn, q_cmp, q_cmz, q_cnt, q_ctt, q_cand, q_cor, q_vn, q_vI, q_vR, q_vL, q_kI, q_kR, q_kL, q_ckI, envN, argE, List.flatMap_cons, List.flatMap_nil, Value.category, junk, oadd, osub, omul, oand, oor, oxor, odiv, orem, oshl, oshr, oushr, omax, omin]; simp [nI_0]) rfl ?_
  generalize slm D 6 = A at *
  refine wp_mono (w_lp (Q := fun o _ E1 h' => o = 0 ∧ h' = h1 ∧ ∃ x, E1[2]? = some (.long x) ∧ ∀ s, s < 64 → BT x s = decide (s &&& A = s)) (fun k E h' => h' = h1 ∧ ∃ s x, k = 64 - s ∧ s ≤ 64 ∧ E = [.ref 0, .int (nI A), .long x, junk, .int (nI s)] ∧ ∀ s', s' < 64 → BT x s' = decide (s' < s ∧ s' &&& A = s')) ?_ 64 _ _ ⟨rfl, 0, 0, rfl, by omega, rfl, fun s' _ => by rw [BT_0]; simp⟩) ?_
  · rintro k E h' ⟨rfl, s, x, rfl, hs, rfl, hx⟩
    by_cases hs6 : s < 64
    · refine ev_T ?_ ⟨fun z => (by cases z), fun _ => ?_⟩
      · simp only [f_mkF, w_sI, w_sR, w_sL, w_sC, w_sk, w_sbr, w_sco, w_rV, w_rI, w_rR, w_rL, w_dI, w_sO, w_sq, w_si, w_pI, w_pZ, w_pR, w_pU, w_qI, w_qB, w_qZ, w_qU, w_qR, w_kV, q_icst, q_lcst, q_xR, q_ldI, q_ldR, q_ldL, q_bn, q_un, q_dv, q_fI, q_fR, q_aI, q_aR, q_aN, q_tn, q_cmp, q_cmz, q_cnt, q_ctt, q_cand, q_cor, q_vn, q_vI, q_vR, q_vL, q_kI, q_kR, q_kL, q_ckI, envN, argE, List.flatMap_cons, List.flatMap_nil, Value.category, junk, oadd, osub, omul, oand, oor, oxor, odiv, orem, oshl, oshr, oushr, omax, omin]
        simp (disch := first | omega | simp) [rk_i, rk_b, rk_o, st1, kill, Value.category, rcv, nog, inI_b, nI_clamp, nI_ltI, nI_leI, nI_eq, nI_9, nI_6, nI_22, nI_12, nI_180, nI_add, nI_1, k64, hs6]
      have nk := nA_k A hA s hs6
      have hcond : ev (cnt (cmz zne (bn oand (ldI 4) (bn oxor (ldI 1) (icst (-1)))))) [.ref 0, .int (nI A), .long x, junk, .int (nI s)] h' fun t h2 => t = decide (s &&& A = s) ∧ h2 = h' := by
        simp only [q_cnt, q_cmz, q_bn, q_ldI, q_icst]
        refine ⟨_, rfl, _, rfl, ?_, by first | rfl | trivial⟩
        by_cases c : s &&& A = s
        · have := nk.mpr c
          rw [this]
          simp [c]
        · have : ¬ oand (nI s) (oxor (nI A) (-1)) = 0 := fun z => c (nk.mp z)
          generalize oand (nI s) (oxor (nI A) (-1)) = zz at *
          simp [this, c]
      have hgo : ∀ x', (∀ s', s' < 64 → BT x' s' = decide (s' < s + 1 ∧ s' &&& A = s')) → wp (sC 4 1) [.ref 0, .int (nI A), .long x', junk, .int (nI s)] h' fun o2 _ E2 h3 => o2 = 0 ∧ ∃ k2, k2 < 64 - s ∧ h3 = h' ∧ ∃ s x, k2 = 64 - s ∧ s ≤ 64 ∧ E2 = [.ref 0, .int (nI A), .long x, junk, .int (nI s)] ∧ ∀ s', s' < 64 → BT x s' = decide (s' < s ∧ s' &&& A = s') := fun x' hx' => w_sCe (nI s) (nI (s + 1)) rfl (nI_1 _) rfl ⟨rfl, 64 - (s + 1), by omega, rfl, s + 1, x', rfl, by omega, rfl, hx'⟩
      refine w_siN _ hcond (fun c => ?_) (fun c => ?_)
      · rw [decide_eq_true_iff] at c
        refine w_sLe (olor x (olshl 1 (nI s))) (by simp only [q_bn, q_ldL, q_ldI, q_lcst]; exact ⟨_, rfl, _, rfl, rfl, by first | rfl | trivial⟩) rfl ⟨fun _ => hgo _ fun s' hs' => ?_, (fun z => by cases z), fun z => absurd rfl z⟩
        rw [BT_or hs6 hs', hx s' hs']
        by_cases z : s' = s
        · subst z; simp [c]
        · by_cases z2 : s' < s
          · have : s' < s + 1 := by omega
            simp [z, z2, this]
          · have : ¬ s' < s + 1 := by omega
            simp [z, z2, this]
      · rw [decide_eq_false_iff_not] at c
        rw [w_sk]
        refine ⟨fun _ => hgo _ fun s' hs' => ?_, (fun z => by cases z), fun z => absurd rfl z⟩
        rw [hx s' hs']
        by_cases z : s' = s
        · subst z; simp [c]
        · by_cases z2 : s' < s
          · have : s' < s + 1 := by omega
            simp [z2, this]
          · have : ¬ s' < s + 1 := by omega
            simp [z2, this]
    · have : s = 64 := by omega
      subst this
      refine ev_F ?_ ⟨fun _ => ⟨rfl, rfl, x, rfl, fun s hs => by rw [hx s hs]; simp [hs]⟩, fun z => (by cases z)⟩
      simp only [f_mkF, w_sI, w_sR, w_sL, w_sC, w_sk, w_sbr, w_sco, w_rV, w_rI, w_rR, w_rL, w_dI, w_sO, w_sq, w_si, w_pI, w_pZ, w_pR, w_pU, w_qI, w_qB, w_qZ, w_qU, w_qR, w_kV, q_icst, q_lcst, q_xR, q_ldI, q_ldR, q_ldL, q_bn, q_un, q_dv, q_fI, q_fR, q_aI, q_aR, q_aN, q_tn, q_cmp, q_cmz, q_cnt, q_ctt, q_cand, q_cor, q_vn, q_vI, q_vR, q_vL, q_kI, q_kR, q_kL, q_ckI, envN, argE, List.flatMap_cons, List.flatMap_nil, Value.category, junk, oadd, osub, omul, oand, oor, oxor, odiv, orem, oshl, oshr, oushr, omax, omin]
      simp (disch := first | omega | simp) [rk_i, rk_b, rk_o, st1, kill, Value.category, rcv, nog, inI_b, nI_clamp, nI_ltI, nI_leI, nI_eq, nI_9, nI_6, nI_22, nI_12, nI_180, nI_add, nI_1, k64]
  · rintro o v E1 h2 ⟨rfl, rfl, x, e2, hx⟩
    refine ⟨fun _ => ?_, fun z => absurd rfl z⟩
    rw [w_rL, q_ldL]
    exact ⟨x, e2, Or.inr ⟨rfl, rfl, rfl, x, rfl, hx⟩⟩
def SXs (a k : Nat) : Prop := SX a k ∨ (a = 147 ∧ k = 14)
theorem x_give {w : Wd} {T : Nat} {ra : Nat → Nat} {h : Hp} (q : CX w T ra h) (tc : TC w h) (x : Int64) (p : Int32) (wn : Bool) : fq F_X10_setsThatGive [.ref 0, .long x, .int p, .int (b2 (wn = true))] h fun r h' => (∃ y, r = some (.long y) ∧ ∀ s, s < 64 → BT y s = (BT x s && (decide (whz w s = p) == wn))) ∧ Fr SXs h h' ∧ CX w T ra h' ∧ TC w h' := by
  have k64 : (64 : Int32) = nI 64 := rfl
  unfold F_X10_setsThatGive
  refine f_mkE [.ref 0, .long x, junk, .int p, .int (b2 (wn = true)), junk, junk, junk] rfl (by simp [argE, Value.category]) ?_
  refine w_sqL (E' := [.ref 0, .long x, junk, .int p, .int (b2 (wn = true)), .long x, junk, junk]) x (by simp only [f_mkF, w_sI, w_sR, w_sL, w_sC, w_sk, w_sbr, w_sco, w_rV, w_rI, w_rR, w_rL, w_dI, w_sO, w_sq, w_si, w_pI, w_pZ, w_pR, w_pU, w_qI, w_qB, w_qZ, w_qU, w_qR, w_kV, q_icst, q_lcst, q_xR, q_ldI, q_ldR, q_ldL, q_bn, q_un, q_dv, q_fI, q_fR, q_aI, q_aR, q_aN, q_tn, q_cmp, q_cmz, q_cnt, q_ctt, q_cand, q_cor, q_vn, q_vI, q_vR, q_vL, q_kI, q_kR, q_kL, q_ckI, envN, argE, List.flatMap_cons, List.flatMap_nil, Value.category, junk, oadd, osub, omul, oand, oor, oxor, odiv, orem, oshl, oshr, oushr, omax, omin]; simp) rfl ?_
  refine w_sq.mpr ?_
  refine w_sqI (E' := [.ref 0, .long x, junk, .int p, .int (b2 (wn = true)), .long x, junk, .int (nI 0)]) (nI 0) (by simp only [f_mkF, w_sI, w_sR, w_sL, w_sC, w_sk, w_sbr, w_sco, w_rV, w_rI, w_rR, w_rL, w_dI, w_sO, w_sq, w_si, w_pI, w_pZ, w_pR, w_pU, w_qI, w_qB, w_qZ, w_qU, w_qR, w_kV, q_icst, q_lcst, q_xR, q_ldI, q_ldR, q_ldL, q_bn, q_un, q_dv, q_fI, q_fR, q_aI, q_aR, q_aN, q_tn, q_cmp, q_cmz, q_cnt, q_ctt, q_cand, q_cor, q_vn, q_vI, q_vR, q_vL, q_kI, q_kR, q_kL, q_ckI, envN, argE, List.flatMap_cons, List.flatMap_nil, Value.category, junk, oadd, osub, omul, oand, oor, oxor, odiv, orem, oshl, oshr, oushr, omax, omin]; simp [nI_0]) rfl ?_
  refine wp_mono (w_lp (Q := fun o _ E1 h' => o = 0 ∧ (∃ y, E1[5]? = some (.long y) ∧ ∀ s, s < 64 → BT y s = (BT x s && (decide (whz w s = p) == wn))) ∧ Fr SXs h h' ∧ CX w T ra h' ∧ TC w h') (fun k E h' => ∃ s y, k = 64 - s ∧ s ≤ 64 ∧ E = [.ref 0, .long x, junk, .int p, .int (b2 (wn = true)), .long y, junk, .int (nI s)] ∧ (∀ s', s' < 64 → BT y s' = (BT x s' && (decide (¬ s' < s) || (decide (whz w s' = p) == wn)))) ∧ Fr SXs h h' ∧ CX w T ra h' ∧ TC w h') ?_ 64 _ _ ⟨0, x, rfl, by omega, rfl, fun s' _ => by simp, Fr.refl h, q, tc⟩) ?_
  · rintro k E h' ⟨s, y, rfl, hs, rfl, hy, f, q1, tc1⟩
    by_cases hs6 : s < 64
    · refine ev_T ?_ ⟨fun z => (by cases z), fun _ => ?_⟩
      · simp only [f_mkF, w_sI, w_sR, w_sL, w_sC, w_sk, w_sbr, w_sco, w_rV, w_rI, w_rR, w_rL, w_dI, w_sO, w_sq, w_si, w_pI, w_pZ, w_pR, w_pU, w_qI, w_qB, w_qZ, w_qU, w_qR, w_kV, q_icst, q_lcst, q_xR, q_ldI, q_ldR, q_ldL, q_bn, q_un, q_dv, q_fI, q_fR, q_aI, q_aR, q_aN, q_tn, q_cmp, q_cmz, q_cnt, q_ctt, q_cand, q_cor, q_vn, q_vI, q_vR, q_vL, q_kI, q_kR, q_kL, q_ckI, envN, argE, List.flatMap_cons, List.flatMap_nil, Value.category, junk, oadd, osub, omul, oand, oor, oxor, odiv, orem, oshl, oshr, oushr, omax, omin]
        simp (disch := first | omega | simp) [rk_i, rk_b, rk_o, st1, kill, Value.category, rcv, nog, inI_b, nI_clamp, nI_ltI, nI_leI, nI_eq, nI_9, nI_6, nI_22, nI_12, nI_180, nI_add, nI_1, k64, hs6]
      have hgo : ∀ y' h4, (∀ s', s' < 64 → BT y' s' = (BT x s' && (decide (¬ s' < s + 1) || (decide (whz w s' = p) == wn)))) → Fr SXs h h4 → CX w T ra h4 → TC w h4 → wp (sC 7 1) [.ref 0, .long x, junk, .int p, .int (b2 (wn = true)), .long y', junk, .int (nI s)] h4 fun o2 _ E2 h3 => o2 = 0 ∧ ∃ k2, k2 < 64 - s ∧ ∃ s y, k2 = 64 - s ∧ s ≤ 64 ∧ E2 = [.ref 0, .long x, junk, .int p, .int (b2 (wn = true)), .long y, junk, .int (nI s)] ∧ (∀ s', s' < 64 → BT y s' = (BT x s' && (decide (¬ s' < s) || (decide (whz w s' = p) == wn)))) ∧ Fr SXs h h3 ∧ CX w T ra h3 ∧ TC w h3 := fun y' h4 a b c d => w_sCe (nI s) (nI (s + 1)) rfl (nI_1 _) rfl ⟨rfl, 64 - (s + 1), by omega, s + 1, y', rfl, by omega, rfl, a, b, c, d⟩
      have hcond : ev (cnt (cmz zeq (bn lg_cmp (bn oland (bn olushr (ldL 1) (ldI 7)) (lcst 1)) (lcst 0)))) [.ref 0, .long x, junk, .int p, .int (b2 (wn = true)), .long y, junk, .int (nI s)] h' fun t h2 => t = BT x s ∧ h2 = h' := by
        simp only [q_cnt, q_cmz, q_bn, q_ldI, q_ldL, q_lcst]
        refine ⟨_, rfl, _, rfl, ?_, by first | rfl | trivial⟩
        have bt := BT_t (x := x) hs6
        cases hb : BT x s with
        | false =>
          have := bt.mpr hb
          simp [this]
        | true =>
          have : ¬ lg_cmp (oland (olushr x (nI s)) 1) 0 = 0 := fun z => by rw [bt.mp z] at hb; cases hb
          simp [this]
      refine w_siN _ hcond (fun hb => ?_) (fun hb => ?_)
      · have hn1 := q1.1.1
        have p8 : h'.2.2 0 8 = some 147 := q1.1.2.1.at 8 rfl
        (refine w_fz fun B hB C hC => ?_); (simp only [f_mkF, w_sI, w_sR, w_sL, w_sC, w_sk, w_sbr, w_sco, w_rV, w_rI, w_rR, w_rL, w_dI, w_sO, w_sq, w_si, w_pI, w_pZ, w_pR, w_pU, w_qI, w_qB, w_qZ, w_qU, w_qR, w_kV, q_icst, q_lcst, q_xR, q_ldI, q_ldR, q_ldL, q_bn, q_un, q_dv, q_fI, q_fR, q_aI, q_aR, q_aN, q_tn, q_cmp, q_cmz, q_cnt, q_ctt, q_cand, q_cor, q_vn, q_vI, q_vR, q_vL, q_kI, q_kR, q_kL, q_ckI, envN, argE, List.flatMap_cons, List.flatMap_nil, Value.category, junk, oadd, osub, omul, oand, oor, oxor, odiv, orem, oshl, oshr, oushr, omax, omin]); (simp (disch := first | omega | simp) [rk_i, rk_b, rk_o, st1, kill, Value.category, rcv, nog, inI_b, nI_clamp, nI_ltI, nI_leI, nI_eq, nI_9, nI_6, nI_22, nI_12, nI_180, nI_add, nI_1, hn1, ly0, ly147, p8]); (subst hB hC)
        have f2 : Fr SXs h (wI h' 147 14 (nI s)) := f.w (Or.inr ⟨rfl, rfl⟩)
        have q2 : CX w T ra (wI h' 147 14 (nI s)) := q1.gen (S := fun a k => a = 147 ∧ k = 14) ((Fr.refl h').w ⟨rfl, rfl⟩) fun a k z => by omega
        have tc2 : TC w (wI h' 147 14 (nI s)) := tc1.fr (S := fun a k => a = 147 ∧ k = 14) ((Fr.refl h').w ⟨rfl, rfl⟩) (fun k => by omega) (fun k => by omega) (by omega)
        have e14 : (wI h' 147 14 (nI s)).2.1 147 14 = nI s := by simp [wI_i]
        generalize wI h' 147 14 (nI s) = h2 at *
        have hn2 := q2.1.1
        have p8' : h2.2.2 0 8 = some 147 := q2.1.2.1.at 8 rfl
        refine w_fz fun B hB C hC => ?_
        simp only [f_mkF, w_sI, w_sR, w_sL, w_sC, w_sk, w_sbr, w_sco, w_rV, w_rI, w_rR, w_rL, w_dI, w_sO, w_sq, w_si, w_pI, w_pZ, w_pR, w_pU, w_qI, w_qB, w_qZ, w_qU, w_qR, w_kV, q_icst, q_lcst, q_xR, q_ldI, q_ldR, q_ldL, q_bn, q_un, q_dv, q_fI, q_fR, q_aI, q_aR, q_aN, q_tn, q_cmp, q_cmz, q_cnt, q_ctt, q_cand, q_cor, q_vn, q_vI, q_vR, q_vL, q_kI, q_kR, q_kL, q_ckI, envN, argE, List.flatMap_cons, List.flatMap_nil, Value.category, junk, oadd, osub, omul, oand, oor, oxor, odiv, orem, oshl, oshr, oushr, omax, omin]
        simp (disch := first | omega | simp) [rk_i, rk_b, rk_o, st1, kill, Value.category, rcv, nog, inI_b, nI_clamp, nI_ltI, nI_leI, nI_eq, nI_9, nI_6, nI_22, nI_12, nI_180, nI_add, nI_1, hn2, ly0, ly147, p8']
        refine fq_mono (x_walk q2 tc2 e14 hs6) ?_
        rintro r h3 ⟨rfl, f3, tc3, hX⟩
        simp
        subst hB hC
        have q3 := q2.fr f3
        have f4 : Fr SXs h h3 := f2.trans (f3.sub fun a k z => Or.inl z)
        have hn3 := q3.1.1
        have p83 : h3.2.2 0 8 = some 147 := q3.1.2.1.at 8 rfl
        have nb := (stt_nb w s (lows w) (W_n w)).1
        have eo := x_now q3 nb (hX.1 _ (Nat.le_refl _))
        have hwe : own w (stt w s (lows w) (W_n w)) (W_n w) = whz w s := rfl
        rw [hwe] at eo
        have hc2 : ev (cnt (cmp oeq (tn (cnt (cmp one (kI (rcv 1) F_X1_ownerNow (vR vn (fR 10 8 (ldR 0)))) (ldI 3))) (icst 1) (icst 0)) (ldI 4))) [.ref 0, .long x, junk, .int p, .int (b2 (wn = true)), .long y, junk, .int (nI s)] h3 fun t h4 => t = !(decide (whz w s = p) == wn) ∧ h4 = h3 := by
          simp only [f_mkF, w_sI, w_sR, w_sL, w_sC, w_sk, w_sbr, w_sco, w_rV, w_rI, w_rR, w_rL, w_dI, w_sO, w_sq, w_si, w_pI, w_pZ, w_pR, w_pU, w_qI, w_qB, w_qZ, w_qU, w_qR, w_kV, q_icst, q_lcst, q_xR, q_ldI, q_ldR, q_ldL, q_bn, q_un, q_dv, q_fI, q_fR, q_aI, q_aR, q_aN, q_tn, q_cmp, q_cmz, q_cnt, q_ctt, q_cand, q_cor, q_vn, q_vI, q_vR, q_vL, q_kI, q_kR, q_kL, q_ckI, envN, argE, List.flatMap_cons, List.flatMap_nil, Value.category, junk, oadd, osub, omul, oand, oor, oxor, odiv, orem, oshl, oshr, oushr, omax, omin]
          by_cases c : whz w s = p
          · cases wn <;> simp [rk_i, rk_b, rk_o, st1, kill, Value.category, rcv, nog, hn3, ly0, ly147, p83, fq_of eo, c, b2]
          · cases wn <;> simp [rk_i, rk_b, rk_o, st1, kill, Value.category, rcv, nog, hn3, ly0, ly147, p83, fq_of eo, c, b2]
        refine w_siN _ hc2 (fun c => ?_) (fun c => ?_)
        · refine w_sLe (oland y (olxor (olshl 1 (nI s)) (-1))) (by simp only [q_bn, q_ldL, q_ldI, q_lcst]; exact ⟨_, rfl, _, rfl, rfl, by first | rfl | trivial⟩) rfl ⟨fun _ => hgo _ h3 (fun s' hs' => ?_) f4 q3 tc3, (fun z => by cases z), fun z => absurd rfl z⟩
          rw [BT_clr hs6 hs', hy s' hs']
          by_cases z : s' = s
          · subst z
            simp at c
            simp [c]
          · by_cases z2 : s' < s
            · have : s' < s + 1 := by omega
              simp [z, z2, this]
            · have : ¬ s' < s + 1 := by omega
              simp [z, z2, this]
        · rw [w_sk]
          refine ⟨fun _ => hgo _ h3 (fun s' hs' => ?_) f4 q3 tc3, (fun z => by cases z), fun z => absurd rfl z⟩
          rw [hy s' hs']
          by_cases z : s' = s
          · subst z
            simp at c
            simp [c]
          · by_cases z2 : s' < s
            · have : s' < s + 1 := by omega
              simp [z2, this]
            · have : ¬ s' < s + 1 := by omega
              simp [z2, this]
      · rw [w_sk]
        refine ⟨fun _ => hgo _ h' (fun s' hs' => ?_) f q1 tc1, (fun z => by cases z), fun z => absurd rfl z⟩
        rw [hy s' hs']
        by_cases z : s' = s
        · subst z
          simp [hb]
        · by_cases z2 : s' < s
          · have : s' < s + 1 := by omega
            simp [z2, this]
          · have : ¬ s' < s + 1 := by omega
            simp [z2, this]
    · have : s = 64 := by omega
      subst this
      refine ev_F ?_ ⟨fun _ => ⟨rfl, ⟨y, rfl, fun s hs => by rw [hy s hs]; simp [hs]⟩, f, q1, tc1⟩, fun z => (by cases z)⟩
      simp only [f_mkF, w_sI, w_sR, w_sL, w_sC, w_sk, w_sbr, w_sco, w_rV, w_rI, w_rR, w_rL, w_dI, w_sO, w_sq, w_si, w_pI, w_pZ, w_pR, w_pU, w_qI, w_qB, w_qZ, w_qU, w_qR, w_kV, q_icst, q_lcst, q_xR, q_ldI, q_ldR, q_ldL, q_bn, q_un, q_dv, q_fI, q_fR, q_aI, q_aR, q_aN, q_tn, q_cmp, q_cmz, q_cnt, q_ctt, q_cand, q_cor, q_vn, q_vI, q_vR, q_vL, q_kI, q_kR, q_kL, q_ckI, envN, argE, List.flatMap_cons, List.flatMap_nil, Value.category, junk, oadd, osub, omul, oand, oor, oxor, odiv, orem, oshl, oshr, oushr, omax, omin]
      simp (disch := first | omega | simp) [rk_i, rk_b, rk_o, st1, kill, Value.category, rcv, nog, inI_b, nI_clamp, nI_ltI, nI_leI, nI_eq, nI_9, nI_6, nI_22, nI_12, nI_180, nI_add, nI_1, k64]
  · rintro o v E1 h2 ⟨rfl, ⟨y, e2, hy⟩, f, q1, tc1⟩
    refine ⟨fun _ => ?_, fun z => absurd rfl z⟩
    rw [w_rL, q_ldL]
    exact ⟨y, e2, Or.inr ⟨rfl, rfl, ⟨y, rfl, hy⟩, f, q1, tc1⟩⟩
theorem x_lset (x : Int64) (h : Hp) : fq F_X10_leastSet [.long x] h fun r h' => h' = h ∧ ∃ v, r = some (.int v) ∧ LSp (BT x) v := by
  have k6 : (6 : Int32) = nI 6 := rfl
  have k64 : (64 : Int32) = nI 64 := rfl
  unfold F_X10_leastSet
  refine f_mkE [.long x, junk, junk, junk] rfl (by simp [argE, Value.category]) ?_
  refine w_sq.mpr ?_
  refine w_sqI (E' := [.long x, junk, .int (nI 0), junk]) (nI 0) (by simp only [f_mkF, w_sI, w_sR, w_sL, w_sC, w_sk, w_sbr, w_sco, w_rV, w_rI, w_rR, w_rL, w_dI, w_sO, w_sq, w_si, w_pI, w_pZ, w_pR, w_pU, w_qI, w_qB, w_qZ, w_qU, w_qR, w_kV, q_icst, q_lcst, q_xR, q_ldI, q_ldR, q_ldL, q_bn, q_un, q_dv, q_fI, q_fR, q_aI, q_aR, q_aN, q_tn, q_cmp, q_cmz, q_cnt, q_ctt, q_cand, q_cor, q_vn, q_vI, q_vR, q_vL, q_kI, q_kR, q_kL, q_ckI, envN, argE, List.flatMap_cons, List.flatMap_nil, Value.category, junk, oadd, osub, omul, oand, oor, oxor, odiv, orem, oshl, oshr, oushr, omax, omin]; simp [nI_0]) rfl ?_
  refine wp_mono (w_lp (Q := fun o v _ h' => h' = h ∧ ((o = 2 ∧ ∃ r, v = .int r ∧ LSp (BT x) r) ∨ (o = 0 ∧ ∀ s, s < 64 → BT x s = false))) (fun k E h' => h' = h ∧ ∃ n v3, k = 7 - n ∧ n ≤ 7 ∧ E = [.long x, junk, .int (nI n), v3] ∧ v3.category = 1 ∧ ∀ s, s < 64 → pc s < n → BT x s = false) ?_ 7 _ _ ⟨rfl, 0, junk, rfl, by omega, rfl, rfl, fun s _ z => by omega⟩) ?_
  · rintro k E h' ⟨rfl, n, v3, rfl, hn, rfl, c3, hx⟩
    by_cases hn7 : n < 7
    · refine ev_T ?_ ⟨fun z => (by cases z), fun _ => ?_⟩
      · simp only [f_mkF, w_sI, w_sR, w_sL, w_sC, w_sk, w_sbr, w_sco, w_rV, w_rI, w_rR, w_rL, w_dI, w_sO, w_sq, w_si, w_pI, w_pZ, w_pR, w_pU, w_qI, w_qB, w_qZ, w_qU, w_qR, w_kV, q_icst, q_lcst, q_xR, q_ldI, q_ldR, q_ldL, q_bn, q_un, q_dv, q_fI, q_fR, q_aI, q_aR, q_aN, q_tn, q_cmp, q_cmz, q_cnt, q_ctt, q_cand, q_cor, q_vn, q_vI, q_vR, q_vL, q_kI, q_kR, q_kL, q_ckI, envN, argE, List.flatMap_cons, List.flatMap_nil, Value.category, junk, oadd, osub, omul, oand, oor, oxor, odiv, orem, oshl, oshr, oushr, omax, omin]
        simp (disch := first | omega | simp) [rk_i, rk_b, rk_o, st1, kill, Value.category, rcv, nog, inI_b, nI_clamp, nI_ltI, nI_leI, nI_eq, nI_9, nI_6, nI_22, nI_12, nI_180, nI_add, nI_1, k6]
        omega
      refine w_sqI (E' := [.long x, junk, .int (nI n), .int (nI 0)]) (nI 0) (by simp only [f_mkF, w_sI, w_sR, w_sL, w_sC, w_sk, w_sbr, w_sco, w_rV, w_rI, w_rR, w_rL, w_dI, w_sO, w_sq, w_si, w_pI, w_pZ, w_pR, w_pU, w_qI, w_qB, w_qZ, w_qU, w_qR, w_kV, q_icst, q_lcst, q_xR, q_ldI, q_ldR, q_ldL, q_bn, q_un, q_dv, q_fI, q_fR, q_aI, q_aR, q_aN, q_tn, q_cmp, q_cmz, q_cnt, q_ctt, q_cand, q_cor, q_vn, q_vI, q_vR, q_vL, q_kI, q_kR, q_kL, q_ckI, envN, argE, List.flatMap_cons, List.flatMap_nil, Value.category, junk, oadd, osub, omul, oand, oor, oxor, odiv, orem, oshl, oshr, oushr, omax, omin]; simp [nI_0]) (by simp [st1, kill, Value.category, junk]) ?_
      refine wp_mono (w_lp (Q := fun o v E1 h2 => h2 = h' ∧ ((o = 2 ∧ ∃ r, v = .int r ∧ LSp (BT x) r) ∨ (o = 0 ∧ (∃ v3, E1 = [.long x, junk, .int (nI n), v3] ∧ v3.category = 1) ∧ ∀ s, s < 64 → pc s < n + 1 → BT x s = false))) (fun k E h2 => h2 = h' ∧ ∃ s, k = 64 - s ∧ s ≤ 64 ∧ E = [.long x, junk, .int (nI n), .int (nI s)] ∧ ∀ s', s' < s → pc s' = n → BT x s' = false) ?_ 64 _ _ ⟨rfl, 0, rfl, by omega, rfl, fun s' z => by omega⟩) ?_
      · rintro k E h2 ⟨rfl, s, rfl, hs, rfl, hx2⟩
        by_cases hs6 : s < 64
        · refine ev_T ?_ ⟨fun z => (by cases z), fun _ => ?_⟩
          · simp only [f_mkF, w_sI, w_sR, w_sL, w_sC, w_sk, w_sbr, w_sco, w_rV, w_rI, w_rR, w_rL, w_dI, w_sO, w_sq, w_si, w_pI, w_pZ, w_pR, w_pU, w_qI, w_qB, w_qZ, w_qU, w_qR, w_kV, q_icst, q_lcst, q_xR, q_ldI, q_ldR, q_ldL, q_bn, q_un, q_dv, q_fI, q_fR, q_aI, q_aR, q_aN, q_tn, q_cmp, q_cmz, q_cnt, q_ctt, q_cand, q_cor, q_vn, q_vI, q_vR, q_vL, q_kI, q_kR, q_kL, q_ckI, envN, argE, List.flatMap_cons, List.flatMap_nil, Value.category, junk, oadd, osub, omul, oand, oor, oxor, odiv, orem, oshl, oshr, oushr, omax, omin]
            simp (disch := first | omega | simp) [rk_i, rk_b, rk_o, st1, kill, Value.category, rcv, nog, inI_b, nI_clamp, nI_ltI, nI_leI, nI_eq, nI_9, nI_6, nI_22, nI_12, nI_180, nI_add, nI_1, k64, hs6]
          have eb := x_bits hs6 h2
          have hpc := pc_le s hs6
          have hgo : (pc s = n → BT x s = false) → wp (sC 3 1) [.long x, junk, .int (nI n), .int (nI s)] h2 fun o2 _ E2 h3 => o2 = 0 ∧ ∃ k2, k2 < 64 - s ∧ h3 = h2 ∧ ∃ s, k2 = 64 - s ∧ s ≤ 64 ∧ E2 = [.long x, junk, .int (nI n), .int (nI s)] ∧ ∀ s', s' < s → pc s' = n → BT x s' = false := fun hz => w_sCe (nI s) (nI (s + 1)) rfl (nI_1 _) rfl ⟨rfl, 64 - (s + 1), by omega, rfl, s + 1, rfl, by omega, rfl, fun s' z1 z2 => by
            by_cases e : s' = s
            · subst e; exact hz z2
            · exact hx2 s' (by omega) z2⟩
          have hcond : ev (cand (cnt (cmp one (kI nog F_J6_bitCount_0f7a4 (vI (vn) (ldI 3))) (ldI 2))) (cnt (cmz zeq (bn lg_cmp (bn oland (bn olushr (ldL 0) (ldI 3)) (lcst 1)) (lcst 0))))) [.long x, junk, .int (nI n), .int (nI s)] h2 fun t h3 => t = (decide (pc s = n) && BT x s) ∧ h3 = h2 := by
            rw [q_cand]
            refine ev_mono (P := fun t h3 => t = decide (pc s = n) ∧ h3 = h2) ?_ ?_
            · simp only [f_mkF, w_sI, w_sR, w_sL, w_sC, w_sk, w_sbr, w_sco, w_rV, w_rI, w_rR, w_rL, w_dI, w_sO, w_sq, w_si, w_pI, w_pZ, w_pR, w_pU, w_qI, w_qB, w_qZ, w_qU, w_qR, w_kV, q_icst, q_lcst, q_xR, q_ldI, q_ldR, q_ldL, q_bn, q_un, q_dv, q_fI, q_fR, q_aI, q_aR, q_aN, q_tn, q_cmp, q_cmz, q_cnt, q_ctt, q_cand, q_cor, q_vn, q_vI, q_vR, q_vL, q_kI, q_kR, q_kL, q_ckI, envN, argE, List.flatMap_cons, List.flatMap_nil, Value.category, junk, oadd, osub, omul, oand, oor, oxor, odiv, orem, oshl, oshr, oushr, omax, omin]
              by_cases c : pc s = n <;> simp (disch := first | omega | simp) [rk_i, rk_b, rk_o, st1, kill, Value.category, rcv, nog, inI_b, nI_clamp, nI_ltI, nI_leI, nI_eq, nI_9, nI_6, nI_22, nI_12, nI_180, nI_add, nI_1, fq_of eb, c]
            rintro t h3 ⟨rfl, rfl⟩
            refine ⟨fun c => ?_, fun c => ⟨by rw [c]; rfl, rfl⟩⟩
            rw [c]
            simp only [q_cnt, q_cmz, q_bn, q_ldI, q_ldL, q_lcst]
            refine ⟨_, rfl, _, rfl, ?_, by first | rfl | trivial⟩
            have bt := BT_t (x := x) hs6
            cases hb : BT x s with
            | false =>
              have := bt.mpr hb
              simp [this]
            | true =>
              have : ¬ lg_cmp (oland (olushr x (nI s)) 1) 0 = 0 := fun z => by rw [bt.mp z] at hb; cases hb
              simp [this]
          refine w_siN _ hcond (fun c => ?_) (fun c => ?_)
          · simp at c
            rw [w_rI, q_ldI]
            refine ⟨_, rfl, (fun z => by rcases z with z | z <;> cases z), (fun z => by cases z), fun _ _ _ => ⟨rfl, Or.inl ⟨rfl, _, rfl, Or.inr ⟨s, hs6, rfl, c.2, fun s' z1 z2 => ?_⟩⟩⟩⟩
            by_cases e1 : pc s' < n
            · rw [hx s' z1 e1] at z2; cases z2
            · by_cases e2 : pc s' = n
              · by_cases e3 : s' < s
                · rw [hx2 s' e3 e2] at z2; cases z2
                · exact Or.inr ⟨by omega, by omega⟩
              · exact Or.inl (by omega)
          · rw [w_sk]
            refine ⟨fun _ => hgo (fun z => by simp [z] at c; exact c), (fun z => by cases z), fun z => absurd rfl z⟩
        · have : s = 64 := by omega
          subst this
          refine ev_F ?_ ⟨fun _ => ⟨rfl, Or.inr ⟨rfl, ⟨_, rfl, rfl⟩, fun s z1 z2 => ?_⟩⟩, fun z => (by cases z)⟩
          · simp only [f_mkF, w_sI, w_sR, w_sL, w_sC, w_sk, w_sbr, w_sco, w_rV, w_rI, w_rR, w_rL, w_dI, w_sO, w_sq, w_si, w_pI, w_pZ, w_pR, w_pU, w_qI, w_qB, w_qZ, w_qU, w_qR, w_kV, q_icst, q_lcst, q_xR, q_ldI, q_ldR, q_ldL, q_bn, q_un, q_dv, q_fI, q_fR, q_aI, q_aR, q_aN, q_tn, q_cmp, q_cmz, q_cnt, q_ctt, q_cand, q_cor, q_vn, q_vI, q_vR, q_vL, q_kI, q_kR, q_kL, q_ckI, envN, argE, List.flatMap_cons, List.flatMap_nil, Value.category, junk, oadd, osub, omul, oand, oor, oxor, odiv, orem, oshl, oshr, oushr, omax, omin]
            simp (disch := first | omega | simp) [rk_i, rk_b, rk_o, st1, kill, Value.category, rcv, nog, inI_b, nI_clamp, nI_ltI, nI_leI, nI_eq, nI_9, nI_6, nI_22, nI_12, nI_180, nI_add, nI_1, k64]
          · by_cases e : pc s < n
            · exact hx s z1 e
            · exact hx2 s z1 (by omega)
      · rintro o v E1 h3 ⟨rfl, ⟨rfl, r, rfl, hr⟩ | ⟨rfl, ⟨v3, rfl, c3⟩, hx3⟩⟩
        · exact ⟨(fun z => by rcases z with z | z <;> cases z), (fun z => by cases z), fun _ _ _ => ⟨rfl, Or.inl ⟨rfl, r, rfl, hr⟩⟩⟩
        · refine ⟨fun _ => ?_, (fun z => by cases z), fun z => absurd rfl z⟩
          refine w_sCe (nI n) (nI (n + 1)) rfl (nI_1 _) (by simp [st1, kill, Value.category, junk]) ⟨rfl, 7 - (n + 1), by omega, rfl, n + 1, v3, rfl, by omega, rfl, c3, hx3⟩
    · have : n = 7 := by omega
      subst this
      refine ev_F ?_ ⟨fun _ => ⟨rfl, Or.inr ⟨rfl, fun s hs => hx s hs (by have := pc_le s hs; omega)⟩⟩, fun z => (by cases z)⟩
      simp only [f_mkF, w_sI, w_sR, w_sL, w_sC, w_sk, w_sbr, w_sco, w_rV, w_rI, w_rR, w_rL, w_dI, w_sO, w_sq, w_si, w_pI, w_pZ, w_pR, w_pU, w_qI, w_qB, w_qZ, w_qU, w_qR, w_kV, q_icst, q_lcst, q_xR, q_ldI, q_ldR, q_ldL, q_bn, q_un, q_dv, q_fI, q_fR, q_aI, q_aR, q_aN, q_tn, q_cmp, q_cmz, q_cnt, q_ctt, q_cand, q_cor, q_vn, q_vI, q_vR, q_vL, q_kI, q_kR, q_kL, q_ckI, envN, argE, List.flatMap_cons, List.flatMap_nil, Value.category, junk, oadd, osub, omul, oand, oor, oxor, odiv, orem, oshl, oshr, oushr, omax, omin]
      simp (disch := first | omega | simp) [rk_i, rk_b, rk_o, st1, kill, Value.category, rcv, nog, inI_b, nI_clamp, nI_ltI, nI_leI, nI_eq, nI_9, nI_6, nI_22, nI_12, nI_180, nI_add, nI_1, k6]
  · rintro o v E1 h3 ⟨rfl, ⟨rfl, r, rfl, hr⟩ | ⟨rfl, hx⟩⟩
    · exact ⟨(fun z => by cases z), fun _ => Or.inr ⟨rfl, rfl, rfl, r, rfl, hr⟩⟩
    · refine ⟨fun _ => ?_, fun z => absurd rfl z⟩
      rw [w_rI, q_icst]
      exact Or.inr ⟨rfl, rfl, rfl, -2, rfl, Or.inl ⟨rfl, hx⟩⟩
