/-! hangs: the class's pairs -/
theorem w_for {c : DC} {b : Sm} {r lo hi : Nat} {E : En} {h : Hp} {Q : Nat → Value → En → Hp → Prop} (I J : Nat → En → Hp → Prop) (hlo : lo ≤ hi) (h0 : I lo E h) (hc : ∀ j E h, lo ≤ j → j ≤ hi → I j E h → ev c E h fun t h1 => h1 = h ∧ (t = true → j < hi ∧ wp b E h fun o _ E1 h1 => o = 0 ∧ J j E1 h1) ∧ (t = false → Q 0 .null E h)) (hs : ∀ j E h, lo ≤ j → j < hi → J j E h → E[r]? = some (.int (nI j)) ∧ I (j + 1) (st1 E r (.int (nI (j + 1)))) h) : wp (lp c b (sC r 1)) E h Q := by
  refine w_lp (fun k E h => ∃ j, k = hi - j ∧ lo ≤ j ∧ j ≤ hi ∧ I j E h) ?_ (hi - lo) E h ⟨lo, rfl, Nat.le_refl _, hlo, h0⟩
  rintro k E h ⟨j, rfl, h1, h2, hI⟩
  refine ev_mono (hc j E h h1 h2 hI) ?_
  rintro t h' ⟨rfl, z1, z2⟩
  refine ⟨fun e => z2 e, fun e => ?_⟩
  obtain ⟨y1, y2⟩ := z1 e
  refine wp_mono y2 ?_
  rintro o v E1 h3 ⟨rfl, hJ⟩
  obtain ⟨x1, x2⟩ := hs j E1 h3 h1 y1 hJ
  exact ⟨fun _ => w_sCe (nI j) (nI (j + 1)) x1 (nI_1 _) rfl ⟨rfl, hi - (j + 1), by omega, j + 1, rfl, by omega, by omega, x2⟩, (fun z => by cases z), fun z => absurd rfl z⟩
theorem nI_mn : ∀ a, a < 21 → ∀ b, b < 21 → omin (nI a) (nI b) = nI (min a b) := by decide +kernel
theorem nI_mx : ∀ a, a < 21 → ∀ b, b < 21 → omax (nI a) (nI b) = nI (max a b) := by decide +kernel
/-- the pairs in an array -/
def PR (A : Nat) (h : Hp) (P : Nat → Nat → Prop) : Prop := ∀ a b, a < 21 → b < 32 → (bI (h.2.1 A a) b = true ↔ a < b ∧ (P a b ∨ P b a))
theorem PR.c {A : Nat} {h : Hp} {P P' : Nat → Nat → Prop} (q : PR A h P) (e : ∀ a b, a ≠ b → (P a b ∨ P b a ↔ P' a b ∨ P' b a)) : PR A h P' := fun a b ha hb => by
  rw [q a b ha hb]
  constructor
  · rintro ⟨z1, z2⟩; exact ⟨z1, (e a b (by omega)).mp z2⟩
  · rintro ⟨z1, z2⟩; exact ⟨z1, (e a b (by omega)).mpr z2⟩
theorem x_pair {h : Hp} (hn : h.1 = 212) {A a b : Nat} {P : Nat → Nat → Prop} (hA : A = 160 ∨ A = 161) (ha : a < 21) (hb : b < 21) (q : PR A h P) : fq F_X2_pair [.ref A, .int (nI a), .int (nI b)] h fun r h' => r = none ∧ Fr (fun x _ => x = A) h h' ∧ PR A h' fun a' b' => P a' b' ∨ (a' = a ∧ b' = b) := by
  have hA2 : A < 212 := by omega
  have hL : LY A = (13, 21) := by rcases hA with rfl | rfl <;> rfl
  unfold F_X2_pair
  refine f_mkE [.ref A, .int (nI a), .int (nI b)] rfl (by simp [argE, Value.category]) ?_
  by_cases e : a = b
  · subst e
    refine w_sq.mpr ((w_siF (by simp only [f_mkF, w_sI, w_sR, w_sL, w_sC, w_sk, w_sbr, w_sco, w_rV, w_rI, w_rR, w_rL, w_dI, w_sO, w_sq, w_si, w_pI, w_pZ, w_pR, w_pU, w_qI, w_qB, w_qZ, w_qU, w_qR, w_kV, q_icst, q_lcst, q_xR, q_ldI, q_ldR, q_ldL, q_bn, q_un, q_dv, q_fI, q_fR, q_aI, q_aR, q_aN, q_tn, q_cmp, q_cmz, q_cnt, q_ctt, q_cand, q_cor, q_vn, q_vI, q_vR, q_vL, q_kI, q_kR, q_kL, q_ckI, envN, argE, List.flatMap_cons, List.flatMap_nil, Value.category, junk, oadd, osub, omul, oand, oor, oxor, odiv, orem, oshl, oshr, oushr, omax, omin]; simp (disch := first | omega | simp) [rk_i, rk_b, rk_o, st1, kill, Value.category, rcv, nog, inI_b, nI_clamp, nI_ltI, nI_leI, nI_eq, nI_9, nI_6, nI_22, nI_12, nI_180, nI_add, nI_1, ha])).mpr (w_sk2.mpr ?_))
    rw [w_rV]
    refine Or.inl ⟨rfl, rfl, rfl, Fr.refl h, q.c fun a' b' z => ?_⟩
    constructor
    · rintro (z | z)
      · exact Or.inl (Or.inl z)
      · exact Or.inr (Or.inl z)
    · rintro ((z | z) | (z | z))
      · exact Or.inl z
      · omega
      · exact Or.inr z
      · omega
  · refine w_sqS (fun E1 h1 => h1 = wI h A (min a b) (oor (h.2.1 A (min a b)) (oshl 1 (nI (max a b))))) ((w_siT ?_).mpr (w_qUe A (min a b) (oshl 1 (nI (max a b))) ?_ ?_ ?_ (by omega) hL (by omega) (by omega) ⟨rfl, rfl⟩)) ?_
    · simp only [f_mkF, w_sI, w_sR, w_sL, w_sC, w_sk, w_sbr, w_sco, w_rV, w_rI, w_rR, w_rL, w_dI, w_sO, w_sq, w_si, w_pI, w_pZ, w_pR, w_pU, w_qI, w_qB, w_qZ, w_qU, w_qR, w_kV, q_icst, q_lcst, q_xR, q_ldI, q_ldR, q_ldL, q_bn, q_un, q_dv, q_fI, q_fR, q_aI, q_aR, q_aN, q_tn, q_cmp, q_cmz, q_cnt, q_ctt, q_cand, q_cor, q_vn, q_vI, q_vR, q_vL, q_kI, q_kR, q_kL, q_ckI, envN, argE, List.flatMap_cons, List.flatMap_nil, Value.category, junk, oadd, osub, omul, oand, oor, oxor, odiv, orem, oshl, oshr, oushr, omax, omin]
      simp (disch := first | omega | simp) [rk_i, rk_b, rk_o, st1, kill, Value.category, rcv, nog, inI_b, nI_clamp, nI_ltI, nI_leI, nI_eq, nI_9, nI_6, nI_22, nI_12, nI_180, nI_add, nI_1, e]
    · simp only [f_mkF, w_sI, w_sR, w_sL, w_sC, w_sk, w_sbr, w_sco, w_rV, w_rI, w_rR, w_rL, w_dI, w_sO, w_sq, w_si, w_pI, w_pZ, w_pR, w_pU, w_qI, w_qB, w_qZ, w_qU, w_qR, w_kV, q_icst, q_lcst, q_xR, q_ldI, q_ldR, q_ldL, q_bn, q_un, q_dv, q_fI, q_fR, q_aI, q_aR, q_aN, q_tn, q_cmp, q_cmz, q_cnt, q_ctt, q_cand, q_cor, q_vn, q_vI, q_vR, q_vL, q_kI, q_kR, q_kL, q_ckI, envN, argE, List.flatMap_cons, List.flatMap_nil, Value.category, junk, oadd, osub, omul, oand, oor, oxor, odiv, orem, oshl, oshr, oushr, omax, omin]; simp
    · have := nI_mn a ha b hb
      rw [q_bn, q_ldI]
      refine ⟨nI a, rfl, ?_⟩
      rw [q_ldI]
      exact ⟨nI b, rfl, this, rfl⟩
    · have := nI_mx a ha b hb
      rw [q_bn, q_icst, q_bn, q_ldI]
      refine ⟨nI a, rfl, ?_⟩
      rw [q_ldI]
      exact ⟨nI b, rfl, by rw [this], rfl⟩
    rintro E1 h1 rfl
    rw [w_rV]
    refine Or.inl ⟨rfl, rfl, rfl, (Fr.refl h).w rfl, fun a' b' h1 h2 => ?_⟩
    rw [wI_i]
    by_cases z : a' = min a b
    · rw [if_pos ⟨rfl, z⟩, ← z, bI_or (by omega) h2]
      simp only [Bool.or_eq_true, decide_eq_true_eq]
      rw [q a' b' h1 h2]
      constructor
      · rintro (⟨z1, z2 | z2⟩ | z1)
        · exact ⟨z1, Or.inl (Or.inl z2)⟩
        · exact ⟨z1, Or.inr (Or.inl z2)⟩
        · refine ⟨by omega, ?_⟩
          by_cases y : a' = a
          · exact Or.inl (Or.inr (by omega))
          · exact Or.inr (Or.inr (by omega))
      · rintro ⟨z1, (z2 | z2) | (z2 | z2)⟩
        · exact Or.inl ⟨z1, Or.inl z2⟩
        · exact Or.inr (by omega)
        · exact Or.inl ⟨z1, Or.inr z2⟩
        · exact Or.inr (by omega)
    · rw [if_neg (by omega), q a' b' h1 h2]
      constructor
      · rintro ⟨z1, z2 | z2⟩
        · exact ⟨z1, Or.inl (Or.inl z2)⟩
        · exact ⟨z1, Or.inr (Or.inl z2)⟩
      · rintro ⟨z1, (z2 | z2) | (z2 | z2)⟩
        · exact ⟨z1, Or.inl z2⟩
        · omega
        · exact ⟨z1, Or.inr z2⟩
        · omega
/-- what the class holds while it asks on what it hangs -/
def DX (w : Wd) (T : Nat) (ra : Nat → Nat) (A B : Nat) (h : Hp) : Prop := CX w T ra h ∧ SPR w (W_n w) h ∧ h.2.2 157 3 = some A ∧ h.2.2 157 4 = some B ∧ ((A = 160 ∧ B = 161) ∨ (A = 161 ∧ B = 160))
def S61 (a _k : Nat) : Prop := a = 160 ∨ a = 161
theorem SPR.e {w : Wd} {i : Nat} {h h' : Hp} (q : SPR w i h) (e : ∀ a k, a = 158 ∨ a = 159 → h'.2.1 a k = h.2.1 a k) : SPR w i h' := ⟨fun k hk s hs => by rw [e _ _ (by omega)]; exact q.1 k hk s hs, fun k hk s m x1 x2 x3 => by rw [e _ _ (by omega)]; exact q.2 k hk s m x1 x2 x3⟩
theorem DX.fr {w : Wd} {T : Nat} {ra : Nat → Nat} {A B : Nat} {h h' : Hp} (q : DX w T ra A B h) (f : Fr S61 h h') : DX w T ra A B h' := by
  obtain ⟨q1, q2, q3, q4, q5⟩ := q
  exact ⟨q1.gen f fun a k z => by unfold S61; omega, q2.e fun a k z => f.2.2 a k (by unfold S61; omega), by rw [f.2.1]; exact q3, by rw [f.2.1]; exact q4, q5⟩
theorem CX.rq {w : Wd} {T : Nat} {ra : Nat → Nat} {h h' : Hp} (q : CX w T ra h) (e1 : h'.1 = h.1) (e2 : ∀ a k, ¬ (a = 157 ∧ (k = 3 ∨ k = 4)) → h'.2.2 a k = h.2.2 a k) (e3 : h'.2.1 = h.2.1) : CX w T ra h' := by
  obtain ⟨q1, q2, ⟨⟨a1, a2, a3, a4, a5, a6⟩, b, c, d⟩, q4, q7, q8, q9, q10, q11, q12⟩ := q
  refine ⟨Ip_q e1 (fun a k z => e2 a k fun y => z (Or.inr y)) q1, by rw [e2 _ _ (by omega)]; exact q2, ⟨⟨e1.trans a1, a2, a3, a4, by rw [e2 _ _ (by omega)]; exact a5, a6⟩, by rw [e3]; exact b, fun i hi => by rw [e2 _ _ (by omega)]; exact c i hi, by rw [e3]; exact d⟩, by rw [e3]; exact q4, by rw [e3]; exact q7, by rw [e3]; exact q8, by rw [e3]; exact q9, by rw [e3]; exact q10, fun l hl => ?_, q12⟩
  obtain ⟨la, z1, z2, z3⟩ := q11 l hl
  refine ⟨la, by rw [e2 _ _ (by omega)]; exact z1, z2, ?_⟩
  unfold LX at *
  rw [e3]
  exact z3
theorem x_next {w : Wd} {T : Nat} {ra : Nat → Nat} {A B : Nat} {h : Hp} (q : DX w T ra A B h) {k s m : Nat} (hk : k < W_n w) (hR : Rch w k s) (h1 : (W_R w k 6).toInt ≤ (m : Int)) (h2 : (m : Int) ≤ (W_R w k 7).toInt) : F_X2_nextOf [.ref 157, .int (nI k), .int (nI s), .int (nI m)] h = some (some (.int (nI (nxt w 0 k s (nI m)))), h) := by
  obtain ⟨q1, q2, -⟩ := q
  have hn := q1.1.1
  have p2 : h.2.2 157 2 = some 159 := q1.1.2.1.at 77 rfl
  have e := q2.2 k hk s m hR h1 h2
  have hs := Rch_le hR
  have hk20 := q1.wv.1
  have hm : m ≤ 2 := by
    obtain ⟨l, k', e1, e2, e3, e4, -⟩ := q1.wv.mi hk
    rw [e2, nI_toInt (by omega)] at h2
    omega
  have kb : nk k s m < 1260 := by unfold nk; omega
  have ei : (nI k * 21 + nI s) * 3 + nI m = nI (nk k s m) := by
    rw [nI_x21, nI_add, nI_x3, nI_add]; rfl
  rw [← fq_eq]
  unfold F_X2_nextOf
  refine f_mkE _ rfl (by simp [argE, Value.category]) ?_
  simp only [f_mkF, w_sI, w_sR, w_sL, w_sC, w_sk, w_sbr, w_sco, w_rV, w_rI, w_rR, w_rL, w_dI, w_sO, w_sq, w_si, w_pI, w_pZ, w_pR, w_pU, w_qI, w_qB, w_qZ, w_qU, w_qR, w_kV, q_icst, q_lcst, q_xR, q_ldI, q_ldR, q_ldL, q_bn, q_un, q_dv, q_fI, q_fR, q_aI, q_aR, q_aN, q_tn, q_cmp, q_cmz, q_cnt, q_ctt, q_cand, q_cor, q_vn, q_vI, q_vR, q_vL, q_kI, q_kR, q_kL, q_ckI, envN, argE, List.flatMap_cons, List.flatMap_nil, Value.category, junk, oadd, osub, omul, oand, oor, oxor, odiv, orem, oshl, oshr, oushr, omax, omin]
  simp (disch := first | omega | simp) [rk_i, rk_b, rk_o, st1, kill, Value.category, rcv, nog, hn, ly157, ly159, p2, ei, inI_b, nI_clamp, kb, e]
