/-! hangs: the class moves its pairs -/
def Fp (h h' : Hp) : Prop := h'.1 = h.1 ∧ (∀ a k, ¬ (a = 157 ∧ (k = 3 ∨ k = 4)) → h'.2.2 a k = h.2.2 a k) ∧ ∀ a k, ¬ S61 a k → h'.2.1 a k = h.2.1 a k
theorem Fp.of {h h' : Hp} (f : Fr S61 h h') : Fp h h' := ⟨f.1, fun a k _ => by rw [f.2.1], f.2.2⟩
theorem Fp.trans {h h1 h2 : Hp} (a : Fp h h1) (b : Fp h1 h2) : Fp h h2 := ⟨b.1.trans a.1, fun x k z => (b.2.1 x k z).trans (a.2.1 x k z), fun x k z => (b.2.2 x k z).trans (a.2.2 x k z)⟩
def MV (w : Wd) (k lo hh : Nat) (X : Nat → Int32) (c : Nat → Nat → Nat → Prop) (a' b' : Nat) : Prop := ∃ a b m, c a b m ∧ (a < 21 ∧ b < 21 ∧ bI (X a) b = true ∧ lo ≤ m ∧ m ≤ hh) ∧ nxt w 0 k a (nI m) = a' ∧ nxt w 0 k b (nI m) = b'
theorem PR_MV {w : Wd} {k lo hh : Nat} {X : Nat → Int32} {c c' : Nat → Nat → Nat → Prop} {A : Nat} {h : Hp} (q : PR A h (MV w k lo hh X c)) (e : ∀ a b m, a < 21 → b < 21 → bI (X a) b = true → lo ≤ m → m ≤ hh → (c a b m ↔ c' a b m)) : PR A h (MV w k lo hh X c') := by
  have : ∀ x y, MV w k lo hh X c x y ↔ MV w k lo hh X c' x y := by
    intro x y
    constructor
    · rintro ⟨a, b, m, z1, ⟨z2, z3, z4, z5, z6⟩, z7⟩
      exact ⟨a, b, m, (e a b m z2 z3 z4 z5 z6).mp z1, ⟨z2, z3, z4, z5, z6⟩, z7⟩
    · rintro ⟨a, b, m, z1, ⟨z2, z3, z4, z5, z6⟩, z7⟩
      exact ⟨a, b, m, (e a b m z2 z3 z4 z5 z6).mpr z1, ⟨z2, z3, z4, z5, z6⟩, z7⟩
  exact q.c fun a b _ => by rw [this, this]
theorem x_move {w : Wd} {T : Nat} {ra : Nat → Nat} {A B : Nat} {h : Hp} (q : DX w T ra A B h) {k : Nat} (hk : k < W_n w) (hR : ∀ a b, a < 21 → b < 32 → bI (h.2.1 A a) b = true → Rch w k a ∧ Rch w k b ∧ a < b) {lo hh : Nat} (e1 : W_R w k 6 = nI lo) (e2 : W_R w k 7 = nI hh) (e3 : lo ≤ hh) (e4 : hh ≤ 2) : fq F_X2_movePairs [.ref 157, .int (nI k)] h fun r h' => r = none ∧ Fp h h' ∧ DX w T ra B A h' ∧ PR B h' (MV w k lo hh (h.2.1 A) fun _ _ _ => True) := by
  have k21 : (21 : Int32) = nI 21 := rfl
  have hn := q.1.1.1
  obtain ⟨hn1, a1, a2, a3, a4, a5, a6, a7⟩ := q.1.hd
  obtain ⟨k20, b1, b2', b3, b4⟩ := q.1.row hk
  have p0 : h.2.2 157 0 = some 147 := q.1.1.2.1.at 75 rfl
  have pA := q.2.2.1
  have pB := q.2.2.2.1
  have pAB := q.2.2.2.2
  have hA : A = 160 ∨ A = 161 := by omega
  have hB : B = 160 ∨ B = 161 := by omega
  have hAB : A ≠ B := by omega
  have hA2 : A < 212 := by omega
  have hB2 : B < 212 := by omega
  have hLA : LY A = (13, 21) := by rcases hA with rfl | rfl <;> rfl
  have hLB : LY B = (13, 21) := by rcases hB with rfl | rfl <;> rfl
  unfold F_X2_movePairs
  refine f_mkE [.ref 157, .int (nI k), junk, junk, junk, junk] rfl (by simp [argE, Value.category]) ?_
  refine w_sqR (E' := [.ref 157, .int (nI k), .ref (ra k), junk, junk, junk]) (ra k) ?_ (by simp [st1, kill, Value.category]) ?_
  · simp only [f_mkF, w_sI, w_sR, w_sL, w_sC, w_sk, w_sbr, w_sco, w_rV, w_rI, w_rR, w_rL, w_dI, w_sO, w_sq, w_si, w_pI, w_pZ, w_pR, w_pU, w_qI, w_qB, w_qZ, w_qU, w_qR, w_kV, q_icst, q_lcst, q_xR, q_ldI, q_ldR, q_ldL, q_bn, q_un, q_dv, q_fI, q_fR, q_aI, q_aR, q_aN, q_tn, q_cmp, q_cmz, q_cnt, q_ctt, q_cand, q_cor, q_vn, q_vI, q_vR, q_vL, q_kI, q_kR, q_kL, q_ckI, envN, argE, List.flatMap_cons, List.flatMap_nil, Value.category, junk, oadd, osub, omul, oand, oor, oxor, odiv, orem, oshl, oshr, oushr, omax, omin]
    simp (disch := first | omega | simp) [rk_i, rk_b, rk_o, st1, kill, Value.category, rcv, nog, inI_b, nI_clamp, nI_ltI, nI_leI, nI_eq, nI_9, nI_6, nI_22, nI_12, nI_180, nI_add, nI_1, hn1, ly157, ly147, p0, a1, a2, a3, a4, a5, a6, b1, k20]
  refine w_sqS (fun E1 h1 => E1 = [.ref 157, .int (nI k), .ref (ra k), junk, junk, junk] ∧ Fr (fun x _ => x = B) h h1 ∧ ∀ j, j < 21 → h1.2.1 B j = 0) (w_kVe [.ref B, .int 0] (by simp only [f_mkF, w_sI, w_sR, w_sL, w_sC, w_sk, w_sbr, w_sco, w_rV, w_rI, w_rR, w_rL, w_dI, w_sO, w_sq, w_si, w_pI, w_pZ, w_pR, w_pU, w_qI, w_qB, w_qZ, w_qU, w_qR, w_kV, q_icst, q_lcst, q_xR, q_ldI, q_ldR, q_ldL, q_bn, q_un, q_dv, q_fI, q_fR, q_aI, q_aR, q_aN, q_tn, q_cmp, q_cmz, q_cnt, q_ctt, q_cand, q_cor, q_vn, q_vI, q_vR, q_vL, q_kI, q_kR, q_kL, q_ckI, envN, argE, List.flatMap_cons, List.flatMap_nil, Value.category, junk, oadd, osub, omul, oand, oor, oxor, odiv, orem, oshl, oshr, oushr, omax, omin]; simp [hn, ly157, pB]) (by simp [nog]) (fq_mono (x_fill hn hB2 hLB (by omega) 0) ?_)) ?_
  · rintro r h1 ⟨rfl, f1, z1⟩
    exact ⟨rfl, rfl, rfl, f1, z1⟩
  rintro E1 h1 ⟨rfl, f1, z1⟩
  have hXA : h1.2.1 A = h.2.1 A := funext fun j => f1.2.2 A j hAB
  have pr1 : PR B h1 (MV w k lo hh (h.2.1 A) fun a _ _ => a < 0) := by
    intro a b ha hb
    rw [z1 a ha, bI_0]
    constructor
    · intro z; cases z
    · rintro ⟨-, ⟨x, y, m, z, -⟩ | ⟨x, y, m, z, -⟩⟩ <;> omega
  have q1 : DX w T ra A B h1 := q.fr (f1.sub fun a k z => by unfold S61; omega)
  clear z1
  refine w_sqS (fun E1 h2 => (∃ v3 v4 v5, E1 = [.ref 157, .int (nI k), .ref (ra k), v3, v4, v5] ∧ v3.category = 1 ∧ v4.category = 1 ∧ v5.category = 1) ∧ Fr (fun x _ => x = B) h h2 ∧ PR B h2 (MV w k lo hh (h.2.1 A) fun _ _ _ => True)) ?_ ?_
  · refine w_sqI (E' := [.ref 157, .int (nI k), .ref (ra k), .int (nI 0), junk, junk]) (nI 0) (by simp only [f_mkF, w_sI, w_sR, w_sL, w_sC, w_sk, w_sbr, w_sco, w_rV, w_rI, w_rR, w_rL, w_dI, w_sO, w_sq, w_si, w_pI, w_pZ, w_pR, w_pU, w_qI, w_qB, w_qZ, w_qU, w_qR, w_kV, q_icst, q_lcst, q_xR, q_ldI, q_ldR, q_ldL, q_bn, q_un, q_dv, q_fI, q_fR, q_aI, q_aR, q_aN, q_tn, q_cmp, q_cmz, q_cnt, q_ctt, q_cand, q_cor, q_vn, q_vI, q_vR, q_vL, q_kI, q_kR, q_kL, q_ckI, envN, argE, List.flatMap_cons, List.flatMap_nil, Value.category, junk, oadd, osub, omul, oand, oor, oxor, odiv, orem, oshl, oshr, oushr, omax, omin]; simp [nI_0]) (by simp [st1, kill, Value.category]) ?_
    refine w_for (lo := 0) (hi := 21) (fun a E h' => ∃ v4 v5, E = [.ref 157, .int (nI k), .ref (ra k), .int (nI a), v4, v5] ∧ (v4.category = 1 ∧ v5.category = 1) ∧ Fr (fun x _ => x = B) h h' ∧ PR B h' (MV w k lo hh (h.2.1 A) fun x _ _ => x < a)) (fun a E h' => ∃ v4 v5, E = [.ref 157, .int (nI k), .ref (ra k), .int (nI a), v4, v5] ∧ (v4.category = 1 ∧ v5.category = 1) ∧ Fr (fun x _ => x = B) h h' ∧ PR B h' (MV w k lo hh (h.2.1 A) fun x _ _ => x < a + 1)) (by omega) ⟨junk, junk, rfl, ⟨rfl, rfl⟩, f1, pr1⟩ ?_ ?_
    · rintro a E h2 - ha ⟨v4, v5, rfl, ⟨c4, c5⟩, f2, pr2⟩
      by_cases ha21 : a < 21
      · refine ev_T ?_ ⟨rfl, fun _ => ⟨ha21, ?_⟩, fun z => by cases z⟩
        · simp only [f_mkF, w_sI, w_sR, w_sL, w_sC, w_sk, w_sbr, w_sco, w_rV, w_rI, w_rR, w_rL, w_dI, w_sO, w_sq, w_si, w_pI, w_pZ, w_pR, w_pU, w_qI, w_qB, w_qZ, w_qU, w_qR, w_kV, q_icst, q_lcst, q_xR, q_ldI, q_ldR, q_ldL, q_bn, q_un, q_dv, q_fI, q_fR, q_aI, q_aR, q_aN, q_tn, q_cmp, q_cmz, q_cnt, q_ctt, q_cand, q_cor, q_vn, q_vI, q_vR, q_vL, q_kI, q_kR, q_kL, q_ckI, envN, argE, List.flatMap_cons, List.flatMap_nil, Value.category, junk, oadd, osub, omul, oand, oor, oxor, odiv, orem, oshl, oshr, oushr, omax, omin]
          simp (disch := first | omega | simp) [rk_i, rk_b, rk_o, st1, kill, Value.category, rcv, nog, inI_b, nI_clamp, nI_ltI, nI_leI, nI_eq, nI_9, nI_6, nI_22, nI_12, nI_180, nI_add, nI_1, k21, ha21]
        refine w_sqI (E' := [.ref 157, .int (nI k), .ref (ra k), .int (nI a), .int (nI (a + 1)), v5]) (nI (a + 1)) (by simp only [f_mkF, w_sI, w_sR, w_sL, w_sC, w_sk, w_sbr, w_sco, w_rV, w_rI, w_rR, w_rL, w_dI, w_sO, w_sq, w_si, w_pI, w_pZ, w_pR, w_pU, w_qI, w_qB, w_qZ, w_qU, w_qR, w_kV, q_icst, q_lcst, q_xR, q_ldI, q_ldR, q_ldL, q_bn, q_un, q_dv, q_fI, q_fR, q_aI, q_aR, q_aN, q_tn, q_cmp, q_cmz, q_cnt, q_ctt, q_cand, q_cor, q_vn, q_vI, q_vR, q_vL, q_kI, q_kR, q_kL, q_ckI, envN, argE, List.flatMap_cons, List.flatMap_nil, Value.category, junk, oadd, osub, omul, oand, oor, oxor, odiv, orem, oshl, oshr, oushr, omax, omin]; simp [nI_1]) (by simp [st1, kill, Value.category]) ?_
        refine w_for (lo := a + 1) (hi := 21) (fun b E h' => ∃ v5, E = [.ref 157, .int (nI k), .ref (ra k), .int (nI a), .int (nI b), v5] ∧ v5.category = 1 ∧ Fr (fun x _ => x = B) h h' ∧ PR B h' (MV w k lo hh (h.2.1 A) fun x y _ => x < a ∨ (x = a ∧ y < b))) (fun b E h' => ∃ v5, E = [.ref 157, .int (nI k), .ref (ra k), .int (nI a), .int (nI b), v5] ∧ v5.category = 1 ∧ Fr (fun x _ => x = B) h h' ∧ PR B h' (MV w k lo hh (h.2.1 A) fun x y _ => x < a ∨ (x = a ∧ y < b + 1))) (by omega) ⟨v5, rfl, c5, f2, ?_⟩ ?_ ?_
        · refine PR_MV pr2 fun x y m x1 x2 x3 x4 x5 => ?_
          have := (hR x y x1 (by omega) x3).2.2
          omega
        · rintro b E h3 hb1 hb2 ⟨v5, rfl, c5, f3, pr3⟩
          have q3 : DX w T ra A B h3 := q.fr (f3.sub fun a k z => by unfold S61; omega)
          have hn3 := q3.1.1.1
          have pA3 := q3.2.2.1
          have pB3 := q3.2.2.2.1
          have eA : ∀ j, h3.2.1 A j = h.2.1 A j := fun j => f3.2.2 A j hAB
          have pr3' : (h.2.1 A a = 0 ∨ b = 21) → PR B h3 (MV w k lo hh (h.2.1 A) fun x _ _ => x < a + 1) := by
            intro z
            refine PR_MV pr3 fun x y m x1 x2 x3 x4 x5 => ?_
            rcases z with z | z
            · have : x ≠ a := fun e => by rw [e, z, bI_0] at x3; cases x3
              omega
            · omega
          rw [q_cand]
          by_cases hz : h.2.1 A a = 0
          · refine ev_F ?_ ⟨(fun z => by cases z), fun _ => ⟨rfl, (fun z => by cases z), fun _ => ⟨rfl, _, _, rfl, ⟨rfl, c5⟩, f3, pr3' (Or.inl hz)⟩⟩⟩
            simp only [f_mkF, w_sI, w_sR, w_sL, w_sC, w_sk, w_sbr, w_sco, w_rV, w_rI, w_rR, w_rL, w_dI, w_sO, w_sq, w_si, w_pI, w_pZ, w_pR, w_pU, w_qI, w_qB, w_qZ, w_qU, w_qR, w_kV, q_icst, q_lcst, q_xR, q_ldI, q_ldR, q_ldL, q_bn, q_un, q_dv, q_fI, q_fR, q_aI, q_aR, q_aN, q_tn, q_cmp, q_cmz, q_cnt, q_ctt, q_cand, q_cor, q_vn, q_vI, q_vR, q_vL, q_kI, q_kR, q_kL, q_ckI, envN, argE, List.flatMap_cons, List.flatMap_nil, Value.category, junk, oadd, osub, omul, oand, oor, oxor, odiv, orem, oshl, oshr, oushr, omax, omin]
            simp (disch := first | omega | simp) [rk_i, rk_b, rk_o, st1, kill, Value.category, rcv, nog, inI_b, nI_clamp, nI_ltI, nI_leI, nI_eq, nI_9, nI_6, nI_22, nI_12, nI_180, nI_add, nI_1, hn3, ly157, pA3, hA2, hLA, eA, hz, ha21]
          refine ev_T ?_ ⟨fun _ => ?_, (fun z => by cases z)⟩
          · simp only [f_mkF, w_sI, w_sR, w_sL, w_sC, w_sk, w_sbr, w_sco, w_rV, w_rI, w_rR, w_rL, w_dI, w_sO, w_sq, w_si, w_pI, w_pZ, w_pR, w_pU, w_qI, w_qB, w_qZ, w_qU, w_qR, w_kV, q_icst, q_lcst, q_xR, q_ldI, q_ldR, q_ldL, q_bn, q_un, q_dv, q_fI, q_fR, q_aI, q_aR, q_aN, q_tn, q_cmp, q_cmz, q_cnt, q_ctt, q_cand, q_cor, q_vn, q_vI, q_vR, q_vL, q_kI, q_kR, q_kL, q_ckI, envN, argE, List.flatMap_cons, List.flatMap_nil, Value.category, junk, oadd, osub, omul, oand, oor, oxor, odiv, orem, oshl, oshr, oushr, omax, omin]
            simp (disch := first | omega | simp) [rk_i, rk_b, rk_o, st1, kill, Value.category, rcv, nog, inI_b, nI_clamp, nI_ltI, nI_leI, nI_eq, nI_9, nI_6, nI_22, nI_12, nI_180, nI_add, nI_1, hn3, ly157, pA3, hA2, hLA, eA, hz, ha21]
          by_cases hb21 : b < 21
          · refine ev_T ?_ ⟨rfl, fun _ => ⟨hb21, ?_⟩, fun z => by cases z⟩
            · simp only [f_mkF, w_sI, w_sR, w_sL, w_sC, w_sk, w_sbr, w_sco, w_rV, w_rI, w_rR, w_rL, w_dI, w_sO, w_sq, w_si, w_pI, w_pZ, w_pR, w_pU, w_qI, w_qB, w_qZ, w_qU, w_qR, w_kV, q_icst, q_lcst, q_xR, q_ldI, q_ldR, q_ldL, q_bn, q_un, q_dv, q_fI, q_fR, q_aI, q_aR, q_aN, q_tn, q_cmp, q_cmz, q_cnt, q_ctt, q_cand, q_cor, q_vn, q_vI, q_vR, q_vL, q_kI, q_kR, q_kL, q_ckI, envN, argE, List.flatMap_cons, List.flatMap_nil, Value.category, junk, oadd, osub, omul, oand, oor, oxor, odiv, orem, oshl, oshr, oushr, omax, omin]
              simp (disch := first | omega | simp) [rk_i, rk_b, rk_o, st1, kill, Value.category, rcv, nog, inI_b, nI_clamp, nI_ltI, nI_leI, nI_eq, nI_9, nI_6, nI_22, nI_12, nI_180, nI_add, nI_1, k21, hb21]
            obtain ⟨-, -, r1, r2, r4⟩ := q3.1.row hk
            have r46 := r4 6 (by omega)
            rw [e1] at r46
            refine w_sqI (E' := [.ref 157, .int (nI k), .ref (ra k), .int (nI a), .int (nI b), .int (nI lo)]) (nI lo) (by simp only [f_mkF, w_sI, w_sR, w_sL, w_sC, w_sk, w_sbr, w_sco, w_rV, w_rI, w_rR, w_rL, w_dI, w_sO, w_sq, w_si, w_pI, w_pZ, w_pR, w_pU, w_qI, w_qB, w_qZ, w_qU, w_qR, w_kV, q_icst, q_lcst, q_xR, q_ldI, q_ldR, q_ldL, q_bn, q_un, q_dv, q_fI, q_fR, q_aI, q_aR, q_aN, q_tn, q_cmp, q_cmz, q_cnt, q_ctt, q_cand, q_cor, q_vn, q_vI, q_vR, q_vL, q_kI, q_kR, q_kL, q_ckI, envN, argE, List.flatMap_cons, List.flatMap_nil, Value.category, junk, oadd, osub, omul, oand, oor, oxor, odiv, orem, oshl, oshr, oushr, omax, omin]; simp [rk_i, rk_b, rk_o, st1, kill, Value.category, rcv, nog, hn3, r1, r2, r46]) (by simp [st1, kill, Value.category]) ?_
            refine w_for (lo := lo) (hi := hh + 1) (fun m E h' => E = [.ref 157, .int (nI k), .ref (ra k), .int (nI a), .int (nI b), .int (nI m)] ∧ Fr (fun x _ => x = B) h h' ∧ PR B h' (MV w k lo hh (h.2.1 A) fun x y z => x < a ∨ (x = a ∧ (y < b ∨ (y = b ∧ z < m))))) (fun m E h' => E = [.ref 157, .int (nI k), .ref (ra k), .int (nI a), .int (nI b), .int (nI m)] ∧ Fr (fun x _ => x = B) h h' ∧ PR B h' (MV w k lo hh (h.2.1 A) fun x y z => x < a ∨ (x = a ∧ (y < b ∨ (y = b ∧ z < m + 1))))) (by omega) ⟨rfl, f3, PR_MV pr3 fun x y m x1 x2 x3 x4 x5 => by omega⟩ ?_ ?_
            · rintro m E h4 hm1 hm2 ⟨rfl, f4, pr4⟩
              have q4 : DX w T ra A B h4 := q.fr (f4.sub fun a k z => by unfold S61; omega)
              have hn4 := q4.1.1.1
              have pA4 := q4.2.2.1
              have pB4 := q4.2.2.2.1
              obtain ⟨-, -, r1, r2, r4⟩ := q4.1.row hk
              have r47 := r4 7 (by omega)
              rw [e2] at r47
              have eA4 : ∀ j, h4.2.1 A j = h.2.1 A j := fun j => f4.2.2 A j hAB
              have hbit : ev (cnt (cmz zeq (bn oand (bn oushr (aI 13 (fR 2 3 (ldR 0)) (ldI 3)) (ldI 4)) (icst 1)))) [.ref 157, .int (nI k), .ref (ra k), .int (nI a), .int (nI b), .int (nI m)] h4 fun t h5 => t = bI (h.2.1 A a) b ∧ h5 = h4 := ev_bit _ b (by omega) (by simp only [f_mkF, w_sI, w_sR, w_sL, w_sC, w_sk, w_sbr, w_sco, w_rV, w_rI, w_rR, w_rL, w_dI, w_sO, w_sq, w_si, w_pI, w_pZ, w_pR, w_pU, w_qI, w_qB, w_qZ, w_qU, w_qR, w_kV, q_icst, q_lcst, q_xR, q_ldI, q_ldR, q_ldL, q_bn, q_un, q_dv, q_fI, q_fR, q_aI, q_aR, q_aN, q_tn, q_cmp, q_cmz, q_cnt, q_ctt, q_cand, q_cor, q_vn, q_vI, q_vR, q_vL, q_kI, q_kR, q_kL, q_ckI, envN, argE, List.flatMap_cons, List.flatMap_nil, Value.category, junk, oadd, osub, omul, oand, oor, oxor, odiv, orem, oshl, oshr, oushr, omax, omin]; simp (disch := first | omega | simp) [rk_i, rk_b, rk_o, st1, kill, Value.category, rcv, nog, inI_b, nI_clamp, nI_ltI, nI_leI, nI_eq, nI_9, nI_6, nI_22, nI_12, nI_180, nI_add, nI_1, hn4, ly157, pA4, hA2, hLA, eA4, ha21]) (by simp only [f_mkF, w_sI, w_sR, w_sL, w_sC, w_sk, w_sbr, w_sco, w_rV, w_rI, w_rR, w_rL, w_dI, w_sO, w_sq, w_si, w_pI, w_pZ, w_pR, w_pU, w_qI, w_qB, w_qZ, w_qU, w_qR, w_kV, q_icst, q_lcst, q_xR, q_ldI, q_ldR, q_ldL, q_bn, q_un, q_dv, q_fI, q_fR, q_aI, q_aR, q_aN, q_tn, q_cmp, q_cmz, q_cnt, q_ctt, q_cand, q_cor, q_vn, q_vI, q_vR, q_vL, q_kI, q_kR, q_kL, q_ckI, envN, argE, List.flatMap_cons, List.flatMap_nil, Value.category, junk, oadd, osub, omul, oand, oor, oxor, odiv, orem, oshl, oshr, oushr, omax, omin]; simp)
              rw [q_cand]
              refine ev_mono hbit ?_
              rintro t h5 ⟨rfl, rfl⟩
              refine ⟨fun c1 => ?_, fun c1 => ?_⟩
              · obtain ⟨ra1, rb1, hab⟩ := hR a b ha21 (by omega) c1
                by_cases hmh : m ≤ hh
                · refine ev_T ?_ ⟨rfl, fun _ => ⟨by omega, ?_⟩, fun z => by cases z⟩
                  · simp only [f_mkF, w_sI, w_sR, w_sL, w_sC, w_sk, w_sbr, w_sco, w_rV, w_rI, w_rR, w_rL, w_dI, w_sO, w_sq, w_si, w_pI, w_pZ, w_pR, w_pU, w_qI, w_qB, w_qZ, w_qU, w_qR, w_kV, q_icst, q_lcst, q_xR, q_ldI, q_ldR, q_ldL, q_bn, q_un, q_dv, q_fI, q_fR, q_aI, q_aR, q_aN, q_tn, q_cmp, q_cmz, q_cnt, q_ctt, q_cand, q_cor, q_vn, q_vI, q_vR, q_vL, q_kI, q_kR, q_kL, q_ckI, envN, argE, List.flatMap_cons, List.flatMap_nil, Value.category, junk, oadd, osub, omul, oand, oor, oxor, odiv, orem, oshl, oshr, oushr, omax, omin]
                    simp (disch := first | omega | simp) [rk_i, rk_b, rk_o, st1, kill, Value.category, rcv, nog, inI_b, nI_clamp, nI_ltI, nI_leI, nI_eq, nI_9, nI_6, nI_22, nI_12, nI_180, nI_add, nI_1, hn4, r1, r2, r47, hmh]
                  have l1 : (W_R w k 6).toInt ≤ (m : Int) := by rw [e1, nI_toInt (by omega)]; omega
                  have l2 : (m : Int) ≤ (W_R w k 7).toInt := by rw [e2, nI_toInt (by omega)]; omega
                  have na := x_next q4 hk ra1 l1 l2
                  have nb := x_next q4 hk rb1 l1 l2
                  have ba : nxt w 0 k a (nI m) < 21 := by
                    obtain ⟨md, -, e⟩ := ra1
                    have := ((stt_nb w 0 md k).n 0 (nI m)).1
                    rw [e] at this
                    omega
                  have bb : nxt w 0 k b (nI m) < 21 := by
                    obtain ⟨md, -, e⟩ := rb1
                    have := ((stt_nb w 0 md k).n 0 (nI m)).1
                    rw [e] at this
                    omega
                  refine w_kVe [.ref B, .int (nI (nxt w 0 k a (nI m))), .int (nI (nxt w 0 k b (nI m)))] ?_ (by simp [nog]) (fq_mono (x_pair hn4 hB ba bb pr4) ?_)
                  · simp only [f_mkF, w_sI, w_sR, w_sL, w_sC, w_sk, w_sbr, w_sco, w_rV, w_rI, w_rR, w_rL, w_dI, w_sO, w_sq, w_si, w_pI, w_pZ, w_pR, w_pU, w_qI, w_qB, w_qZ, w_qU, w_qR, w_kV, q_icst, q_lcst, q_xR, q_ldI, q_ldR, q_ldL, q_bn, q_un, q_dv, q_fI, q_fR, q_aI, q_aR, q_aN, q_tn, q_cmp, q_cmz, q_cnt, q_ctt, q_cand, q_cor, q_vn, q_vI, q_vR, q_vL, q_kI, q_kR, q_kL, q_ckI, envN, argE, List.flatMap_cons, List.flatMap_nil, Value.category, junk, oadd, osub, omul, oand, oor, oxor, odiv, orem, oshl, oshr, oushr, omax, omin]
                    simp (disch := first | omega | simp) [rk_i, rk_b, rk_o, st1, kill, Value.category, rcv, nog, hn4, ly157, pB4, fq_of na, fq_of nb]
                  · rintro r h6 ⟨rfl, f6, pr6⟩
                    refine ⟨rfl, rfl, rfl, f4.trans f6, pr6.c fun x y _ => ?_⟩
                    have key : ∀ x y, (MV w k lo hh (h.2.1 A) (fun x y z => x < a ∨ (x = a ∧ (y < b ∨ (y = b ∧ z < m)))) x y ∨ (x = nxt w 0 k a (nI m) ∧ y = nxt w 0 k b (nI m))) ↔ MV w k lo hh (h.2.1 A) (fun x y z => x < a ∨ (x = a ∧ (y < b ∨ (y = b ∧ z < m + 1)))) x y := by
                      intro x y
                      constructor
                      · rintro (⟨x0, y0, m0, z1, z2⟩ | ⟨rfl, rfl⟩)
                        · exact ⟨x0, y0, m0, by omega, z2⟩
                        · exact ⟨a, b, m, by omega, ⟨ha21, hb21, c1, hm1, hmh⟩, rfl, rfl⟩
                      · rintro ⟨x0, y0, m0, z1, z2, z3, z4⟩
                        by_cases e : x0 = a ∧ y0 = b ∧ m0 = m
                        · obtain ⟨rfl, rfl, rfl⟩ := e
                          exact Or.inr ⟨z3.symm, z4.symm⟩
                        · exact Or.inl ⟨x0, y0, m0, by omega, z2, z3, z4⟩
                    rw [key, key]
                · refine ev_F ?_ ⟨rfl, (fun z => by cases z), fun _ => ⟨rfl, _, rfl, rfl, f4, PR_MV pr4 fun x y z x1 x2 x3 x4 x5 => by omega⟩⟩
                  simp only [f_mkF, w_sI, w_sR, w_sL, w_sC, w_sk, w_sbr, w_sco, w_rV, w_rI, w_rR, w_rL, w_dI, w_sO, w_sq, w_si, w_pI, w_pZ, w_pR, w_pU, w_qI, w_qB, w_qZ, w_qU, w_qR, w_kV, q_icst, q_lcst, q_xR, q_ldI, q_ldR, q_ldL, q_bn, q_un, q_dv, q_fI, q_fR, q_aI, q_aR, q_aN, q_tn, q_cmp, q_cmz, q_cnt, q_ctt, q_cand, q_cor, q_vn, q_vI, q_vR, q_vL, q_kI, q_kR, q_kL, q_ckI, envN, argE, List.flatMap_cons, List.flatMap_nil, Value.category, junk, oadd, osub, omul, oand, oor, oxor, odiv, orem, oshl, oshr, oushr, omax, omin]
                  simp (disch := first | omega | simp) [rk_i, rk_b, rk_o, st1, kill, Value.category, rcv, nog, inI_b, nI_clamp, nI_ltI, nI_leI, nI_eq, nI_9, nI_6, nI_22, nI_12, nI_180, nI_add, nI_1, hn4, r1, r2, r47]
                  try omega
              · refine ⟨rfl, (fun z => by cases z), fun _ => ⟨rfl, _, rfl, rfl, f4, PR_MV pr4 fun x y z x1 x2 x3 x4 x5 => ?_⟩⟩
                have : ¬ (x = a ∧ y = b) := fun e => by rw [e.1, e.2, c1] at x3; cases x3
                omega
            · rintro m E h4 - - ⟨rfl, f4, pr4⟩
              exact ⟨rfl, by simp [st1, kill, Value.category], f4, pr4⟩
          · refine ev_F ?_ ⟨rfl, (fun z => by cases z), fun _ => ⟨rfl, _, _, rfl, ⟨rfl, c5⟩, f3, pr3' (Or.inr (by omega))⟩⟩
            simp only [f_mkF, w_sI, w_sR, w_sL, w_sC, w_sk, w_sbr, w_sco, w_rV, w_rI, w_rR, w_rL, w_dI, w_sO, w_sq, w_si, w_pI, w_pZ, w_pR, w_pU, w_qI, w_qB, w_qZ, w_qU, w_qR, w_kV, q_icst, q_lcst, q_xR, q_ldI, q_ldR, q_ldL, q_bn, q_un, q_dv, q_fI, q_fR, q_aI, q_aR, q_aN, q_tn, q_cmp, q_cmz, q_cnt, q_ctt, q_cand, q_cor, q_vn, q_vI, q_vR, q_vL, q_kI, q_kR, q_kL, q_ckI, envN, argE, List.flatMap_cons, List.flatMap_nil, Value.category, junk, oadd, osub, omul, oand, oor, oxor, odiv, orem, oshl, oshr, oushr, omax, omin]
            simp (disch := first | omega | simp) [rk_i, rk_b, rk_o, st1, kill, Value.category, rcv, nog, inI_b, nI_clamp, nI_ltI, nI_leI, nI_eq, nI_9, nI_6, nI_22, nI_12, nI_180, nI_add, nI_1, k21]
            try omega
        · rintro b E h3 - - ⟨v5, rfl, c5, f3, pr3⟩
          exact ⟨rfl, v5, by simp [st1, kill, Value.category], c5, f3, pr3⟩
      · refine ev_F ?_ ⟨rfl, (fun z => by cases z), fun _ => ⟨rfl, ⟨_, _, _, rfl, rfl, c4, c5⟩, f2, PR_MV pr2 fun x y m x1 x2 x3 x4 x5 => ?_⟩⟩
        · simp only [f_mkF, w_sI, w_sR, w_sL, w_sC, w_sk, w_sbr, w_sco, w_rV, w_rI, w_rR, w_rL, w_dI, w_sO, w_sq, w_si, w_pI, w_pZ, w_pR, w_pU, w_qI, w_qB, w_qZ, w_qU, w_qR, w_kV, q_icst, q_lcst, q_xR, q_ldI, q_ldR, q_ldL, q_bn, q_un, q_dv, q_fI, q_fR, q_aI, q_aR, q_aN, q_tn, q_cmp, q_cmz, q_cnt, q_ctt, q_cand, q_cor, q_vn, q_vI, q_vR, q_vL, q_kI, q_kR, q_kL, q_ckI, envN, argE, List.flatMap_cons, List.flatMap_nil, Value.category, junk, oadd, osub, omul, oand, oor, oxor, odiv, orem, oshl, oshr, oushr, omax, omin]
          simp (disch := first | omega | simp) [rk_i, rk_b, rk_o, st1, kill, Value.category, rcv, nog, inI_b, nI_clamp, nI_ltI, nI_leI, nI_eq, nI_9, nI_6, nI_22, nI_12, nI_180, nI_add, nI_1, k21]
          try omega
        · exact iff_of_true (by omega) trivial
    · rintro a E h2 - - ⟨v4, v5, rfl, ⟨c4, c5⟩, f2, pr2⟩
      exact ⟨rfl, v4, v5, by simp [st1, kill, Value.category], ⟨c4, c5⟩, f2, pr2⟩
  rintro E2 h2 ⟨⟨v3, v4, v5, rfl, c3, c4, c5⟩, f2, pr2⟩
  have q2 : DX w T ra A B h2 := q.fr (f2.sub fun a k z => by unfold S61; omega)
  have hn2 := q2.1.1.1
  have pA2 := q2.2.2.1
  have pB2 := q2.2.2.2.1
  refine w_sqR (E' := [.ref 157, .int (nI k), .ref (ra k), .ref A, v4, v5]) A (by simp only [f_mkF, w_sI, w_sR, w_sL, w_sC, w_sk, w_sbr, w_sco, w_rV, w_rI, w_rR, w_rL, w_dI, w_sO, w_sq, w_si, w_pI, w_pZ, w_pR, w_pU, w_qI, w_qB, w_qZ, w_qU, w_qR, w_kV, q_icst, q_lcst, q_xR, q_ldI, q_ldR, q_ldL, q_bn, q_un, q_dv, q_fI, q_fR, q_aI, q_aR, q_aN, q_tn, q_cmp, q_cmz, q_cnt, q_ctt, q_cand, q_cor, q_vn, q_vI, q_vR, q_vL, q_kI, q_kR, q_kL, q_ckI, envN, argE, List.flatMap_cons, List.flatMap_nil, Value.category, junk, oadd, osub, omul, oand, oor, oxor, odiv, orem, oshl, oshr, oushr, omax, omin]; simp [hn2, ly157, pA2]) (by simp [st1, kill, Value.category]) ?_
  (refine w_fz fun B hB C hC => ?_); (simp only [f_mkF, w_sI, w_sR, w_sL, w_sC, w_sk, w_sbr, w_sco, w_rV, w_rI, w_rR, w_rL, w_dI, w_sO, w_sq, w_si, w_pI, w_pZ, w_pR, w_pU, w_qI, w_qB, w_qZ, w_qU, w_qR, w_kV, q_icst, q_lcst, q_xR, q_ldI, q_ldR, q_ldL, q_bn, q_un, q_dv, q_fI, q_fR, q_aI, q_aR, q_aN, q_tn, q_cmp, q_cmz, q_cnt, q_ctt, q_cand, q_cor, q_vn, q_vI, q_vR, q_vL, q_kI, q_kR, q_kL, q_ckI, envN, argE, List.flatMap_cons, List.flatMap_nil, Value.category, junk, oadd, osub, omul, oand, oor, oxor, odiv, orem, oshl, oshr, oushr, omax, omin]); (simp (disch := first | omega | simp) [rk_i, rk_b, rk_o, st1, kill, Value.category, rcv, nog, inI_b, nI_clamp, nI_ltI, nI_leI, nI_eq, nI_9, nI_6, nI_22, nI_12, nI_180, nI_add, nI_1, hn2, ly157, pB2]); (subst hB hC)
  (refine w_fz fun B hB C hC => ?_); (simp only [f_mkF, w_sI, w_sR, w_sL, w_sC, w_sk, w_sbr, w_sco, w_rV, w_rI, w_rR, w_rL, w_dI, w_sO, w_sq, w_si, w_pI, w_pZ, w_pR, w_pU, w_qI, w_qB, w_qZ, w_qU, w_qR, w_kV, q_icst, q_lcst, q_xR, q_ldI, q_ldR, q_ldL, q_bn, q_un, q_dv, q_fI, q_fR, q_aI, q_aR, q_aN, q_tn, q_cmp, q_cmz, q_cnt, q_ctt, q_cand, q_cor, q_vn, q_vI, q_vR, q_vL, q_kI, q_kR, q_kL, q_ckI, envN, argE, List.flatMap_cons, List.flatMap_nil, Value.category, junk, oadd, osub, omul, oand, oor, oxor, odiv, orem, oshl, oshr, oushr, omax, omin]); (simp (disch := first | omega | simp) [rk_i, rk_b, rk_o, st1, kill, Value.category, rcv, nog, inI_b, nI_clamp, nI_ltI, nI_leI, nI_eq, nI_9, nI_6, nI_22, nI_12, nI_180, nI_add, nI_1, hn2, ly157, wR_1]); (subst hB hC)
  rw [w_rV]
  refine Or.inl ⟨rfl, rfl, rfl, ⟨f2.1, fun a k z => ?_, fun a k z => f2.2.2 a k fun e => z (by unfold S61; omega)⟩, ⟨q2.1.rq rfl (fun a k z => ?_) rfl, q2.2.1.e fun a k _ => rfl, ?_, ?_, by omega⟩, pr2⟩
  · rw [wR_r, if_neg (by omega), wR_r, if_neg (by omega), f2.2.1]
  · rw [wR_r, if_neg (by omega), wR_r, if_neg (by omega)]
  · simp [wR_r]
  · simp [wR_r]
