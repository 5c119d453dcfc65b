/-! law: both -/
theorem spl_l : ∀ q ∈ spl, ¬ ((q.1 = 146 ∧ q.2.1 = 4) ∨ q.1 = 4 ∨ (q.1 = 0 ∧ q.2.1 = 11)) := by decide
theorem INV_law {n : Nat} {h h' : Hp} {l sa : Nat} (hA : lawA sa) (q : INV LWc n h) (e1 : h'.1 = 212) (e2 : ∀ a k, ¬ ((a = 146 ∧ k = 4) ∨ a = 4 ∨ (a = 0 ∧ k = 11)) → h'.2.2 a k = h.2.2 a k) (e3 : ∀ a k, ¬ SE sa a k → ¬ (a = 12 ∧ k = 1) → ¬ SFm l a k → h'.2.1 a k = h.2.1 a k) (t1 : h'.2.1 12 1 = 0) (t2 : h'.2.1 166 20 = 0) (ic : Icla h') (il : Ilaw h') : INV LWc (n + 1) h' := by
  obtain ⟨q0, q1, q2, q3, q4, ⟨a1, a2, a3⟩, q6, q7, q8, ⟨q9, q9b⟩, q10⟩ := q
  have sm : ∀ S : Nat → Nat → Prop, (∀ a k, S a k → ¬ SE sa a k ∧ ¬ (a = 12 ∧ k = 1) ∧ ¬ SFm l a k) → same S h h' := fun S x a k s => e3 a k (x a k s).1 (x a k s).2.1 (x a k s).2.2
  have hx : ∀ a k, (a = 166 ∧ k ≤ 1) ∨ a = 13 ∨ a = 183 → h'.2.1 a k = h.2.1 a k := fun a k z => e3 a k (by unfold SE; unfold lawA at hA; omega) (by omega) (by unfold SFm; omega)
  have hnp : h'.2.1 166 1 = h.2.1 166 1 := hx 166 1 (by omega)
  have hw : h'.2.1 166 0 = h.2.1 166 0 := hx 166 0 (by omega)
  have hr0 : Irow (h'.1, h'.2.1, h.2.2) := Irow_c (h' := (h'.1, h'.2.1, h.2.2)) (sm _ fun a k z => ⟨by unfold Srow at z; unfold SE; unfold lawA at hA; omega, by unfold Srow at z; omega, by unfold Srow at z; unfold SFm; omega⟩) (fun _ _ _ => rfl) (by show _ ≤ (h'.2.1 166 1).toInt; rw [hnp]; exact Int.le_refl _) (by show _ ≤ (h'.2.1 166 0).toInt; rw [hw]; exact Int.le_refl _) q7
  have hr : Irow h' := by
    intro t ht
    obtain ⟨ra, z1, z2, z3⟩ := hr0 t ht
    exact ⟨ra, fun i hi => by rw [e2 _ _ (by omega)]; exact z1 i hi, z2, z3⟩
  refine ⟨⟨e1, fun x hx => ?_, fun k => ?_⟩, Iclk_c (sm _ fun a k z => ?_) q1, Iper_c (sm _ fun a k z => ?_) q2, Isen_c (sm _ fun a k z => ?_) q3, Iroa_c (sm _ fun a k z => ?_) q4, ⟨t1.trans t2.symm, by rw [t2]; decide, fun i => by rw [hx 13 i (by omega), hx 183 i (by omega)]; exact a3 i⟩, Ithi_c (sm _ fun a k z => ?_) (by rw [hnp]; exact Int.le_refl _) q6, hr, ic, ⟨il, ?_⟩, Icou_c (sm _ fun a k z => ?_) q10⟩
  · rw [e2 _ _ (spl_l x hx)]; exact q0.2.1 x hx
  · rw [e2 _ _ (by omega)]; exact q0.2.2 k
  · exact ⟨by unfold Sclk at z; unfold SE; unfold lawA at hA; omega, by unfold Sclk at z; omega, by unfold Sclk at z; unfold SFm; omega⟩
  · exact ⟨by unfold Sper at z; unfold SE; unfold lawA at hA; omega, by unfold Sper at z; omega, by unfold Sper at z; unfold SFm; omega⟩
  · exact ⟨by unfold Ssen at z; unfold SE; unfold lawA at hA; omega, by unfold Ssen at z; omega, by unfold Ssen at z; unfold SFm; omega⟩
  · exact ⟨by unfold Sroa at z; unfold SE; unfold lawA at hA; omega, by unfold Sroa at z; omega, by unfold Sroa at z; unfold SFm; omega⟩
  · exact ⟨by unfold Sthi at z; unfold SE; unfold lawA at hA; omega, by unfold Sthi at z; omega, by unfold Sthi at z; unfold SFm; omega⟩
  · unfold Ipai at *
    rw [e2 157 3 (by omega), e2 157 4 (by omega)]
    exact q9b
  · exact ⟨by unfold Scou at z; unfold SE; unfold lawA at hA; omega, by unfold Scou at z; omega, by unfold Scou at z; unfold SFm; omega⟩
theorem lawA_ne {la sa : Nat} (h1 : lawA la) (h2 : lawA sa) (h : la ≠ sa) {a k : Nat} (z1 : la ≤ a) (z2 : a ≤ la + 4) : ¬ SE sa a k ∧ ¬ (a = 12 ∧ k = 1) ∧ ∀ l, ¬ SFm l a k := by
  refine ⟨?_, ?_, fun l => ?_⟩
  · unfold SE; unfold lawA at h1 h2; omega
  · unfold lawA at h1; omega
  · unfold SFm; unfold lawA at h1; omega
theorem LM_m {h h' : Hp} {l m : Nat} {d : LDt} (hw : WD d) (hm : m ≠ l) (e : ∀ a k, 189 ≤ a → a ≤ 193 → ¬ SFm l a k → h'.2.1 a k = h.2.1 a k) (q : LM h m d) : LM h' m d := by
  obtain ⟨q1, q2⟩ := q
  obtain ⟨w1, w2⟩ := hw
  refine ⟨by rw [e _ _ (by omega) (by omega) (by unfold SFm; omega)]; exact q1, fun c hc => ?_⟩
  obtain ⟨r1, r2, r3, r4⟩ := q2 c hc
  obtain ⟨-, -, u, -⟩ := w2 c hc
  refine ⟨?_, ?_, ?_, fun k k1 k2 => ?_⟩
  · rw [e _ _ (by omega) (by omega) (by unfold SFm; omega)]; exact r1
  · rw [e _ _ (by omega) (by omega) (by unfold SFm; omega)]; exact r2
  · rw [e _ _ (by omega) (by omega) (by unfold SFm; omega)]; exact r3
  · rw [e _ _ (by omega) (by omega) (by unfold SFm; omega)]; exact r4 k k1 k2
theorem INV_lawE {n : Nat} {h h' : Hp} {l sa : Nat} (hsa : h.2.2 0 11 = some sa) (hA : lawA sa) (q : INV LWc n h) (e1 : h'.1 = 212) (e2 : h'.2.2 = (wR h 146 4 (some sa)).2.2) (e3 : ∀ a k, ¬ SE sa a k → ¬ (a = 12 ∧ k = 1) → ¬ SFe a k → h'.2.1 a k = h.2.1 a k) (t1 : h'.2.1 12 1 = 0) (t2 : h'.2.1 166 20 = 0) : INV LWc (n + 1) h' := by
  have rr : ∀ a k, ¬ (a = 146 ∧ k = 4) → h'.2.2 a k = h.2.2 a k := fun a k z => by rw [e2, wR_r, if_neg z]
  have q' := q
  obtain ⟨-, -, -, -, -, -, -, -, ⟨⟨sb, a1, a2, a3⟩, b, c⟩, ⟨⟨D, d⟩, -⟩, -⟩ := q'
  have es : sb = sa := by rw [hsa] at a1; exact (Option.some.inj a1).symm
  subst es
  have sl : ∀ la, lawA la → la ≠ sb → ∀ a k, la ≤ a → a ≤ la + 4 → h'.2.1 a k = h.2.1 a k := fun la z1 z2 a k z3 z4 => by
    obtain ⟨y1, y2, y3⟩ := lawA_ne z1 a2 z2 (k := k) z3 z4
    exact e3 a k y1 y2 (by unfold SFe; unfold lawA at z1; omega)
  have sM : ∀ a k, 189 ≤ a → a ≤ 193 → h'.2.1 a k = h.2.1 a k := fun a k z1 z2 => e3 a k (by unfold SE; unfold lawA at a2; omega) (by omega) (by unfold SFe; omega)
  refine INV_law (l := l) hA q e1 (fun a k z => rr a k (by omega)) (fun a k z1 z2 z3 => e3 a k z1 z2 (by unfold SFm at z3; unfold SFe; omega)) t1 t2 ⟨⟨sb, by rw [rr 0 11 (by omega)]; exact a1, a2, fun m hm => by rw [rr 4 m (by omega)]; exact a3 m hm⟩, fun m hm => ?_, fun m1 m2 z1 z2 => by rw [rr 4 m1 (by omega), rr 4 m2 (by omega)]; exact c m1 m2 z1 z2⟩ ⟨D, fun m hm => ?_⟩
  · obtain ⟨la, b1, b2, b3, b4⟩ := b m hm
    have ne : la ≠ sb := fun z => a3 m hm (z ▸ b1)
    refine ⟨la, by rw [rr 4 m (by omega)]; exact b1, b2, ?_, ?_⟩
    · rw [sl la b2 ne _ _ (by omega) (by omega), sM _ _ (by omega) (by omega)]; exact b3
    · rw [sM _ _ (by omega) (by omega)]; exact b4
  · obtain ⟨d1, ⟨la, d2, d3, d4⟩, d5⟩ := d m hm
    have ne : la ≠ sb := fun z => a3 m hm (z ▸ d2)
    exact ⟨d1, ⟨la, by rw [rr 4 m (by omega)]; exact d2, d3, LX_e (sl la d3 ne) d4⟩, LM_e sM d5⟩
theorem INV_lawK {n : Nat} {h h' : Hp} {l sa lb : Nat} (hl : l < 6) (hsa : h.2.2 0 11 = some sa) (hA : lawA sa) (hlb : h.2.2 4 l = some lb) (hB : lawA lb) (q : INV LWc n h) (e1 : h'.1 = 212) (e2 : h'.2.2 = (wR (wR (wR h 146 4 (some sa)) 4 l (some sa)) 0 11 (some lb)).2.2) (e3 : ∀ a k, ¬ SE sa a k → ¬ (a = 12 ∧ k = 1) → ¬ SFm l a k → h'.2.1 a k = h.2.1 a k) (t1 : h'.2.1 12 1 = 0) (t2 : h'.2.1 166 20 = 0) {A : List Cl} (hA12 : A.length ≤ 12) (hw : WD (dA A)) (lx : LX h' sa (dA A)) (lm : LM h' l (dA A)) : INV LWc (n + 1) h' := by
  have rr : ∀ a k, ¬ ((a = 146 ∧ k = 4) ∨ (a = 4 ∧ k = l) ∨ (a = 0 ∧ k = 11)) → h'.2.2 a k = h.2.2 a k := fun a k z => by rw [e2, wR_r, if_neg (by omega), wR_r, if_neg (by omega), wR_r, if_neg (by omega)]
  have r1 : h'.2.2 4 l = some sa := by rw [e2, wR_r, if_neg (by omega), wR_r, if_pos ⟨rfl, rfl⟩]
  have r2 : h'.2.2 0 11 = some lb := by rw [e2, wR_r, if_pos ⟨rfl, rfl⟩]
  have q' := q
  obtain ⟨-, -, -, -, -, -, -, -, ⟨⟨sb, a1, a2, a3⟩, b, c⟩, ⟨⟨D, d⟩, -⟩, -⟩ := q'
  have es : sb = sa := by rw [hsa] at a1; exact (Option.some.inj a1).symm
  subst es
  have nl : lb ≠ sb := fun z => a3 l hl (z ▸ hlb)
  have sl : ∀ la, lawA la → la ≠ sb → ∀ a k, la ≤ a → a ≤ la + 4 → h'.2.1 a k = h.2.1 a k := fun la z1 z2 a k z3 z4 => by
    obtain ⟨y1, y2, y3⟩ := lawA_ne z1 a2 z2 (k := k) z3 z4
    exact e3 a k y1 y2 (y3 l)
  have sM : ∀ a k, 189 ≤ a → a ≤ 193 → ¬ SFm l a k → h'.2.1 a k = h.2.1 a k := fun a k z1 z2 z3 => e3 a k (by unfold SE; unfold lawA at a2; omega) (by omega) z3
  have s190 : ∀ m, m ≠ l → h'.2.1 190 m = h.2.1 190 m := fun m hm => sM _ _ (by omega) (by omega) (by unfold SFm; omega)
  refine INV_law (l := l) hA q e1 (fun a k z => rr a k (by omega)) e3 t1 t2 ⟨⟨lb, r2, hB, fun m hm => ?_⟩, fun m hm => ?_, fun m1 m2 z1 z2 z => ?_⟩ ⟨fun m => if m = l then dA A else D m, fun m hm => ?_⟩
  · by_cases z : m = l
    · rw [z, r1]; intro w; exact nl (Option.some.inj w).symm
    · rw [rr 4 m (by omega)]; intro w; exact z (c m l hm hl (w.trans hlb.symm))
  · by_cases z : m = l
    · subst z
      have l1 := lx.1
      have l2 := lm.1
      refine ⟨sb, r1, a2, l1.trans l2.symm, ?_⟩
      have : lCn (dA A) ≤ 12 := hA12
      rw [l2, nI_toInt (by omega)]
      omega
    · obtain ⟨la, b1, b2, b3, b4⟩ := b m hm
      have ne : la ≠ sb := fun z => a3 m hm (z ▸ b1)
      refine ⟨la, by rw [rr 4 m (by omega)]; exact b1, b2, ?_, ?_⟩
      · rw [sl la b2 ne _ _ (by omega) (by omega), s190 m z]; exact b3
      · rw [s190 m z]; exact b4
  · by_cases y1 : m1 = l
    · by_cases y2 : m2 = l
      · omega
      · rw [y1, r1, rr 4 m2 (by omega)] at z
        exact absurd z.symm (a3 m2 z2)
    · by_cases y2 : m2 = l
      · rw [y2, r1, rr 4 m1 (by omega)] at z
        exact absurd z (a3 m1 z1)
      · rw [rr 4 m1 (by omega), rr 4 m2 (by omega)] at z
        exact c m1 m2 z1 z2 z
  · by_cases z : m = l
    · subst z
      simp only []
      rw [if_pos trivial]
      exact ⟨hw, ⟨sb, r1, a2, lx⟩, lm⟩
    · simp only []
      rw [if_neg z]
      obtain ⟨d1, ⟨la, d2, d3, d4⟩, d5⟩ := d m hm
      have ne : la ≠ sb := fun z => a3 m hm (z ▸ d2)
      exact ⟨d1, ⟨la, by rw [rr 4 m (by omega)]; exact d2, d3, LX_e (sl la d3 ne) d4⟩, LM_m d1 z sM d5⟩
theorem l_bad {n : Nat} {h : Hp} (q0 : Ip h) (a1 : h.2.1 12 1 = h.2.1 166 20) {a b : Int32} (hb : ¬ ((0 ≤ a ∧ a ≤ 5) ∧ (1 ≤ b ∧ b ≤ 160) ∧ b ≤ h.2.1 166 20)) (q : INV LWc (n + 1) h) : ∃ (r : Int32) (h1 h2 : Hp), F_X10_law (.ref 0 :: [a, b].map Value.int) h = some (some (.int r), h1) ∧ h1.1 = 212 ∧ F_X11_law (.ref 166 :: [a, b].map Value.int) h1 = some (some (.int r), h2) ∧ INV LWc (n + 1) h2 := by
  have hn := q0.1
  have v5 : h.2.2 0 5 = some 12 := q0.2.1.at 5 rfl
  have e1 := e_x_isLand a h
  have e2 := e_x_isWithin b 1 160 h
  have e3 := e_m_isLand a h
  have e4 := e_m_in b 1 160 h
  refine ⟨-1, h, h, ?_, hn, ?_, q⟩
  · rw [← fq_eq]
    unfold F_X10_law
    refine f_mkE [.ref 0, .int a, .int b, junk, junk] rfl (by simp [argE, Value.category]) ?_
    refine w_sq.mpr ((w_siT ?_).mpr ?_)
    · by_cases k1 : 0 ≤ a ∧ a ≤ 5
      · by_cases k2 : 1 ≤ b ∧ b ≤ 160
        · have k3 : ¬ b ≤ h.2.1 166 20 := fun z => hb ⟨k1, k2, z⟩
          rw [b2_1.mpr k1] at e1
          rw [b2_1.mpr k2] at e2
          simp only [f_mkF, w_sI, w_sR, w_sL, w_sC, w_sk, w_sbr, w_sco, w_rV, w_rI, w_rR, w_rL, w_dI, w_sO, w_sq, w_si, w_pI, w_pZ, w_pR, w_pU, w_qI, w_qB, w_qZ, w_qU, w_qR, w_kV, q_icst, q_lcst, q_xR, q_ldI, q_ldR, q_ldL, q_bn, q_un, q_dv, q_fI, q_fR, q_aI, q_aR, q_aN, q_tn, q_cmp, q_cmz, q_cnt, q_ctt, q_cand, q_cor, q_vn, q_vI, q_vR, q_vL, q_kI, q_kR, q_kL, q_ckI, envN, argE, List.flatMap_cons, List.flatMap_nil, Value.category, junk, oadd, osub, omul, oand, oor, oxor, odiv, orem, oshl, oshr, oushr, omax, omin]
          simp (disch := first | omega | simp) [rk_i, rk_b, rk_o, st1, kill, Value.category, rcv, nog, hn, ly0, ly12, v5, fq_of e1, fq_of e2, a1, Int32.not_le.mp k3]
        · rw [b2_1.mpr k1] at e1
          rw [b2_0.mpr k2] at e2
          simp only [f_mkF, w_sI, w_sR, w_sL, w_sC, w_sk, w_sbr, w_sco, w_rV, w_rI, w_rR, w_rL, w_dI, w_sO, w_sq, w_si, w_pI, w_pZ, w_pR, w_pU, w_qI, w_qB, w_qZ, w_qU, w_qR, w_kV, q_icst, q_lcst, q_xR, q_ldI, q_ldR, q_ldL, q_bn, q_un, q_dv, q_fI, q_fR, q_aI, q_aR, q_aN, q_tn, q_cmp, q_cmz, q_cnt, q_ctt, q_cand, q_cor, q_vn, q_vI, q_vR, q_vL, q_kI, q_kR, q_kL, q_ckI, envN, argE, List.flatMap_cons, List.flatMap_nil, Value.category, junk, oadd, osub, omul, oand, oor, oxor, odiv, orem, oshl, oshr, oushr, omax, omin]
          simp (disch := first | omega | simp) [rk_i, rk_b, rk_o, st1, kill, Value.category, rcv, nog, hn, ly0, ly12, v5, fq_of e1, fq_of e2]
      · rw [b2_0.mpr k1] at e1
        simp only [f_mkF, w_sI, w_sR, w_sL, w_sC, w_sk, w_sbr, w_sco, w_rV, w_rI, w_rR, w_rL, w_dI, w_sO, w_sq, w_si, w_pI, w_pZ, w_pR, w_pU, w_qI, w_qB, w_qZ, w_qU, w_qR, w_kV, q_icst, q_lcst, q_xR, q_ldI, q_ldR, q_ldL, q_bn, q_un, q_dv, q_fI, q_fR, q_aI, q_aR, q_aN, q_tn, q_cmp, q_cmz, q_cnt, q_ctt, q_cand, q_cor, q_vn, q_vI, q_vR, q_vL, q_kI, q_kR, q_kL, q_ckI, envN, argE, List.flatMap_cons, List.flatMap_nil, Value.category, junk, oadd, osub, omul, oand, oor, oxor, odiv, orem, oshl, oshr, oushr, omax, omin]
        simp (disch := first | omega | simp) [rk_i, rk_b, rk_o, st1, kill, Value.category, rcv, nog, hn, ly0, ly12, v5, fq_of e1]
    · simp only [f_mkF, w_sI, w_sR, w_sL, w_sC, w_sk, w_sbr, w_sco, w_rV, w_rI, w_rR, w_rL, w_dI, w_sO, w_sq, w_si, w_pI, w_pZ, w_pR, w_pU, w_qI, w_qB, w_qZ, w_qU, w_qR, w_kV, q_icst, q_lcst, q_xR, q_ldI, q_ldR, q_ldL, q_bn, q_un, q_dv, q_fI, q_fR, q_aI, q_aR, q_aN, q_tn, q_cmp, q_cmz, q_cnt, q_ctt, q_cand, q_cor, q_vn, q_vI, q_vR, q_vL, q_kI, q_kR, q_kL, q_ckI, envN, argE, List.flatMap_cons, List.flatMap_nil, Value.category, junk, oadd, osub, omul, oand, oor, oxor, odiv, orem, oshl, oshr, oushr, omax, omin]
      simp [rok]
  · rw [← fq_eq]
    unfold F_X11_law
    refine f_mkE [.ref 166, .int a, .int b, junk, junk, junk] rfl (by simp [argE, Value.category]) ?_
    refine w_sq.mpr ((w_siT ?_).mpr ?_)
    · by_cases k1 : 0 ≤ a ∧ a ≤ 5
      · by_cases k2 : 1 ≤ b ∧ b ≤ 160
        · have k3 : ¬ b ≤ h.2.1 166 20 := fun z => hb ⟨k1, k2, z⟩
          rw [b2_1.mpr k1] at e3
          rw [b2_1.mpr k2] at e4
          simp only [f_mkF, w_sI, w_sR, w_sL, w_sC, w_sk, w_sbr, w_sco, w_rV, w_rI, w_rR, w_rL, w_dI, w_sO, w_sq, w_si, w_pI, w_pZ, w_pR, w_pU, w_qI, w_qB, w_qZ, w_qU, w_qR, w_kV, q_icst, q_lcst, q_xR, q_ldI, q_ldR, q_ldL, q_bn, q_un, q_dv, q_fI, q_fR, q_aI, q_aR, q_aN, q_tn, q_cmp, q_cmz, q_cnt, q_ctt, q_cand, q_cor, q_vn, q_vI, q_vR, q_vL, q_kI, q_kR, q_kL, q_ckI, envN, argE, List.flatMap_cons, List.flatMap_nil, Value.category, junk, oadd, osub, omul, oand, oor, oxor, odiv, orem, oshl, oshr, oushr, omax, omin]
          simp (disch := first | omega | simp) [rk_i, rk_b, rk_o, st1, kill, Value.category, rcv, nog, hn, ly166, fq_of e3, fq_of e4, Int32.not_le.mp k3]
        · rw [b2_1.mpr k1] at e3
          rw [b2_0.mpr k2] at e4
          simp only [f_mkF, w_sI, w_sR, w_sL, w_sC, w_sk, w_sbr, w_sco, w_rV, w_rI, w_rR, w_rL, w_dI, w_sO, w_sq, w_si, w_pI, w_pZ, w_pR, w_pU, w_qI, w_qB, w_qZ, w_qU, w_qR, w_kV, q_icst, q_lcst, q_xR, q_ldI, q_ldR, q_ldL, q_bn, q_un, q_dv, q_fI, q_fR, q_aI, q_aR, q_aN, q_tn, q_cmp, q_cmz, q_cnt, q_ctt, q_cand, q_cor, q_vn, q_vI, q_vR, q_vL, q_kI, q_kR, q_kL, q_ckI, envN, argE, List.flatMap_cons, List.flatMap_nil, Value.category, junk, oadd, osub, omul, oand, oor, oxor, odiv, orem, oshl, oshr, oushr, omax, omin]
          simp (disch := first | omega | simp) [rk_i, rk_b, rk_o, st1, kill, Value.category, rcv, nog, hn, ly166, fq_of e3, fq_of e4]
      · rw [b2_0.mpr k1] at e3
        simp only [f_mkF, w_sI, w_sR, w_sL, w_sC, w_sk, w_sbr, w_sco, w_rV, w_rI, w_rR, w_rL, w_dI, w_sO, w_sq, w_si, w_pI, w_pZ, w_pR, w_pU, w_qI, w_qB, w_qZ, w_qU, w_qR, w_kV, q_icst, q_lcst, q_xR, q_ldI, q_ldR, q_ldL, q_bn, q_un, q_dv, q_fI, q_fR, q_aI, q_aR, q_aN, q_tn, q_cmp, q_cmz, q_cnt, q_ctt, q_cand, q_cor, q_vn, q_vI, q_vR, q_vL, q_kI, q_kR, q_kL, q_ckI, envN, argE, List.flatMap_cons, List.flatMap_nil, Value.category, junk, oadd, osub, omul, oand, oor, oxor, odiv, orem, oshl, oshr, oushr, omax, omin]
        simp (disch := first | omega | simp) [rk_i, rk_b, rk_o, st1, kill, Value.category, rcv, nog, hn, ly166, fq_of e3]
    · simp only [f_mkF, w_sI, w_sR, w_sL, w_sC, w_sk, w_sbr, w_sco, w_rV, w_rI, w_rR, w_rL, w_dI, w_sO, w_sq, w_si, w_pI, w_pZ, w_pR, w_pU, w_qI, w_qB, w_qZ, w_qU, w_qR, w_kV, q_icst, q_lcst, q_xR, q_ldI, q_ldR, q_ldL, q_bn, q_un, q_dv, q_fI, q_fR, q_aI, q_aR, q_aN, q_tn, q_cmp, q_cmz, q_cnt, q_ctt, q_cand, q_cor, q_vn, q_vI, q_vR, q_vL, q_kI, q_kR, q_kL, q_ckI, envN, argE, List.flatMap_cons, List.flatMap_nil, Value.category, junk, oadd, osub, omul, oand, oor, oxor, odiv, orem, oshl, oshr, oushr, omax, omin]
      simp [rok]
theorem g_law : AG (INV LWc) F_X10_law F_X11_law 2 := by
  intro n h vs hvs hn q
  match vs, hvs with
  | [a, b], _ =>
    have q' := q
    obtain ⟨q0, q1, q2, q3, q4, ⟨a1, a2, a3⟩, q6, q7, ⟨⟨sa, c1, c2, c3⟩, c4, c5⟩, q9, q10⟩ := q
    have hL := nI_toI a2.1
    have hL2 := clampI a2.1
    generalize (h.2.1 166 20).toNatClampNeg = L at *
    by_cases k1 : 0 ≤ a ∧ a ≤ 5
    · by_cases k2 : 1 ≤ b ∧ b ≤ 160
      · by_cases k3 : b ≤ h.2.1 166 20
        · obtain ⟨l, hl, rfl⟩ := nI_in2 (m := 5) rfl k1.1 k1.2
          obtain ⟨m, hm, rfl⟩ := nI_in2 (m := 160) rfl (Int32.le_trans (by decide) k2.1) k2.2
          have m1 : 1 ≤ m := by
            refine Classical.byContradiction fun z => ?_
            have : m = 0 := by omega
            subst this
            exact absurd k2.1 (by decide)
          have m2 : m ≤ L := by
            rw [hL, nI_leI (by omega) (by omega)] at k3
            exact k3
          obtain ⟨lb, d1, d2, -⟩ := c4 l (by omega)
          obtain ⟨s0, hs0⟩ : ∃ s0 : Nat → Nat, ∀ p, s0 p < 256 ∧ oand (h.2.1 13 p) 255 = nI (s0 p) := ⟨fun p => Classical.choose (and255 (h.2.1 13 p)), fun p => Classical.choose_spec (and255 (h.2.1 13 p))⟩
          obtain ⟨s, hs⟩ : ∃ s : Nat → Nat, s = fun p => if p < m then s0 p else 0 := ⟨_, rfl⟩
          have s1 : ∀ p, p < m → oand (h.2.1 13 p) 255 = nI (s p) := fun p hp => by rw [hs]; simp only; rw [if_pos hp]; exact (hs0 p).2
          have s2 : ∀ p, s p < 256 := fun p => by
            rw [hs]
            simp only
            have := (hs0 p).1
            split <;> omega
          have s3 : ∀ p, m ≤ p → s p = 0 := fun p hp => by rw [hs]; simp only; rw [if_neg (by omega)]
          clear hs
          obtain ⟨r1, h1, e1, rfl, f1, f2, f3, f4, f5⟩ := x_law q0 (by omega : l < 6) m1 hm (a1.trans hL) m2 (by omega) c1 c2 d1 d2 s1 s2 s3
          have fr : ∀ a k, 166 ≤ a → h1.2.1 a k = h.2.1 a k := fun a k z => f2 a k (by unfold SE; unfold lawA at c2; omega) (by omega)
          have pm1 : PM h1.2.2 := by
            intro k
            revert f5
            cases lawP s m 13 0 0 0 with
            | error f => intro f5; rw [f5, wR_r, if_neg (by omega)]; exact q0.2.2 k
            | ok A => intro f5; rw [f5, wR_r, if_neg (by omega), wR_r, if_neg (by omega), wR_r, if_neg (by omega)]; exact q0.2.2 k
          obtain ⟨r2, h2, e2, rfl, g1, g2⟩ := m_law (s := s) f1 pm1 (by omega : l < 6) m1 hm ((fr 166 20 (by omega)).trans hL) m2 (by omega) (fun p hp => by rw [fr 183 p (by omega), ← a3 p]; exact s1 p hp) s2 s3
          refine ⟨_, h1, h2, e1, f1, e2, ?_⟩
          have hF : ∀ A, lawP s m 13 0 0 0 = .ok A → _ := fun A z => lawP_p s2 s3 _ _ _ _ _ z
          generalize lawP s m 13 0 0 0 = V at *
          cases V with
          | error f =>
            have g2 : Fr SFe h1 h2 := g2
            refine INV_lawE (l := l) c1 c2 q' (g2.1.trans f1) (g2.2.1.trans f5) (fun a k z1 z2 z3 => (g2.2.2 a k z3).trans (f2 a k z1 z2)) ((g2.2.2 12 1 (by unfold SFe; omega)).trans f3) g1
          | ok A =>
            have hh := hF A rfl
            have g3 : Fr (SFm l) h1 h2 := g2.1
            obtain ⟨-, -, -, -, k, g4, g5⟩ := id g2
            refine INV_lawK (by omega : l < 6) c1 c2 d1 d2 q' (g3.1.trans f1) (g3.2.1.trans f5) (fun a k z1 z2 z3 => (g3.2.2 a k z3).trans (f2 a k z1 z2)) ((g3.2.2 12 1 (by unfold SFm; omega)).trans f3) g1 (A := A) (by omega) (WD_of g4 g5 (by omega) hh.1) (LX_of (f4.c (fun a k z1 z2 => g3.2.2 a k (by unfold SFm; unfold lawA at c2; omega)) (g3.2.2 146 3 (by unfold SFm; omega)))) (LM_of g2)
        · exact l_bad q0 a1 (fun z => k3 z.2.2) (INV_up q')
      · exact l_bad q0 a1 (fun z => k2 z.2.1) (INV_up q')
    · exact l_bad q0 a1 (fun z => k1 z.1) (INV_up q')
