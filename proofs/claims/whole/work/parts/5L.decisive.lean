/-! hangs: the class decides -/
theorem x_onep {w : Wd} {T : Nat} {ra : Nat → Nat} {A B : Nat} {h : Hp} (q : DX w T ra A B h) {P : Nat → Nat → Prop} (pr : PR A h P) (hP : ∀ a b, P a b → a < 21 ∧ b < 21) : fq F_X2_isOnePairLeft [.ref 157] h fun r h' => h' = h ∧ ∃ x, r = some (.int x) ∧ ((x = 1 ∧ ∃ a b, a ≠ b ∧ P a b) ∨ (x = 0 ∧ ¬ ∃ a b, a ≠ b ∧ P a b)) := by
  have k21 : (21 : Int32) = nI 21 := rfl
  have hn := q.1.1.1
  have pA := q.2.2.1
  have pAB := q.2.2.2.2
  have hA : A = 160 ∨ A = 161 := by omega
  have hA2 : A < 212 := by omega
  have hLA : LY A = (13, 21) := by rcases hA with rfl | rfl <;> rfl
  unfold F_X2_isOnePairLeft
  refine f_mkE [.ref 157, junk] rfl (by simp [argE, Value.category]) ?_
  refine w_sq.mpr ?_
  refine w_sqI (E' := [.ref 157, .int (nI 0)]) (nI 0) (by simp only [f_mkF, w_sI, w_sR, w_sL, w_sC, w_sk, w_sbr, w_sco, w_rV, w_rI, w_rR, w_rL, w_dI, w_sO, w_sq, w_si, w_pI, w_pZ, w_pR, w_pU, w_qI, w_qB, w_qZ, w_qU, w_qR, w_kV, q_icst, q_lcst, q_xR, q_ldI, q_ldR, q_ldL, q_bn, q_un, q_dv, q_fI, q_fR, q_aI, q_aR, q_aN, q_tn, q_cmp, q_cmz, q_cnt, q_ctt, q_cand, q_cor, q_vn, q_vI, q_vR, q_vL, q_kI, q_kR, q_kL, q_ckI, envN, argE, List.flatMap_cons, List.flatMap_nil, Value.category, junk, oadd, osub, omul, oand, oor, oxor, odiv, orem, oshl, oshr, oushr, omax, omin]; simp [nI_0]) rfl ?_
  refine wp_mono (w_lp (Q := fun o v _ h' => h' = h ∧ ((o = 0 ∧ ∀ a, a < 21 → h.2.1 A a = 0) ∨ (o = 2 ∧ v = .int 1 ∧ ∃ a, a < 21 ∧ h.2.1 A a ≠ 0))) (fun k E h' => h' = h ∧ ∃ a, k = 21 - a ∧ a ≤ 21 ∧ E = [.ref 157, .int (nI a)] ∧ ∀ a', a' < a → h.2.1 A a' = 0) ?_ 21 _ _ ⟨rfl, 0, rfl, by omega, rfl, fun a' z => by omega⟩) ?_
  · rintro k E h' ⟨rfl, a, rfl, ha, rfl, hz⟩
    by_cases ha21 : a < 21
    · refine ev_T ?_ ⟨fun z => (by cases z), fun _ => ?_⟩
      · simp only [f_mkF, w_sI, w_sR, w_sL, w_sC, w_sk, w_sbr, w_sco, w_rV, w_rI, w_rR, w_rL, w_dI, w_sO, w_sq, w_si, w_pI, w_pZ, w_pR, w_pU, w_qI, w_qB, w_qZ, w_qU, w_qR, w_kV, q_icst, q_lcst, q_xR, q_ldI, q_ldR, q_ldL, q_bn, q_un, q_dv, q_fI, q_fR, q_aI, q_aR, q_aN, q_tn, q_cmp, q_cmz, q_cnt, q_ctt, q_cand, q_cor, q_vn, q_vI, q_vR, q_vL, q_kI, q_kR, q_kL, q_ckI, envN, argE, List.flatMap_cons, List.flatMap_nil, Value.category, junk, oadd, osub, omul, oand, oor, oxor, odiv, orem, oshl, oshr, oushr, omax, omin]
        simp (disch := first | omega | simp) [rk_i, rk_b, rk_o, st1, kill, Value.category, rcv, nog, inI_b, nI_clamp, nI_ltI, nI_leI, nI_eq, nI_9, nI_6, nI_22, nI_12, nI_180, nI_add, nI_1, k21, ha21]
      by_cases e : h'.2.1 A a = 0
      · refine (w_siF ?_).mpr (w_sk.mpr ⟨fun _ => w_sCe (nI a) (nI (a + 1)) rfl (nI_1 _) rfl ⟨rfl, 21 - (a + 1), by omega, rfl, a + 1, rfl, by omega, rfl, fun a' z => ?_⟩, (fun z => by cases z), fun z => absurd rfl z⟩)
        · simp only [f_mkF, w_sI, w_sR, w_sL, w_sC, w_sk, w_sbr, w_sco, w_rV, w_rI, w_rR, w_rL, w_dI, w_sO, w_sq, w_si, w_pI, w_pZ, w_pR, w_pU, w_qI, w_qB, w_qZ, w_qU, w_qR, w_kV, q_icst, q_lcst, q_xR, q_ldI, q_ldR, q_ldL, q_bn, q_un, q_dv, q_fI, q_fR, q_aI, q_aR, q_aN, q_tn, q_cmp, q_cmz, q_cnt, q_ctt, q_cand, q_cor, q_vn, q_vI, q_vR, q_vL, q_kI, q_kR, q_kL, q_ckI, envN, argE, List.flatMap_cons, List.flatMap_nil, Value.category, junk, oadd, osub, omul, oand, oor, oxor, odiv, orem, oshl, oshr, oushr, omax, omin]
          simp (disch := first | omega | simp) [rk_i, rk_b, rk_o, st1, kill, Value.category, rcv, nog, inI_b, nI_clamp, nI_ltI, nI_leI, nI_eq, nI_9, nI_6, nI_22, nI_12, nI_180, nI_add, nI_1, hn, ly157, pA, hA2, hLA, e, ha21]
        · by_cases y : a' = a
          · rw [y]; exact e
          · exact hz a' (by omega)
      · refine (w_siT ?_).mpr ?_
        · simp only [f_mkF, w_sI, w_sR, w_sL, w_sC, w_sk, w_sbr, w_sco, w_rV, w_rI, w_rR, w_rL, w_dI, w_sO, w_sq, w_si, w_pI, w_pZ, w_pR, w_pU, w_qI, w_qB, w_qZ, w_qU, w_qR, w_kV, q_icst, q_lcst, q_xR, q_ldI, q_ldR, q_ldL, q_bn, q_un, q_dv, q_fI, q_fR, q_aI, q_aR, q_aN, q_tn, q_cmp, q_cmz, q_cnt, q_ctt, q_cand, q_cor, q_vn, q_vI, q_vR, q_vL, q_kI, q_kR, q_kL, q_ckI, envN, argE, List.flatMap_cons, List.flatMap_nil, Value.category, junk, oadd, osub, omul, oand, oor, oxor, odiv, orem, oshl, oshr, oushr, omax, omin]
          simp (disch := first | omega | simp) [rk_i, rk_b, rk_o, st1, kill, Value.category, rcv, nog, inI_b, nI_clamp, nI_ltI, nI_leI, nI_eq, nI_9, nI_6, nI_22, nI_12, nI_180, nI_add, nI_1, hn, ly157, pA, hA2, hLA, e, ha21]
        · rw [w_rI, q_icst]
          exact ⟨(fun z => by omega), (fun z => by omega), fun _ _ _ => ⟨rfl, Or.inr ⟨rfl, rfl, a, ha21, e⟩⟩⟩
    · refine ev_F ?_ ⟨fun _ => ⟨rfl, Or.inl ⟨rfl, fun a' z => hz a' (by omega)⟩⟩, fun z => (by cases z)⟩
      simp only [f_mkF, w_sI, w_sR, w_sL, w_sC, w_sk, w_sbr, w_sco, w_rV, w_rI, w_rR, w_rL, w_dI, w_sO, w_sq, w_si, w_pI, w_pZ, w_pR, w_pU, w_qI, w_qB, w_qZ, w_qU, w_qR, w_kV, q_icst, q_lcst, q_xR, q_ldI, q_ldR, q_ldL, q_bn, q_un, q_dv, q_fI, q_fR, q_aI, q_aR, q_aN, q_tn, q_cmp, q_cmz, q_cnt, q_ctt, q_cand, q_cor, q_vn, q_vI, q_vR, q_vL, q_kI, q_kR, q_kL, q_ckI, envN, argE, List.flatMap_cons, List.flatMap_nil, Value.category, junk, oadd, osub, omul, oand, oor, oxor, odiv, orem, oshl, oshr, oushr, omax, omin]
      simp (disch := first | omega | simp) [rk_i, rk_b, rk_o, st1, kill, Value.category, rcv, nog, inI_b, nI_clamp, nI_ltI, nI_leI, nI_eq, nI_9, nI_6, nI_22, nI_12, nI_180, nI_add, nI_1, k21]
      try omega
  · rintro o v E1 h2 ⟨rfl, ⟨rfl, z⟩ | ⟨rfl, rfl, a, z1, z2⟩⟩
    · refine ⟨fun _ => ?_, fun z => absurd rfl z⟩
      rw [w_rI, q_icst]
      refine Or.inr ⟨rfl, rfl, rfl, 0, rfl, Or.inr ⟨rfl, ?_⟩⟩
      rintro ⟨a, b, hab, p⟩
      obtain ⟨l1, l2⟩ := hP a b p
      have b1 := pr a b l1 (by omega)
      have b2 := pr b a l2 (by omega)
      rw [z a l1, bI_0] at b1
      rw [z b l2, bI_0] at b2
      rcases Nat.lt_or_gt_of_ne hab with y | y
      · exact absurd (b1.mpr ⟨y, Or.inl p⟩) (by simp)
      · exact absurd (b2.mpr ⟨y, Or.inr p⟩) (by simp)
    · refine ⟨(fun z => by cases z), fun _ => Or.inr ⟨rfl, rfl, rfl, 1, rfl, Or.inl ⟨rfl, ?_⟩⟩⟩
      refine Classical.byContradiction fun y => z2 (bI_ext fun b hb => ?_)
      rw [bI_0]
      refine Bool.eq_false_iff.mpr fun x => y ?_
      obtain ⟨x1, x2 | x2⟩ := (pr a b z1 hb).mp x
      · exact ⟨a, b, by omega, x2⟩
      · exact ⟨b, a, by omega, x2⟩
def DV (w : Wd) (i lo hh : Nat) (c : Nat → Nat → Nat → Prop) (a' b' : Nat) : Prop := ∃ s m m', c s m m' ∧ (s < 21 ∧ Rch w i s ∧ lo ≤ m ∧ m < m' ∧ m' ≤ hh) ∧ nxt w 0 i s (nI m) = a' ∧ nxt w 0 i s (nI m') = b'
theorem PR_DV {w : Wd} {i lo hh : Nat} {c c' : Nat → Nat → Nat → Prop} {A : Nat} {h : Hp} (q : PR A h (DV w i lo hh c)) (e : ∀ s m m', s < 21 → Rch w i s → lo ≤ m → m < m' → m' ≤ hh → (c s m m' ↔ c' s m m')) : PR A h (DV w i lo hh c') := by
  have : ∀ x y, DV w i lo hh c x y ↔ DV w i lo hh c' x y := by
    intro x y
    constructor
    · rintro ⟨a, b, m, z1, ⟨z2, z3, z4, z5, z6⟩, z7⟩
      exact ⟨a, b, m, (e a b m z2 z3 z4 z5 z6).mp z1, ⟨z2, z3, z4, z5, z6⟩, z7⟩
    · rintro ⟨a, b, m, z1, ⟨z2, z3, z4, z5, z6⟩, z7⟩
      exact ⟨a, b, m, (e a b m z2 z3 z4 z5 z6).mpr z1, ⟨z2, z3, z4, z5, z6⟩, z7⟩
  exact q.c fun a b _ => by rw [this, this]
theorem mi_r {w : Wd} {i lo hh : Nat} (e1 : W_R w i 6 = nI lo) (e2 : W_R w i 7 = nI hh) (e3 : lo ≤ hh) (e4 : hh ≤ 2) {m : Int32} (h : (W_R w i 6).toInt ≤ m.toInt ∧ m.toInt ≤ (W_R w i 7).toInt) : ∃ x, m = nI x ∧ lo ≤ x ∧ x ≤ hh := by
  rw [e1, e2, nI_toInt (by omega), nI_toInt (by omega)] at h
  obtain ⟨x, x1, x2, x3⟩ := ofN (x := m) (a := 0) (b := 2) (by omega) (by omega)
  have x4 : x < 3 := by omega
  refine ⟨x, x1, ?_⟩
  rw [x1, nI_toInt (by omega)] at h
  omega
theorem mi_b {w : Wd} {i lo hh : Nat} (e1 : W_R w i 6 = nI lo) (e2 : W_R w i 7 = nI hh) (e4 : hh ≤ 2) {x : Nat} (h1 : lo ≤ x) (h2 : x ≤ hh) : (W_R w i 6).toInt ≤ (nI x).toInt ∧ (nI x).toInt ≤ (W_R w i 7).toInt := by
  rw [e1, e2, nI_toInt (by omega), nI_toInt (by omega), nI_toInt (by omega)]
  omega
theorem DV_Pq {w : Wd} {i lo hh : Nat} (hi : i < 20) (e1 : W_R w i 6 = nI lo) (e2 : W_R w i 7 = nI hh) (e3 : lo ≤ hh) (e4 : hh ≤ 2) {A : Nat} {h : Hp} (q : PR A h (DV w i lo hh fun _ _ _ => True)) : PR A h (Pq w i (i + 1)) := by
  refine q.c fun a b hab => ?_
  constructor
  · have k : ∀ a b, DV w i lo hh (fun _ _ _ => True) a b → Pq w i (i + 1) a b := by
      rintro a b ⟨s, m, m', -, ⟨-, h2, h3, h4, h5⟩, h6, h7⟩
      exact Pq_i.mpr ⟨s, nI m, nI m', h2, mi_b e1 e2 e4 h3 (by omega), mi_b e1 e2 e4 (by omega) h5, h6, h7⟩
    rintro (z | z)
    · exact Or.inl (k _ _ z)
    · exact Or.inr (k _ _ z)
  · have k : ∀ a b, a ≠ b → Pq w i (i + 1) a b → DV w i lo hh (fun _ _ _ => True) a b ∨ DV w i lo hh (fun _ _ _ => True) b a := by
      intro a b hab z
      obtain ⟨s, m, m', h1, h2, h3, h4, h5⟩ := Pq_i.mp z
      obtain ⟨x, rfl, x1, x2⟩ := mi_r e1 e2 e3 e4 h2
      obtain ⟨y, rfl, y1, y2⟩ := mi_r e1 e2 e3 e4 h3
      have hs := Rch_le h1
      rcases Nat.lt_trichotomy x y with c | c | c
      · exact Or.inl ⟨s, x, y, trivial, ⟨by omega, h1, x1, c, y2⟩, h4, h5⟩
      · subst c; exact absurd (h4.symm.trans h5) hab
      · exact Or.inr ⟨s, y, x, trivial, ⟨by omega, h1, y1, c, x2⟩, h5, h4⟩
    rintro (z | z)
    · exact k _ _ hab z
    · exact (k _ _ (Ne.symm hab) z).symm
theorem MV_Pq {w : Wd} {i k lo hh : Nat} (hk : i < k) (k20 : k < 20) (e1 : W_R w k 6 = nI lo) (e2 : W_R w k 7 = nI hh) (e3 : lo ≤ hh) (e4 : hh ≤ 2) {A B : Nat} {h h' : Hp} (q : PR A h (Pq w i k)) (q' : PR B h' (MV w k lo hh (h.2.1 A) fun _ _ _ => True)) : PR B h' (Pq w i (k + 1)) := by
  have hb : ∀ a b, a < 21 → b < 32 → (bI (h.2.1 A a) b = true ↔ a < b ∧ Pq w i k a b) := fun a b h1 h2 => by
    rw [q a b h1 h2]
    constructor
    · rintro ⟨z1, z2 | z2⟩
      · exact ⟨z1, z2⟩
      · exact ⟨z1, Pq_sy z2⟩
    · rintro ⟨z1, z2⟩; exact ⟨z1, Or.inl z2⟩
  refine q'.c fun a b hab => ?_
  constructor
  · have kk : ∀ a b, MV w k lo hh (h.2.1 A) (fun _ _ _ => True) a b → Pq w i (k + 1) a b := by
      rintro a b ⟨s, s', m, -, ⟨h1, h2, h3, h4, h5⟩, h6, h7⟩
      exact (Pq_s hk).mpr ⟨s, s', nI m, ((hb s s' h1 (by omega)).mp h3).2, mi_b e1 e2 e4 h4 h5, h6, h7⟩
    rintro (z | z)
    · exact Or.inl (kk _ _ z)
    · exact Or.inr (kk _ _ z)
  · have kk : ∀ a b, a ≠ b → Pq w i (k + 1) a b → MV w k lo hh (h.2.1 A) (fun _ _ _ => True) a b ∨ MV w k lo hh (h.2.1 A) (fun _ _ _ => True) b a := by
      intro a b hab z
      obtain ⟨s, s', m, h1, h2, h4, h5⟩ := (Pq_s hk).mp z
      obtain ⟨x, rfl, x1, x2⟩ := mi_r e1 e2 e3 e4 h2
      have hs := Pq_le h1
      rcases Nat.lt_trichotomy s s' with c | c | c
      · exact Or.inl ⟨s, s', x, trivial, ⟨by omega, by omega, (hb s s' (by omega) (by omega)).mpr ⟨c, h1⟩, x1, x2⟩, h4, h5⟩
      · subst c; exact absurd (h4.symm.trans h5) hab
      · exact Or.inr ⟨s', s, x, trivial, ⟨by omega, by omega, (hb s' s (by omega) (by omega)).mpr ⟨c, Pq_sy h1⟩, x1, x2⟩, h5, h4⟩
    rintro (z | z)
    · exact kk _ _ hab z
    · exact (kk _ _ (Ne.symm hab) z).symm
theorem PR_R {w : Wd} {i k A : Nat} {h : Hp} (q : PR A h (Pq w i k)) (a b : Nat) (ha : a < 21) (hb : b < 32) (z : bI (h.2.1 A a) b = true) : Rch w k a ∧ Rch w k b ∧ a < b := by
  obtain ⟨z1, z2 | z2⟩ := (q a b ha hb).mp z
  · exact ⟨(Pq_r z2).1, (Pq_r z2).2, z1⟩
  · exact ⟨(Pq_r z2).2, (Pq_r z2).1, z1⟩
