/-! cheapest -/
theorem INV_q1 {n : Nat} {h h' : Hp} (q : INV LWc n h) (e1 : h'.1 = h.1) (e2 : ∀ a k, ¬ (a = 147 ∧ k = 12) → a ≠ 29 → a ≠ 51 → a ≠ 73 → a ≠ 95 → h'.2.2 a k = h.2.2 a k) (e3 : ∀ a k, ¬ SQ a k → ¬ SRw a k → h'.2.1 a k = h.2.1 a k) (hr : Irow h') (ic : IC (20 * (n + 1)) h') : INV LWc (n + 1) h' := by
  obtain ⟨q0, q1, q2, q3, q4, q5, q6, q7, q8, ⟨q9, pp⟩, q10⟩ := q
  have e : ∀ a k, (Sclk a k ∨ Sper a k ∨ Ssen a k ∨ Sroa a k ∨ Stap a k ∨ Sthi a k ∨ Slaw a k) → h'.2.1 a k = h.2.1 a k := fun a k z => e3 a k (by unfold Sclk Sper Ssen Sroa Stap Sthi Slaw at z; unfold SQ; omega) (by unfold Sclk Sper Ssen Sroa Stap Sthi Slaw at z; unfold SRw; omega)
  have hn : h'.2.1 166 1 = h.2.1 166 1 := e 166 1 (by unfold Sper; simp)
  have e4 : ∀ l, h'.2.2 4 l = h.2.2 4 l := fun l => e2 4 l (by omega) (by omega) (by omega) (by omega) (by omega)
  have ip : Ip h' := by
    refine ⟨e1.trans q0.1, fun x hx => ?_, fun k => ?_⟩
    · have s1 := spl_q x hx
      have s2 := spl_n x hx
      rw [e2 _ _ (fun z => s1 (Or.inl z)) (by omega) (by omega) (by omega) (by omega)]; exact q0.2.1 x hx
    · rw [e2 _ _ (by omega) (by omega) (by omega) (by omega) (by omega)]; exact q0.2.2 k
  have er : Icla h' := by
    obtain ⟨⟨sa, a1, a2, a3⟩, b, c⟩ := q8
    refine ⟨⟨sa, by rw [e2 0 11 (by omega) (by omega) (by omega) (by omega) (by omega)]; exact a1, a2, fun l hl => by rw [e4]; exact a3 l hl⟩, fun l hl => ?_, fun l m hl hm => by rw [e4, e4]; exact c l m hl hm⟩
    obtain ⟨la, d1, d2, d3, d4⟩ := b l hl
    refine ⟨la, by rw [e4]; exact d1, d2, ?_⟩
    rw [e la 5 (by unfold lawA at d2; unfold Slaw; omega), e 190 l (by unfold Slaw; omega)]
    exact ⟨d3, d4⟩
  have pp' : Ipai h' := by
    unfold Ipai at *
    rw [e2 157 3 (by omega) (by omega) (by omega) (by omega) (by omega), e2 157 4 (by omega) (by omega) (by omega) (by omega) (by omega)]
    exact pp
  exact ⟨ip, Iclk_c (fun a k s => e a k (by simp [s])) q1, Iper_c (fun a k s => e a k (by simp [s])) q2, Isen_c (fun a k s => e a k (by simp [s])) q3, Iroa_c (fun a k s => e a k (by simp [s])) q4, Itap_c (fun a k s => e a k (by simp [s])) q5, Ithi_c (fun a k s => e a k (by simp [s])) (by rw [hn]; omega) q6, hr, er, ⟨Ilaw_c (fun a k s => e a k (by simp [s])) e4 q9, pp'⟩, ic.1, ic.2⟩
/-- what the class changes while it has the two passings in mind -/
def Fz (T : Nat) (ra : Nat → Nat) (n : Nat) (h h' : Hp) : Prop := h'.1 = h.1 ∧ (∀ a k, a ≠ T + 1 → ¬ (a = 147 ∧ k = 12) → h'.2.2 a k = h.2.2 a k) ∧ (∀ i, i < 20 → h'.2.2 (T + 1) i = some (ra i)) ∧ ∀ a k, ¬ SK2 a k → a ≠ ra n → a ≠ ra (n + 1) → ¬ (a = T ∧ k = 1) → h'.2.1 a k = h.2.1 a k
theorem Fz.s {T : Nat} {ra : Nat → Nat} {n : Nat} {h h1 h2 : Hp} (a : Fk h h1) (b : Fs T ra n h1 h2) : Fz T ra n h h2 := ⟨b.1.trans a.1, fun x k z1 z2 => (b.2.1 x k z1).trans (a.2.1 x k z2), b.2.2.1, fun x k z1 z2 z3 z4 => (b.2.2.2 x k z2 z3 z4).trans (a.2.2 x k z1)⟩
theorem Fz.k {T : Nat} {ra : Nat → Nat} {n : Nat} {h h1 h2 : Hp} (hT : T < 115) (a : Fz T ra n h h1) (b : Fk h1 h2) : Fz T ra n h h2 := ⟨b.1.trans a.1, fun x k z1 z2 => (b.2.1 x k z2).trans (a.2.1 x k z1 z2), fun i hi => (b.2.1 _ _ (by omega)).trans (a.2.2.1 i hi), fun x k z1 z2 z3 z4 => (b.2.2 x k z1).trans (a.2.2.2 x k z1 z2 z3 z4)⟩
theorem Fz.l {T : Nat} {ra : Nat → Nat} {n : Nat} {h h1 : Hp} (a : Fz T ra n h h1) {k : Nat} {v : Int32} : Fz T ra n h (wI h1 (ra (n + 1)) k v) := ⟨a.1, a.2.1, a.2.2.1, fun x j z1 z2 z3 z4 => by rw [wI_i, if_neg (fun y => z3 y.1)]; exact a.2.2.2 x j z1 z2 z3 z4⟩
theorem IC.w {c : Nat} {h : Hp} {A k : Nat} {v : Int32} (q : IC c h) (h1 : A ≠ 147) (h2 : A ≠ 155) : IC c (wI h A k v) := by
  obtain ⟨q1, q2⟩ := q
  refine ⟨by rw [wI_i, if_neg (fun z => h1 z.1.symm)]; exact q1, fun j => ?_⟩
  rw [wI_i, if_neg (fun z => h2 z.1.symm), wI_i, if_neg (fun z => h1 z.1.symm)]
  exact q2 j
theorem IC.e {c : Nat} {h h' : Hp} (q : IC c h) (e1 : h'.2.1 147 10 = h.2.1 147 10) (e2 : ∀ k, h'.2.1 155 k = h.2.1 155 k) : IC c h' := by
  obtain ⟨q1, q2⟩ := q
  refine ⟨by rw [e1]; exact q1, fun k => ?_⟩
  rw [e1, e2]
  exact q2 k
/-- the laws of a staged thing, its passings put aside again -/
theorem inv_z {n : Nat} {h h1 h2 : Hp} (i : INV LWc n h) {t : Nat} (ht : t < 4) {w : Wd} {ra : Nat → Nat} (y : CY w (28 + 22 * t) ra h) (e72 : h.2.1 172 t = nI (W_n w)) (hR : W_R w = mrow h t) (hj : ∀ i j, i < 20 → j < 20 → ra i = ra j → i = j) (h18 : W_n w ≤ 18) (hv : ∀ i, i < W_n w → rowV (h.2.1 166 1).toInt (h.2.1 166 0).toInt (mrow h t i)) (fz : Fz (28 + 22 * t) ra (W_n w) h h1) (z1 : h1.2.1 (28 + 22 * t) 1 = nI (W_n w)) {S : Nat → Nat → Prop} (fr : Fr S h1 h2) (hS : ∀ a k, S a k → (194 ≤ a ∧ a ≤ 211) ∨ (a = 166 ∧ 41 ≤ k) ∨ (173 ≤ a ∧ a < 181 ∧ (k = 22 * t + W_n w ∨ k = 22 * t + W_n w + 1))) {c : Nat} (hc : c ≤ 20 * (n + 1)) (ic : IC c h1) : INV LWc (n + 1) h2 := by
  have th := y.2.1
  have ra1 := th.2.2.1 (W_n w) (by omega)
  have ra2 := th.2.2.1 (W_n w + 1) (by omega)
  have sm : ∀ a k, ¬ SQ a k → a ≠ ra (W_n w) → a ≠ ra (W_n w + 1) → ¬ (173 ≤ a ∧ a < 181 ∧ (k = 22 * t + W_n w ∨ k = 22 * t + W_n w + 1)) → h2.2.1 a k = h.2.1 a k := by
    intro a k x1 x2 x3 x4
    rw [fr.2.2 a k fun s => by have := hS a k s; unfold SQ at x1; omega]
    by_cases x5 : a = 28 + 22 * t ∧ k = 1
    · rw [x5.1, x5.2, z1]; exact th.2.1.1.symm
    · exact fz.2.2.2 a k (by unfold SQ at x1; unfold SK2; omega) x2 x3 x5
  refine INV_q1 i (fr.1.trans fz.1) (fun a k x1 x2 x3 x4 x5 => ?_) (fun a k x1 x2 => ?_) ?_ ?_
  · rw [fr.2.1]; exact fz.2.1 a k (by omega) x1
  · exact sm a k x1 (by unfold SRw at x2; omega) (by unfold SRw at x2; omega) (by unfold SRw at x2; omega)
  · have q6 := i.2.2.2.2.2.2.1
    have hnp : h2.2.1 166 1 = h.2.1 166 1 := sm 166 1 (by unfold SQ; omega) (by omega) (by omega) (by omega)
    have hnw : h2.2.1 166 0 = h.2.1 166 0 := sm 166 0 (by unfold SQ; omega) (by omega) (by omega) (by omega)
    have q7 := i.2.2.2.2.2.2.2.1
    intro s hs
    have e72s : h2.2.1 172 s = h.2.1 172 s := sm 172 s (by unfold SQ; omega) (by omega) (by omega) (by omega)
    by_cases hst : s = t
    · subst hst
      refine ⟨ra, fun j hj20 => ⟨?_, ?_⟩, hj, fun j hj20 hjn => ?_⟩
      · rw [fr.2.1, show 29 + 22 * s = 28 + 22 * s + 1 by omega]; exact fz.2.2.1 j hj20
      · have := th.2.2.1 j hj20; omega
      · rw [e72s, e72, nI_toInt (by omega)] at hjn ⊢
        have mr : ∀ j k, j < W_n w → k < 8 → mrow h2 s j k = mrow h s j k := fun j k hj hk => sm _ _ (by unfold SQ; omega) (by omega) (by omega) (by omega)
        refine ⟨fun k hk => ?_, ?_, fun hj2 => ?_⟩
        · rw [mr j k (by omega) hk, sm _ _ (by have := th.2.2.1 j hj20; unfold SQ; omega) (fun z => by have := hj _ _ hj20 (by omega) z; omega) (fun z => by have := hj _ _ hj20 (by omega) z; omega) (by have := th.2.2.1 j hj20; omega), ← hR]
          exact th.2.2.2 j k (by omega) hk
        · rw [hnp, hnw]
          exact rowV_c (fun k hk => mr j k (by omega) hk) (hv j (by omega))
        · rw [mr j 3 (by omega) (by omega), mr (j + 1) 3 (by omega) (by omega)]
          have := y.2.2.2.2.2.2.2.2.2.1 j (by omega)
          rw [hR] at this
          exact this
    · obtain ⟨rb, b1, b2, b3⟩ := q7 s hs
      refine ⟨rb, fun j hj20 => by rw [fr.2.1, fz.2.1 (29 + 22 * s) j (by omega) (by omega)]; exact b1 j hj20, b2, fun j hj20 hjn => ?_⟩
      rw [e72s] at hjn ⊢
      have z3 := ((q6.2.2 s hs).2.1).2
      have mr : ∀ i k, i < 20 → k < 8 → mrow h2 s i k = mrow h s i k := fun i k hi hk => sm _ _ (by unfold SQ; omega) (by omega) (by omega) (by omega)
      obtain ⟨r1, r2, r3⟩ := b3 j hj20 hjn
      refine ⟨fun k hk => ?_, ?_, fun hi2 => ?_⟩
      · have := b1 j hj20
        rw [mr j k hj20 hk, ← r1 k hk]
        exact sm _ _ (by unfold SQ; omega) (by omega) (by omega) (by omega)
      · rw [hnp, hnw]
        exact rowV_c (fun k hk => mr j k hj20 hk) r2
      · rw [mr j 3 hj20 (by omega), mr (j + 1) 3 (by omega) (by omega)]
        exact r3 hi2
  · exact (ic.e (fr.2.2 147 10 fun s => by have := hS _ _ s; omega) fun k => fr.2.2 155 k fun s => by have := hS _ _ s; omega).le hc
def chp (D : Nat → Int32) (o : Option Nat) (l : Nat) : Bool := match o with
  | none => true
  | some b => decide (D l < D b)
/-- the best of the first lands -/
def bst (D : Nat → Int32) (mk : Nat → Bool) : Nat → Option Nat
  | 0 => none
  | l + 1 => if D l ≠ -1 ∧ chp D (bst D mk l) l = true ∧ mk l = true then some l else bst D mk l
theorem bst_lt {D : Nat → Int32} {mk : Nat → Bool} : ∀ l b, bst D mk l = some b → b < l := by
  intro l
  induction l with
  | zero => intro b h; cases h
  | succ l ih =>
    intro b h
    unfold bst at h
    split at h
    · cases h; omega
    · have := ih b h; omega
def ofB (c : Int32) : Option Nat → Int32
  | none => c
  | some b => nI b
def cheA (D : Nat → Int32) (o : Option Nat) (d : Int32) : Int32 := match o with
  | none => -2
  | some b => if d = 0 then nI b else D b
theorem x_unstage {h : Hp} (hp : Ip h) {t n : Nat} (ht : t < 4) (e : h.2.1 (28 + 22 * t) 1 = nI (n + 2)) : F_X10_unstage [.ref 0, .int (nI t)] h = some (none, wI h (28 + 22 * t) 1 (nI n)) := by
  have hn := hp.1
  have p2 : h.2.2 0 2 = some 3 := hp.2.1.at 2 rfl
  obtain ⟨p1, p3, -⟩ := ptT hp ht
  have p4 : 28 + 22 * t < 212 := by omega
  have e2 : nI (n + 2) - 2 = nI n := nI_subc (a := 2) (k := n + 2) (by omega)
  rw [← fq_eq]
  unfold F_X10_unstage
  simp only [f_mkF, w_sI, w_sR, w_sL, w_sC, w_sk, w_sbr, w_sco, w_rV, w_rI, w_rR, w_rL, w_dI, w_sO, w_sq, w_si, w_pI, w_pZ, w_pR, w_pU, w_qI, w_qB, w_qZ, w_qU, w_qR, w_kV, q_icst, q_lcst, q_xR, q_ldI, q_ldR, q_ldL, q_bn, q_un, q_dv, q_fI, q_fR, q_aI, q_aR, q_aN, q_tn, q_cmp, q_cmz, q_cnt, q_ctt, q_cand, q_cor, q_vn, q_vI, q_vR, q_vL, q_kI, q_kR, q_kL, q_ckI, envN, argE, List.flatMap_cons, List.flatMap_nil, Value.category, junk, oadd, osub, omul, oand, oor, oxor, odiv, orem, oshl, oshr, oushr, omax, omin]
  simp (disch := first | omega | simp) [rk_i, rk_b, rk_o, st1, kill, Value.category, rcv, nog, inI_b, nI_clamp, nI_ltI, nI_leI, nI_eq, nI_9, nI_6, nI_22, nI_12, nI_180, nI_add, nI_1, hn, ly0, ly3, p2, p1, p3, p4, ht, e, e2]
