/-! stopped: the class -/
abbrev LWs (h : Hp) (D : Nat → LDt) : Prop := ∀ l, l < 6 → WD (D l) ∧ (∃ la, h.2.2 4 l = some la ∧ lawA la ∧ LX h la (D l)) ∧ LM h l (D l)
/-- thing t as judge f sees it -/
def wt (h : Hp) (f : Nat) (D : Nat → LDt) (t : Nat) : Wd := wld h f t (h.2.1 172 t).toNatClampNeg D
theorem wd_ofD {n : Nat} {h : Hp} (q : INV LWc n h) {D : Nat → LDt} (hD : LWs h D) {f t : Nat} (hf : f < 6) (ht : t < 4) (htt : nI t < h.2.1 166 2) : ∃ ra, CY (wt h f D t) (28 + 22 * t) ra h ∧ MX (wt h f D t) t h ∧ h.2.1 172 t = nI (W_n (wt h f D t)) ∧ (∀ i j, i < 20 → j < 20 → ra i = ra j → i = j) ∧ ∀ i, i < W_n (wt h f D t) → rowV (h.2.1 166 1).toInt (h.2.1 166 0).toInt (mrow h t i) := by
  obtain ⟨ra, m, t1, t2, t3, t4, t5⟩ := th_of q ht
  obtain ⟨o3, o2, o4, o1⟩ := th_fo q ht
  have hm : (h.2.1 172 t).toNatClampNeg = m := by rw [t2, nI_clamp (by have := t1.2.1.2; omega)]
  have hwt : wt h f D t = wld h f t m D := by unfold wt; rw [hm]
  rw [hwt]
  obtain ⟨q0, q1, q2, q3, q4, q5, q6, q7, q8, -, q10⟩ := q
  have z := (q6.2.2 t ht).2.2.2 (by
    rw [Int32.lt_iff_toInt_lt, nI_toInt (by omega)] at htt
    omega)
  have hnp := q2.2.1.2
  have hwv : WV (wld h f t m D) := by
    refine ⟨t1.2.1.2, hf, fun i hi => (t4 i hi).mono hnp (Int.le_refl _), t5, fun k => q2.2.2.2.2.1 k, ⟨z.2.1.1, by have := z.2.1.2; show (h.2.1 170 t).toInt < 12; omega⟩, z.2.2, ⟨q1.2.1, q1.2.2⟩, fun l k hl hk => (q3 l k hl hk).2, fun l hl => (hD l hl).1⟩
  exact ⟨ra, ⟨q0, t1, ⟨o2, o3, o4⟩, q2.2.2.1, fun l k hl hk => (q3 l k hl hk).1, fun l hl => (hD l hl).2.1, hwv⟩, ⟨q0, ht, fun i k hi hk => rfl, ⟨rfl, rfl, rfl⟩, rfl, fun k => rfl, fun l k hl hk => rfl, fun l hl => (hD l hl).2.2, hwv⟩, t2, t3, t4⟩
def thB (W : Nat → Wd) (s : Nat) : Nat → Bool
  | 0 => true
  | u + 1 => thB W s u && decide (whz (W u) s = whz (W u) 0)
def laB (D : Nat → Int32) (mo : Int32) (mk : Nat → Bool) : Nat → Bool
  | 0 => true
  | l + 1 => laB D mo mk l && !(decide (D l ≠ -1) && decide (D l ≤ mo) && mk l)
theorem Fr.xs {w : Wd} {c : Nat} {h h' : Hp} (ic : IC c h) (f : Fr SXs h h') (tc : TC w h') : IC c h' := by
  have e : h'.2.1 147 10 = h.2.1 147 10 := f.2.2 147 10 (by unfold SXs SX; omega)
  exact ⟨by rw [e]; exact ic.1, tc.1⟩
theorem x_stop {n : Nat} {h : Hp} (hn5 : n < 512) (i : INV LWc n h) {f t fr nt : Nat} (hf : f < 6) (ht : t < 4) (hfr : fr < 6) (hnt : h.2.1 166 2 = nI nt) (hnt4 : nt ≤ 4) {Dl : Nat → LDt} (hDl : LWs h Dl) {ra : Nat → Nat} (y : CY (wt h f Dl t) (28 + 22 * t) ra h) (hj : ∀ i j, i < 20 → j < 20 → ra i = ra j → i = j) {q p mo : Int32} (hcb : CB h (nI f) (nI fr) (nI t) q p) (hc2 : p ≠ q ∧ q ≠ frm (W_R (wt h f Dl t)) (W_fo (wt h f Dl t)) (W_n (wt h f Dl t)) ∧ W_n (wt h f Dl t) ≤ 18) (hmo : 0 ≤ mo ∧ mo ≤ 100000) (hpw : p ≠ whz (wt h f Dl t) 0) (hst : ∀ l, l < 6 → WV (stg (wt h f Dl t) q p (nI fr) (nI l))) {C : Nat → Nat → Int32} (hC : ∀ a b, a < 6 → b < 6 → h.2.1 (16 + a) b = C a b) : fq F_X10_stopped [.ref 0, .int (nI f), .int (nI fr), .int (nI t), .int q, .int p, .int mo] h fun r h' => (∃ v, r = some (.int v) ∧ LSp (fun s => decide (s &&& slm Dl 6 = s) && (thB (wt h f Dl) s nt && laB (rds C (fr0 fr) 5) mo (fun l => decide (whz (stg (wt h f Dl t) q p (nI fr) (nI l)) s = p)) 6)) v) ∧ Fz (28 + 22 * t) ra (W_n (wt h f Dl t)) h h' ∧ h'.2.1 (28 + 22 * t) 1 = nI (W_n (wt h f Dl t)) ∧ IC (20 * n + 11) h' := by
  have hn := i.1.1
  have e1 := x_can1 i hcb ht y
  rw [b2_t hc2] at e1
  have k6 : (6 : Int32) = nI 6 := rfl
  have hT : 28 + 22 * t < 115 := by omega
  have hno : W_no (wt h f Dl t) = h.2.1 166 0 := rfl
  have hWf : W_f (wt h f Dl t) = f := rfl
  have WD' : ∀ u, u < nt → ∃ ra, CY (wt h f Dl u) (28 + 22 * u) ra h := fun u hu => by
    obtain ⟨ra, z, -⟩ := wd_ofD i hDl hf (t := u) (by omega) (by rw [hnt, nI_ltI (by omega) (by omega)]; exact hu)
    exact ⟨ra, z⟩
  generalize hw : wt h f Dl t = w at *
  have tra := y.2.1.2.2.1 (W_n w + 1) (by omega)
  have tra0 := y.2.1.2.2.1 (W_n w) (by omega)
  generalize hDD : rds C (fr0 fr) 5 = D
  unfold F_X10_stopped
  refine f_mkE [.ref 0, .int (nI f), .int (nI fr), .int (nI t), .int q, .int p, .int mo, junk, junk, junk, junk] rfl (by simp [argE, Value.category]) ?_
  rw [w_sq, w_si, q_cor]
  refine ev_F ?_ ⟨(fun z => by cases z), fun _ => ?_⟩
  · simp only [f_mkF, w_sI, w_sR, w_sL, w_sC, w_sk, w_sbr, w_sco, w_rV, w_rI, w_rR, w_rL, w_dI, w_sO, w_sq, w_si, w_pI, w_pZ, w_pR, w_pU, w_qI, w_qB, w_qZ, w_qU, w_qR, w_kV, q_icst, q_lcst, q_xR, q_ldI, q_ldR, q_ldL, q_bn, q_un, q_dv, q_fI, q_fR, q_aI, q_aR, q_aN, q_tn, q_cmp, q_cmz, q_cnt, q_ctt, q_cand, q_cor, q_vn, q_vI, q_vR, q_vL, q_kI, q_kR, q_kL, q_ckI, envN, argE, List.flatMap_cons, List.flatMap_nil, Value.category, junk, oadd, osub, omul, oand, oor, oxor, odiv, orem, oshl, oshr, oushr, omax, omin]
    simp [rk_i, rk_b, rk_o, st1, kill, Value.category, rcv, nog, hn, ly0, fq_of (e_x_isWithin _ _ _ _), fq_of e1, b2_0, hmo, zeq, zne]
  rw [q_cnt, q_cmp, q_ldI]
  refine ⟨p, rfl, ?_⟩
  refine q_kIe [.ref 0, .int (nI f), .int (nI t)] (by simp only [f_mkF, w_sI, w_sR, w_sL, w_sC, w_sk, w_sbr, w_sco, w_rV, w_rI, w_rR, w_rL, w_dI, w_sO, w_sq, w_si, w_pI, w_pZ, w_pR, w_pU, w_qI, w_qB, w_qZ, w_qU, w_qR, w_kV, q_icst, q_lcst, q_xR, q_ldI, q_ldR, q_ldL, q_bn, q_un, q_dv, q_fI, q_fR, q_aI, q_aR, q_aN, q_tn, q_cmp, q_cmz, q_cnt, q_ctt, q_cand, q_cor, q_vn, q_vI, q_vR, q_vL, q_kI, q_kR, q_kL, q_ckI, envN, argE, List.flatMap_cons, List.flatMap_nil, Value.category, junk, oadd, osub, omul, oand, oor, oxor, odiv, orem, oshl, oshr, oushr, omax, omin]; simp) (by simp [rcv, hn, ly0]) ?_
  have xj := x_judge y (by omega) (inv_ic i) ht rfl (by rw [i.2.1.1, hno])
  rw [hWf] at xj
  refine fq_mono xj ?_
  rintro r h1 ⟨rfl, fj, ic, cx, -⟩
  refine ⟨_, rfl, (fun z => by simp [hpw] at z), fun _ => w_sk2.mpr ?_⟩
  have hn1 := cx.1.1
  have hD1 : ∀ l, l < 6 → WD (Dl l) ∧ ∃ la, h1.2.2 4 l = some la ∧ lawA la ∧ LX h1 la (Dl l) := fun l hl => by
    obtain ⟨a1, ⟨la, a2, a3, a4⟩, -⟩ := hDl l hl
    exact ⟨a1, la, by rw [fj.2.1 4 l (by omega)]; exact a2, a3, LX_e (fun a k x1 x2 => fj.2.2 a k (by unfold lawA at a3; unfold SJ SX; omega)) a4⟩
  refine w_sqS (fun E1 h2 => h2 = h1 ∧ ∃ x, E1 = [.ref 0, .int (nI f), .int (nI fr), .int (nI t), .int q, .int p, .int mo, .long x, junk, junk, junk] ∧ ∀ s, s < 64 → BT x s = decide (s &&& slm Dl 6 = s)) ?_ ?_
  · rw [w_sL]
    refine q_kLe [.ref 0] (by simp only [f_mkF, w_sI, w_sR, w_sL, w_sC, w_sk, w_sbr, w_sco, w_rV, w_rI, w_rR, w_rL, w_dI, w_sO, w_sq, w_si, w_pI, w_pZ, w_pR, w_pU, w_qI, w_qB, w_qZ, w_qU, w_qR, w_kV, q_icst, q_lcst, q_xR, q_ldI, q_ldR, q_ldL, q_bn, q_un, q_dv, q_fI, q_fR, q_aI, q_aR, q_aN, q_tn, q_cmp, q_cmz, q_cnt, q_ctt, q_cand, q_cor, q_vn, q_vI, q_vR, q_vL, q_kI, q_kR, q_kL, q_ckI, envN, argE, List.flatMap_cons, List.flatMap_nil, Value.category, junk, oadd, osub, omul, oand, oor, oxor, odiv, orem, oshl, oshr, oushr, omax, omin]; simp) (by simp [rcv, hn1, ly0]) ?_
    refine fq_mono (x_sales cx.1 hD1) ?_
    rintro r h2 ⟨rfl, x, rfl, hx⟩
    exact ⟨x, rfl, rfl, rfl, x, rfl, hx⟩
  rintro E1 h2 ⟨rfl, x0, rfl, hx0⟩
  have hntx : h2.2.1 0 14 = nI nt := by rw [fj.2.2 0 14 (by unfold SJ SX; omega), i.2.2.2.2.2.2.1.1, hnt]
  refine w_sqS (fun E1 h3 => Fj h h3 ∧ IC (20 * n + 5) h3 ∧ ∃ x v9 v10, E1 = [.ref 0, .int (nI f), .int (nI fr), .int (nI t), .int q, .int p, .int mo, .long x, junk, .int v9, v10] ∧ v10.category = 1 ∧ ∀ s, s < 64 → BT x s = (decide (s &&& slm Dl 6 = s) && thB (wt h f Dl) s nt)) ?_ ?_
  · refine w_sqI (E' := [.ref 0, .int (nI f), .int (nI fr), .int (nI t), .int q, .int p, .int mo, .long x0, junk, .int (nI 0), junk]) (nI 0) (by simp only [f_mkF, w_sI, w_sR, w_sL, w_sC, w_sk, w_sbr, w_sco, w_rV, w_rI, w_rR, w_rL, w_dI, w_sO, w_sq, w_si, w_pI, w_pZ, w_pR, w_pU, w_qI, w_qB, w_qZ, w_qU, w_qR, w_kV, q_icst, q_lcst, q_xR, q_ldI, q_ldR, q_ldL, q_bn, q_un, q_dv, q_fI, q_fR, q_aI, q_aR, q_aN, q_tn, q_cmp, q_cmz, q_cnt, q_ctt, q_cand, q_cor, q_vn, q_vI, q_vR, q_vL, q_kI, q_kR, q_kL, q_ckI, envN, argE, List.flatMap_cons, List.flatMap_nil, Value.category, junk, oadd, osub, omul, oand, oor, oxor, odiv, orem, oshl, oshr, oushr, omax, omin]; simp [nI_0]) rfl ?_
    refine w_lp (fun k E h' => ∃ u x v10, k = nt - u ∧ u ≤ nt ∧ E = [.ref 0, .int (nI f), .int (nI fr), .int (nI t), .int q, .int p, .int mo, .long x, junk, .int (nI u), v10] ∧ v10.category = 1 ∧ Fj h h' ∧ IC (20 * n + 1 + u) h' ∧ ∀ s, s < 64 → BT x s = (decide (s &&& slm Dl 6 = s) && thB (wt h f Dl) s u)) ?_ nt _ _ ⟨0, x0, junk, rfl, by omega, rfl, rfl, fj, ic, fun s hs => by rw [hx0 s hs]; simp [thB]⟩
    rintro k E h' ⟨u, x, v10, rfl, hu, rfl, c10, fj', ic', hx⟩
    have hn' : h'.1 = 212 := fj'.1.trans hn
    have e14 : h'.2.1 0 14 = nI nt := by rw [fj'.2.2 0 14 (by unfold SJ SX; omega), i.2.2.2.2.2.2.1.1, hnt]
    by_cases hun : u < nt
    · refine ev_T ?_ ⟨fun z => (by cases z), fun _ => ?_⟩
      · simp only [f_mkF, w_sI, w_sR, w_sL, w_sC, w_sk, w_sbr, w_sco, w_rV, w_rI, w_rR, w_rL, w_dI, w_sO, w_sq, w_si, w_pI, w_pZ, w_pR, w_pU, w_qI, w_qB, w_qZ, w_qU, w_qR, w_kV, q_icst, q_lcst, q_xR, q_ldI, q_ldR, q_ldL, q_bn, q_un, q_dv, q_fI, q_fR, q_aI, q_aR, q_aN, q_tn, q_cmp, q_cmz, q_cnt, q_ctt, q_cand, q_cor, q_vn, q_vI, q_vR, q_vL, q_kI, q_kR, q_kL, q_ckI, envN, argE, List.flatMap_cons, List.flatMap_nil, Value.category, junk, oadd, osub, omul, oand, oor, oxor, odiv, orem, oshl, oshr, oushr, omax, omin]
        simp (disch := first | omega | simp) [rk_i, rk_b, rk_o, st1, kill, Value.category, rcv, nog, inI_b, nI_clamp, nI_ltI, nI_leI, nI_eq, nI_9, nI_6, nI_22, nI_12, nI_180, nI_add, nI_1, hn', ly0, e14, hun]
      obtain ⟨rb, yu⟩ := WD' u hun
      refine w_sqS (fun E1 h3 => Fj h h3 ∧ IC (20 * n + 1 + u + 1) h3 ∧ CX (wt h f Dl u) (28 + 22 * u) rb h3 ∧ TC (wt h f Dl u) h3 ∧ E1 = [.ref 0, .int (nI f), .int (nI fr), .int (nI t), .int q, .int p, .int mo, .long x, junk, .int (nI u), .int (whz (wt h f Dl u) 0)]) ?_ ?_
      · rw [w_sI]
        refine q_kIe [.ref 0, .int (nI f), .int (nI u)] (by simp only [f_mkF, w_sI, w_sR, w_sL, w_sC, w_sk, w_sbr, w_sco, w_rV, w_rI, w_rR, w_rL, w_dI, w_sO, w_sq, w_si, w_pI, w_pZ, w_pR, w_pU, w_qI, w_qB, w_qZ, w_qU, w_qR, w_kV, q_icst, q_lcst, q_xR, q_ldI, q_ldR, q_ldL, q_bn, q_un, q_dv, q_fI, q_fR, q_aI, q_aR, q_aN, q_tn, q_cmp, q_cmz, q_cnt, q_ctt, q_cand, q_cor, q_vn, q_vI, q_vR, q_vL, q_kI, q_kR, q_kL, q_ckI, envN, argE, List.flatMap_cons, List.flatMap_nil, Value.category, junk, oadd, osub, omul, oand, oor, oxor, odiv, orem, oshl, oshr, oushr, omax, omin]; simp) (by simp [rcv, hn', ly0]) ?_
        have xju := x_judge (yu.fj fj') (by omega) ic' (t := u) (by omega) rfl (by rw [fj'.2.2 0 12 (by unfold SJ SX; omega), i.2.1.1]; rfl)
        have hfu : W_f (wt h f Dl u) = f := rfl
        rw [hfu] at xju
        refine fq_mono xju ?_
        rintro r h3 ⟨rfl, fj3, ic3, cx3, tc3, -⟩
        exact ⟨_, rfl, rfl, fj'.trans fj3, ic3, cx3, tc3, rfl⟩
      rintro E1 h3 ⟨fj3, ic3, cx3, tc3, rfl⟩
      have hn3 := cx3.1.1
      rw [w_sL]
      refine q_kLe [.ref 0, .long x, .int (whz (wt h f Dl u) 0), .int (b2 (true = true))] (by simp only [f_mkF, w_sI, w_sR, w_sL, w_sC, w_sk, w_sbr, w_sco, w_rV, w_rI, w_rR, w_rL, w_dI, w_sO, w_sq, w_si, w_pI, w_pZ, w_pR, w_pU, w_qI, w_qB, w_qZ, w_qU, w_qR, w_kV, q_icst, q_lcst, q_xR, q_ldI, q_ldR, q_ldL, q_bn, q_un, q_dv, q_fI, q_fR, q_aI, q_aR, q_aN, q_tn, q_cmp, q_cmz, q_cnt, q_ctt, q_cand, q_cor, q_vn, q_vI, q_vR, q_vL, q_kI, q_kR, q_kL, q_ckI, envN, argE, List.flatMap_cons, List.flatMap_nil, Value.category, junk, oadd, osub, omul, oand, oor, oxor, odiv, orem, oshl, oshr, oushr, omax, omin]; simp [b2]) (by simp [rcv, hn3, ly0]) ?_
      refine fq_mono (x_give cx3 tc3 x (whz (wt h f Dl u) 0) true) ?_
      rintro r h4 ⟨⟨x', rfl, hx'⟩, f4, cx4, tc4⟩
      refine ⟨x', rfl, fun _ => ?_, (fun z => by cases z), fun z => absurd rfl z⟩
      refine w_sCe (nI u) (nI (u + 1)) rfl (nI_1 _) rfl ⟨rfl, nt - (u + 1), by omega, u + 1, x', .int (whz (wt h f Dl u) 0), rfl, by omega, rfl, rfl, fj3.trans (Fj.of f4 fun a k z => by unfold SXs SX at z; unfold SJ SX; omega), Fr.xs ic3 f4 tc4, fun s hs => ?_⟩
      rw [hx' s hs, hx s hs, thB]
      cases decide (s &&& slm Dl 6 = s) <;> cases thB (wt h f Dl) s u <;> simp
    · have : u = nt := by omega
      subst this
      refine ev_F ?_ ⟨fun _ => ⟨rfl, fj', ic'.le (by omega), x, _, _, rfl, c10, hx⟩, fun z => (by cases z)⟩
      simp only [f_mkF, w_sI, w_sR, w_sL, w_sC, w_sk, w_sbr, w_sco, w_rV, w_rI, w_rR, w_rL, w_dI, w_sO, w_sq, w_si, w_pI, w_pZ, w_pR, w_pU, w_qI, w_qB, w_qZ, w_qU, w_qR, w_kV, q_icst, q_lcst, q_xR, q_ldI, q_ldR, q_ldL, q_bn, q_un, q_dv, q_fI, q_fR, q_aI, q_aR, q_aN, q_tn, q_cmp, q_cmz, q_cnt, q_ctt, q_cand, q_cor, q_vn, q_vI, q_vR, q_vL, q_kI, q_kR, q_kL, q_ckI, envN, argE, List.flatMap_cons, List.flatMap_nil, Value.category, junk, oadd, osub, omul, oand, oor, oxor, odiv, orem, oshl, oshr, oushr, omax, omin]
      simp (disch := first | omega | simp) [rk_i, rk_b, rk_o, st1, kill, Value.category, rcv, nog, inI_b, nI_clamp, nI_ltI, nI_leI, nI_eq, nI_9, nI_6, nI_22, nI_12, nI_180, nI_add, nI_1, hn', ly0, e14]
  rintro E1 h3 ⟨fj3, ic3, x1, v9, v10, rfl, c10, hx1⟩
  have hn3 : h3.1 = 212 := fj3.1.trans hn
  have ip3 : Ip h3 := fj3.ip i.1
  have p7 : h3.2.2 0 7 = some 14 := ip3.2.1.at 7 rfl
  refine w_fz fun B hB Cc hCc => ?_
  simp only [f_mkF, w_sI, w_sR, w_sL, w_sC, w_sk, w_sbr, w_sco, w_rV, w_rI, w_rR, w_rL, w_dI, w_sO, w_sq, w_si, w_pI, w_pZ, w_pR, w_pU, w_qI, w_qB, w_qZ, w_qU, w_qR, w_kV, q_icst, q_lcst, q_xR, q_ldI, q_ldR, q_ldL, q_bn, q_un, q_dv, q_fI, q_fR, q_aI, q_aR, q_aN, q_tn, q_cmp, q_cmz, q_cnt, q_ctt, q_cand, q_cor, q_vn, q_vI, q_vR, q_vL, q_kI, q_kR, q_kL, q_ckI, envN, argE, List.flatMap_cons, List.flatMap_nil, Value.category, junk, oadd, osub, omul, oand, oor, oxor, odiv, orem, oshl, oshr, oushr, omax, omin]
  simp (disch := first | omega | simp) [rk_i, rk_b, rk_o, st1, kill, Value.category, rcv, nog, inI_b, nI_clamp, nI_ltI, nI_leI, nI_eq, nI_9, nI_6, nI_22, nI_12, nI_180, nI_add, nI_1, hn3, ly0, ly14, p7]
  refine fq_mono (x_reckon ip3 hfr (C := C) fun a b ha hb => (fj3.2.2 _ _ (by unfold SJ SX; omega)).trans (hC a b ha hb)) ?_
  rintro r h4 ⟨rfl, f4, e22⟩
  rw [hDD] at e22
  simp
  subst hB hCc
  have fk4 : Fk h h4 := fj3.k.trans (Fk.of f4 fun x k z => Or.inl z)
  have y4 : CY w (28 + 22 * t) ra h4 := by
    obtain ⟨q1, q2, ⟨q4, q5, q6⟩, q9, q10, q11, q12⟩ := y.fj fj3
    have tT := q2.1.2.1
    have tT2 := q2.1.2.2.1
    refine ⟨f4.ip q1, ⟨⟨f4.1.trans q2.1.1, q2.1.2.1, q2.1.2.2.1, q2.1.2.2.2.1, by rw [f4.2.1]; exact q2.1.2.2.2.2.1, q2.1.2.2.2.2.2⟩, ⟨by rw [f4.2.2 _ _ (by omega)]; exact q2.2.1.1, q2.2.1.2⟩, fun i hi => by rw [f4.2.1]; exact q2.2.2.1 i hi, fun i k hi hk => ?_⟩, ⟨by rw [f4.2.2 _ _ (by omega)]; exact q4, by rw [f4.2.2 _ _ (by omega)]; exact q5, by rw [f4.2.2 _ _ (by omega)]; exact q6⟩, fun k => by rw [f4.2.2 _ _ (by omega)]; exact q9 k, fun l k hl hk => by rw [f4.2.2 _ _ (by omega)]; exact q10 l k hl hk, fun l hl => ?_, q12⟩
    · have := q2.2.2.1 i (by omega)
      rw [f4.2.2 _ _ (by omega)]
      exact q2.2.2.2 i k hi hk
    · obtain ⟨la, z1, z2, z3⟩ := q11 l hl
      exact ⟨la, by rw [f4.2.1]; exact z1, z2, LX_e (fun a k h1 h2 => f4.2.2 a k (by unfold lawA at z2; omega)) z3⟩
  have hn4 := y4.1.1
  have h12 : h4.2.1 0 12 = W_no w := by rw [fk4.2.2 0 12 (by unfold SK2; omega), i.2.1.1, hno]
  have ic4 : IC (20 * n + 5) h4 := ic3.e (f4.2.2 147 10 (by omega)) fun k => f4.2.2 155 k (by omega)
  refine w_fz fun B hB Cc hCc => ?_
  simp only [f_mkF, w_sI, w_sR, w_sL, w_sC, w_sk, w_sbr, w_sco, w_rV, w_rI, w_rR, w_rL, w_dI, w_sO, w_sq, w_si, w_pI, w_pZ, w_pR, w_pU, w_qI, w_qB, w_qZ, w_qU, w_qR, w_kV, q_icst, q_lcst, q_xR, q_ldI, q_ldR, q_ldL, q_bn, q_un, q_dv, q_fI, q_fR, q_aI, q_aR, q_aN, q_tn, q_cmp, q_cmz, q_cnt, q_ctt, q_cand, q_cor, q_vn, q_vI, q_vR, q_vL, q_kI, q_kR, q_kL, q_ckI, envN, argE, List.flatMap_cons, List.flatMap_nil, Value.category, junk, oadd, osub, omul, oand, oor, oxor, odiv, orem, oshl, oshr, oushr, omax, omin]
  simp (disch := first | omega | simp) [rk_i, rk_b, rk_o, st1, kill, Value.category, rcv, nog, inI_b, nI_clamp, nI_ltI, nI_leI, nI_eq, nI_9, nI_6, nI_22, nI_12, nI_180, nI_add, nI_1, hn4, ly0]
  refine fq_mono (x_stage y4 hj hc2.2.2 ht rfl h12 q p (nI fr)) ?_
  rintro r h5 ⟨rfl, f5, th5, ip5⟩
  simp [rk_i, rk_b, rk_o, st1, kill, Value.category, rcv, nog]
  subst hB hCc
  have fz5 : Fz (28 + 22 * t) ra (W_n w) h h5 := Fz.s fk4 f5
  have e225 : eq6 (h5.2.1 22) D := fun l hl => (f5.2.2.2 22 l (by omega) (by omega) (by omega)).trans (e22 l hl)
  have ic5 : IC (20 * n + 5) h5 := ic4.e (f5.2.2.2 147 10 (by omega) (by omega) (by omega)) fun k => f5.2.2.2 155 k (by omega) (by omega) (by omega)
  have y5 : CY (stg w q p (nI fr) (nI fr)) (28 + 22 * t) ra h5 := y4.st f5 (hst fr hfr) th5
  refine w_sqS (fun E1 h6 => Fz (28 + 22 * t) ra (W_n w) h h6 ∧ IC (20 * n + 11) h6 ∧ (∃ l0, CY (stg w q p (nI fr) l0) (28 + 22 * t) ra h6) ∧ ∃ x v10, E1 = [.ref 0, .int (nI f), .int (nI fr), .int (nI t), .int q, .int p, .int mo, .long x, junk, .ref (ra (W_n w + 1)), v10] ∧ ∀ s, s < 64 → BT x s = (decide (s &&& slm Dl 6 = s) && (thB (wt h f Dl) s nt && laB D mo (fun l => decide (whz (stg w q p (nI fr) (nI l)) s = p)) 6))) ?_ ?_
  · refine w_sqI (E' := [.ref 0, .int (nI f), .int (nI fr), .int (nI t), .int q, .int p, .int mo, .long x1, junk, .ref (ra (W_n w + 1)), .int (nI 0)]) (nI 0) (by simp only [f_mkF, w_sI, w_sR, w_sL, w_sC, w_sk, w_sbr, w_sco, w_rV, w_rI, w_rR, w_rL, w_dI, w_sO, w_sq, w_si, w_pI, w_pZ, w_pR, w_pU, w_qI, w_qB, w_qZ, w_qU, w_qR, w_kV, q_icst, q_lcst, q_xR, q_ldI, q_ldR, q_ldL, q_bn, q_un, q_dv, q_fI, q_fR, q_aI, q_aR, q_aN, q_tn, q_cmp, q_cmz, q_cnt, q_ctt, q_cand, q_cor, q_vn, q_vI, q_vR, q_vL, q_kI, q_kR, q_kL, q_ckI, envN, argE, List.flatMap_cons, List.flatMap_nil, Value.category, junk, oadd, osub, omul, oand, oor, oxor, odiv, orem, oshl, oshr, oushr, omax, omin]; simp [rk_i, rk_b, rk_o, st1, kill, Value.category, rcv, nog, nI_0]) (by simp [st1, kill, Value.category, junk]) ?_
    refine w_lp (fun k E h' => ∃ l x l0, k = 6 - l ∧ l ≤ 6 ∧ l0 < 6 ∧ E = [.ref 0, .int (nI f), .int (nI fr), .int (nI t), .int q, .int p, .int mo, .long x, junk, .ref (ra (W_n w + 1)), .int (nI l)] ∧ Fz (28 + 22 * t) ra (W_n w) h h' ∧ eq6 (h'.2.1 22) D ∧ IC (20 * n + 5 + l) h' ∧ CY (stg w q p (nI fr) (nI l0)) (28 + 22 * t) ra h' ∧ ∀ s, s < 64 → BT x s = (decide (s &&& slm Dl 6 = s) && (thB (wt h f Dl) s nt && laB D mo (fun l => decide (whz (stg w q p (nI fr) (nI l)) s = p)) l))) ?_ 6 _ _ ⟨0, x1, fr, rfl, by omega, hfr, rfl, fz5, e225, ic5, y5, fun s hs => by rw [hx1 s hs]; simp [laB]⟩
    rintro k E h' ⟨l, x, l0, rfl, hl, hl0, rfl, fz, e22', ic', yl, hx⟩
    have hn' := yl.1.1
    by_cases hl6 : l < 6
    · refine ev_T ?_ ⟨fun z => (by cases z), fun _ => ?_⟩
      · simp only [f_mkF, w_sI, w_sR, w_sL, w_sC, w_sk, w_sbr, w_sco, w_rV, w_rI, w_rR, w_rL, w_dI, w_sO, w_sq, w_si, w_pI, w_pZ, w_pR, w_pU, w_qI, w_qB, w_qZ, w_qU, w_qR, w_kV, q_icst, q_lcst, q_xR, q_ldI, q_ldR, q_ldL, q_bn, q_un, q_dv, q_fI, q_fR, q_aI, q_aR, q_aN, q_tn, q_cmp, q_cmz, q_cnt, q_ctt, q_cand, q_cor, q_vn, q_vI, q_vR, q_vL, q_kI, q_kR, q_kL, q_ckI, envN, argE, List.flatMap_cons, List.flatMap_nil, Value.category, junk, oadd, osub, omul, oand, oor, oxor, odiv, orem, oshl, oshr, oushr, omax, omin]
        simp (disch := first | omega | simp) [rk_i, rk_b, rk_o, st1, kill, Value.category, rcv, nog, inI_b, nI_clamp, nI_ltI, nI_leI, nI_eq, nI_9, nI_6, nI_22, nI_12, nI_180, nI_add, nI_1, k6, hl6]
      have p7' : h'.2.2 0 7 = some 14 := yl.1.2.1.at 7 rfl
      have p1' : h'.2.2 14 1 = some 22 := yl.1.2.1.at 23 rfl
      have el := e22' l hl6
      by_cases c1 : D l ≠ -1 ∧ D l ≤ mo
      · refine (w_siT ?_).mpr ?_
        · simp only [f_mkF, w_sI, w_sR, w_sL, w_sC, w_sk, w_sbr, w_sco, w_rV, w_rI, w_rR, w_rL, w_dI, w_sO, w_sq, w_si, w_pI, w_pZ, w_pR, w_pU, w_qI, w_qB, w_qZ, w_qU, w_qR, w_kV, q_icst, q_lcst, q_xR, q_ldI, q_ldR, q_ldL, q_bn, q_un, q_dv, q_fI, q_fR, q_aI, q_aR, q_aN, q_tn, q_cmp, q_cmz, q_cnt, q_ctt, q_cand, q_cor, q_vn, q_vI, q_vR, q_vL, q_kI, q_kR, q_kL, q_ckI, envN, argE, List.flatMap_cons, List.flatMap_nil, Value.category, junk, oadd, osub, omul, oand, oor, oxor, odiv, orem, oshl, oshr, oushr, omax, omin]
          simp (disch := first | omega | simp) [rk_i, rk_b, rk_o, st1, kill, Value.category, rcv, nog, inI_b, nI_clamp, nI_ltI, nI_leI, nI_eq, nI_9, nI_6, nI_22, nI_12, nI_180, nI_add, nI_1, hn', ly0, ly14, ly22, p7', p1', hl6, el, c1.1, c1.2]
        have v := yl.2.1.2.2.1 (W_n w + 1) (by omega)
        have v4 : (LY (ra (W_n w + 1))).1 = 5 := v.2.2.2
        have v5 : ra (W_n w + 1) < 212 := by omega
        (refine w_fz fun B hB C hC => ?_); (simp only [f_mkF, w_sI, w_sR, w_sL, w_sC, w_sk, w_sbr, w_sco, w_rV, w_rI, w_rR, w_rL, w_dI, w_sO, w_sq, w_si, w_pI, w_pZ, w_pR, w_pU, w_qI, w_qB, w_qZ, w_qU, w_qR, w_kV, q_icst, q_lcst, q_xR, q_ldI, q_ldR, q_ldL, q_bn, q_un, q_dv, q_fI, q_fR, q_aI, q_aR, q_aN, q_tn, q_cmp, q_cmz, q_cnt, q_ctt, q_cand, q_cor, q_vn, q_vI, q_vR, q_vL, q_kI, q_kR, q_kL, q_ckI, envN, argE, List.flatMap_cons, List.flatMap_nil, Value.category, junk, oadd, osub, omul, oand, oor, oxor, odiv, orem, oshl, oshr, oushr, omax, omin]); (simp (disch := first | omega | simp) [rk_i, rk_b, rk_o, st1, kill, Value.category, rcv, nog, inI_b, nI_clamp, nI_ltI, nI_leI, nI_eq, nI_9, nI_6, nI_22, nI_12, nI_180, nI_add, nI_1, hn', v4, v5]); (subst hB hC)
        have y6 : CY (stg w q p (nI fr) (nI l)) (28 + 22 * t) ra (wI h' (ra (W_n w + 1)) 2 (nI l)) := by
          obtain ⟨q1, q2, ⟨q4, q5, q6⟩, q9, q10, q11, q12⟩ := yl
          have tT := ty9 q2.1.2.1 q2.1.2.2.1 q2.1.2.2.2.1
          have q2' : TH h' (28 + 22 * t) ra (W_n w + 2) (stR (W_R w) (W_n w) q p (nI fr) (nI l0) (W_no w) (W_wo w)) := q2
          refine ⟨q1, TH.land hj hc2.2.2 q2', ⟨by rw [wI_i, if_neg (by omega)]; exact q4, by rw [wI_i, if_neg (by omega)]; exact q5, by rw [wI_i, if_neg (by omega)]; exact q6⟩, fun k => by rw [wI_i, if_neg (by omega)]; exact q9 k, fun l k hl hk => by rw [wI_i, if_neg (by omega)]; exact q10 l k hl hk, fun l hl => ?_, hst l hl6⟩
          obtain ⟨la, z1, z2, z3⟩ := q11 l hl
          exact ⟨la, z1, z2, LX_e (fun a k h1 h2 => by rw [wI_i, if_neg (by unfold lawA at z2; omega)]) z3⟩
        have fz6 : Fz (28 + 22 * t) ra (W_n w) h (wI h' (ra (W_n w + 1)) 2 (nI l)) := fz.l
        have e226 : eq6 ((wI h' (ra (W_n w + 1)) 2 (nI l)).2.1 22) D := fun k hk => by rw [wI_o (by omega)]; exact e22' k hk
        have ic6 : IC (20 * n + 5 + l) (wI h' (ra (W_n w + 1)) 2 (nI l)) := ic'.w (by omega) (by omega)
        generalize wI h' (ra (W_n w + 1)) 2 (nI l) = h6 at *
        have hn6 := y6.1.1
        have p8 : h6.2.2 0 8 = some 147 := y6.1.2.1.at 8 rfl
        have p2 : h6.2.2 0 2 = some 3 := y6.1.2.1.at 2 rfl
        obtain ⟨pt1, pt3, -⟩ := ptT y6.1 ht
        have h126 : h6.2.1 0 12 = W_no w := by
          rw [fz6.2.2.2 0 12 (by unfold SK2; omega) (by omega) (by omega) (by omega), i.2.1.1]
          exact hno.symm
        have eo := x_open hn6 (nI f) (28 + 22 * t) (W_no w)
        (refine w_fz fun B hB C hC => ?_); (simp only [f_mkF, w_sI, w_sR, w_sL, w_sC, w_sk, w_sbr, w_sco, w_rV, w_rI, w_rR, w_rL, w_dI, w_sO, w_sq, w_si, w_pI, w_pZ, w_pR, w_pU, w_qI, w_qB, w_qZ, w_qU, w_qR, w_kV, q_icst, q_lcst, q_xR, q_ldI, q_ldR, q_ldL, q_bn, q_un, q_dv, q_fI, q_fR, q_aI, q_aR, q_aN, q_tn, q_cmp, q_cmz, q_cnt, q_ctt, q_cand, q_cor, q_vn, q_vI, q_vR, q_vL, q_kI, q_kR, q_kL, q_ckI, envN, argE, List.flatMap_cons, List.flatMap_nil, Value.category, junk, oadd, osub, omul, oand, oor, oxor, odiv, orem, oshl, oshr, oushr, omax, omin]); (simp (disch := first | omega | simp) [rk_i, rk_b, rk_o, st1, kill, Value.category, rcv, nog, inI_b, nI_clamp, nI_ltI, nI_leI, nI_eq, nI_9, nI_6, nI_22, nI_12, nI_180, nI_add, nI_1, hn6, ly0, ly3, ly147, p8, p2, pt1, ht, h126, fq_of eo]); (subst hB hC)
        have cx7 : CX (stg w q p (nI fr) (nI l)) (28 + 22 * t) ra (opn h6 (nI f) (28 + 22 * t) (W_no w)) := by
          have := cx_open y6
          rw [show W_f (stg w q p (nI fr) (nI l)) = f from hWf, show W_no (stg w q p (nI fr) (nI l)) = W_no w from rfl] at this
          exact this
        obtain ⟨ic7, tc7⟩ := ic_open (by omega) ic6 (nI f) (28 + 22 * t) (W_no w)
        have fj7 := opn_fj h6 (nI f) (28 + 22 * t) (W_no w)
        generalize opn h6 (nI f) (28 + 22 * t) (W_no w) = h7 at *
        have hn7 := cx7.1.1
        rw [w_sL]
        refine q_kLe [.ref 0, .long x, .int p, .int (b2 (false = true))] (by simp only [f_mkF, w_sI, w_sR, w_sL, w_sC, w_sk, w_sbr, w_sco, w_rV, w_rI, w_rR, w_rL, w_dI, w_sO, w_sq, w_si, w_pI, w_pZ, w_pR, w_pU, w_qI, w_qB, w_qZ, w_qU, w_qR, w_kV, q_icst, q_lcst, q_xR, q_ldI, q_ldR, q_ldL, q_bn, q_un, q_dv, q_fI, q_fR, q_aI, q_aR, q_aN, q_tn, q_cmp, q_cmz, q_cnt, q_ctt, q_cand, q_cor, q_vn, q_vI, q_vR, q_vL, q_kI, q_kR, q_kL, q_ckI, envN, argE, List.flatMap_cons, List.flatMap_nil, Value.category, junk, oadd, osub, omul, oand, oor, oxor, odiv, orem, oshl, oshr, oushr, omax, omin]; simp [b2]) (by simp [rcv, hn7, ly0]) ?_
        refine fq_mono (x_give cx7 (tc7 _) x p false) ?_
        rintro r h8 ⟨⟨x', rfl, hx'⟩, f8, cx8, tc8⟩
        have fj8 : Fj h6 h8 := fj7.trans (Fj.of f8 fun a k z => by unfold SXs SX at z; unfold SJ SX; omega)
        refine ⟨x', rfl, fun _ => ?_, (fun z => by cases z), fun z => absurd rfl z⟩
        refine w_sCe (nI l) (nI (l + 1)) rfl (nI_1 _) rfl ⟨rfl, 6 - (l + 1), by omega, l + 1, x', l, rfl, by omega, hl6, rfl, fz6.k hT fj8.k, fun k hk => (fj8.2.2 22 k (by unfold SJ SX; omega)).trans (e226 k hk), Fr.xs ic7 f8 tc8, y6.fj fj8, fun s hs => ?_⟩
        rw [hx' s hs, hx s hs, laB]
        simp [c1.1, c1.2]
        cases decide (s &&& slm Dl 6 = s) <;> cases thB (wt h f Dl) s nt <;> simp
      · refine (w_siF ?_).mpr (w_sk.mpr ⟨fun _ => ?_, (fun z => by cases z), fun z => absurd rfl z⟩)
        · by_cases c3 : D l = -1
          · simp only [f_mkF, w_sI, w_sR, w_sL, w_sC, w_sk, w_sbr, w_sco, w_rV, w_rI, w_rR, w_rL, w_dI, w_sO, w_sq, w_si, w_pI, w_pZ, w_pR, w_pU, w_qI, w_qB, w_qZ, w_qU, w_qR, w_kV, q_icst, q_lcst, q_xR, q_ldI, q_ldR, q_ldL, q_bn, q_un, q_dv, q_fI, q_fR, q_aI, q_aR, q_aN, q_tn, q_cmp, q_cmz, q_cnt, q_ctt, q_cand, q_cor, q_vn, q_vI, q_vR, q_vL, q_kI, q_kR, q_kL, q_ckI, envN, argE, List.flatMap_cons, List.flatMap_nil, Value.category, junk, oadd, osub, omul, oand, oor, oxor, odiv, orem, oshl, oshr, oushr, omax, omin]
            simp (disch := first | omega | simp) [rk_i, rk_b, rk_o, st1, kill, Value.category, rcv, nog, inI_b, nI_clamp, nI_ltI, nI_leI, nI_eq, nI_9, nI_6, nI_22, nI_12, nI_180, nI_add, nI_1, hn', ly0, ly14, ly22, p7', p1', hl6, el, c3]
          · have c4 : ¬ D l ≤ mo := fun z => c1 ⟨c3, z⟩
            have c5 : mo < D l := Int32.not_le.mp c4
            simp only [f_mkF, w_sI, w_sR, w_sL, w_sC, w_sk, w_sbr, w_sco, w_rV, w_rI, w_rR, w_rL, w_dI, w_sO, w_sq, w_si, w_pI, w_pZ, w_pR, w_pU, w_qI, w_qB, w_qZ, w_qU, w_qR, w_kV, q_icst, q_lcst, q_xR, q_ldI, q_ldR, q_ldL, q_bn, q_un, q_dv, q_fI, q_fR, q_aI, q_aR, q_aN, q_tn, q_cmp, q_cmz, q_cnt, q_ctt, q_cand, q_cor, q_vn, q_vI, q_vR, q_vL, q_kI, q_kR, q_kL, q_ckI, envN, argE, List.flatMap_cons, List.flatMap_nil, Value.category, junk, oadd, osub, omul, oand, oor, oxor, odiv, orem, oshl, oshr, oushr, omax, omin]
            simp (disch := first | omega | simp) [rk_i, rk_b, rk_o, st1, kill, Value.category, rcv, nog, inI_b, nI_clamp, nI_ltI, nI_leI, nI_eq, nI_9, nI_6, nI_22, nI_12, nI_180, nI_add, nI_1, hn', ly0, ly14, ly22, p7', p1', hl6, el, c3, c4, c5]
        · refine w_sCe (nI l) (nI (l + 1)) rfl (nI_1 _) rfl ⟨rfl, 6 - (l + 1), by omega, l + 1, x, l0, rfl, by omega, hl0, rfl, fz, e22', ic'.le (by omega), yl, fun s hs => ?_⟩
          rw [hx s hs, laB]
          by_cases c3 : D l = -1
          · simp [c3]
          · have c4 : ¬ D l ≤ mo := fun z => c1 ⟨c3, z⟩
            simp [c4]
    · have : l = 6 := by omega
      subst this
      refine ev_F ?_ ⟨fun _ => ⟨rfl, fz, ic'.le (by omega), ⟨_, yl⟩, x, _, rfl, hx⟩, fun z => (by cases z)⟩
      simp only [f_mkF, w_sI, w_sR, w_sL, w_sC, w_sk, w_sbr, w_sco, w_rV, w_rI, w_rR, w_rL, w_dI, w_sO, w_sq, w_si, w_pI, w_pZ, w_pR, w_pU, w_qI, w_qB, w_qZ, w_qU, w_qR, w_kV, q_icst, q_lcst, q_xR, q_ldI, q_ldR, q_ldL, q_bn, q_un, q_dv, q_fI, q_fR, q_aI, q_aR, q_aN, q_tn, q_cmp, q_cmz, q_cnt, q_ctt, q_cand, q_cor, q_vn, q_vI, q_vR, q_vL, q_kI, q_kR, q_kL, q_ckI, envN, argE, List.flatMap_cons, List.flatMap_nil, Value.category, junk, oadd, osub, omul, oand, oor, oxor, odiv, orem, oshl, oshr, oushr, omax, omin]
      simp (disch := first | omega | simp) [rk_i, rk_b, rk_o, st1, kill, Value.category, rcv, nog, inI_b, nI_clamp, nI_ltI, nI_leI, nI_eq, nI_9, nI_6, nI_22, nI_12, nI_180, nI_add, nI_1, k6]
  rintro E1 h6 ⟨fz, ic, ⟨l0, yl⟩, x, v10', rfl, hx⟩
  have hn6 := yl.1.1
  have a7 := yl.2.1.2.1.1
  have eu := x_unstage yl.1 (n := W_n w) ht a7
  refine w_sqS (fun E1 h7 => E1 = [.ref 0, .int (nI f), .int (nI fr), .int (nI t), .int q, .int p, .int mo, .long x, junk, .ref (ra (W_n w + 1)), v10'] ∧ h7 = wI h6 (28 + 22 * t) 1 (nI (W_n w))) (w_kVe [.ref 0, .int (nI t)] (by simp only [f_mkF, w_sI, w_sR, w_sL, w_sC, w_sk, w_sbr, w_sco, w_rV, w_rI, w_rR, w_rL, w_dI, w_sO, w_sq, w_si, w_pI, w_pZ, w_pR, w_pU, w_qI, w_qB, w_qZ, w_qU, w_qR, w_kV, q_icst, q_lcst, q_xR, q_ldI, q_ldR, q_ldL, q_bn, q_un, q_dv, q_fI, q_fR, q_aI, q_aR, q_aN, q_tn, q_cmp, q_cmz, q_cnt, q_ctt, q_cand, q_cor, q_vn, q_vI, q_vR, q_vL, q_kI, q_kR, q_kL, q_ckI, envN, argE, List.flatMap_cons, List.flatMap_nil, Value.category, junk, oadd, osub, omul, oand, oor, oxor, odiv, orem, oshl, oshr, oushr, omax, omin]; simp) (by simp [rcv, hn6, ly0]) ((fq_of eu).mpr ⟨rfl, rfl, rfl, rfl⟩)) ?_
  rintro E1 h7 ⟨rfl, hh7⟩
  have fz7 : Fz (28 + 22 * t) ra (W_n w) h h7 := by
    rw [hh7]
    exact ⟨fz.1, fz.2.1, fz.2.2.1, fun a k z1 z2 z3 z4 => by rw [wI_i, if_neg z4]; exact fz.2.2.2 a k z1 z2 z3 z4⟩
  have z7 : h7.2.1 (28 + 22 * t) 1 = nI (W_n w) := by rw [hh7]; simp [wI_i]
  have ic7 : IC (20 * n + 11) h7 := by rw [hh7]; exact ic.w (by omega) (by omega)
  rw [w_rI]
  refine q_kIe [.long x] (by simp only [f_mkF, w_sI, w_sR, w_sL, w_sC, w_sk, w_sbr, w_sco, w_rV, w_rI, w_rR, w_rL, w_dI, w_sO, w_sq, w_si, w_pI, w_pZ, w_pR, w_pU, w_qI, w_qB, w_qZ, w_qU, w_qR, w_kV, q_icst, q_lcst, q_xR, q_ldI, q_ldR, q_ldL, q_bn, q_un, q_dv, q_fI, q_fR, q_aI, q_aR, q_aN, q_tn, q_cmp, q_cmz, q_cnt, q_ctt, q_cand, q_cor, q_vn, q_vI, q_vR, q_vL, q_kI, q_kR, q_kL, q_ckI, envN, argE, List.flatMap_cons, List.flatMap_nil, Value.category, junk, oadd, osub, omul, oand, oor, oxor, odiv, orem, oshl, oshr, oushr, omax, omin]; simp) rfl ?_
  refine fq_mono (x_lset x h7) ?_
  rintro r h8 ⟨rfl, v, rfl, hv⟩
  refine ⟨v, rfl, Or.inr ⟨rfl, rfl, ⟨v, rfl, ?_⟩, fz7, z7, ic7⟩⟩
  rcases hv with ⟨rfl, hv⟩ | ⟨s, s1, rfl, s2, s3⟩
  · exact Or.inl ⟨rfl, fun s hs => (hx s hs).symm.trans (hv s hs)⟩
  · exact Or.inr ⟨s, s1, rfl, (hx s s1).symm.trans s2, fun s' hs' z => s3 s' hs' ((hx s' hs').trans z)⟩
