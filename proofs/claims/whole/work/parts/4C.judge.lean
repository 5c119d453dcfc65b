/-! both judge -/
theorem LX_e {h h' : Hp} {la : Nat} {d : LDt} (e : ∀ a k, la ≤ a → a ≤ la + 4 → h'.2.1 a k = h.2.1 a k) (q : LX h la d) : LX h' la d := by
  obtain ⟨q1, ⟨ln, q2, q3⟩, q4⟩ := q
  refine ⟨by rw [e _ _ (by omega) (by omega)]; exact q1, ⟨ln, by rw [e _ _ (by omega) (by omega)]; exact q2, q3⟩, fun c hc => ?_⟩
  obtain ⟨z1, z2, z3, z4⟩ := q4 c hc
  refine ⟨by rw [e _ _ (by omega) (by omega)]; exact z1, by rw [e _ _ (by omega) (by omega)]; exact z2, by rw [e _ _ (by omega) (by omega)]; exact z3, fun k h1 h2 => ?_⟩
  rw [e _ _ (by omega) (by omega), e _ _ (by omega) (by omega)]
  exact z4 k h1 h2
theorem LM_e {h h' : Hp} {l : Nat} {d : LDt} (e : ∀ a k, 189 ≤ a → a ≤ 193 → h'.2.1 a k = h.2.1 a k) (q : LM h l d) : LM h' l d := by
  obtain ⟨q1, q2⟩ := q
  refine ⟨by rw [e _ _ (by omega) (by omega)]; exact q1, fun c hc => ?_⟩
  obtain ⟨z1, z2, z3, z4⟩ := q2 c hc
  refine ⟨by rw [e _ _ (by omega) (by omega)]; exact z1, by rw [e _ _ (by omega) (by omega)]; exact z2, by rw [e _ _ (by omega) (by omega)]; exact z3, fun k h1 h2 => ?_⟩
  rw [e _ _ (by omega) (by omega)]
  exact z4 k h1 h2
/-- the laws of both, and where the pairs are -/
def Ilaw (h : Hp) : Prop := ∃ D : Nat → LDt, ∀ l, l < 6 → WD (D l) ∧ (∃ la, h.2.2 4 l = some la ∧ lawA la ∧ LX h la (D l)) ∧ LM h l (D l)
def Ipai (h : Hp) : Prop := (h.2.2 157 3 = some 160 ∧ h.2.2 157 4 = some 161) ∨ (h.2.2 157 3 = some 161 ∧ h.2.2 157 4 = some 160)
def LWc (h : Hp) : Prop := Ilaw h ∧ Ipai h
theorem Ilaw_c {h h' : Hp} (e : same Slaw h h') (er : ∀ l, h'.2.2 4 l = h.2.2 4 l) (q : Ilaw h) : Ilaw h' := by
  obtain ⟨D, q⟩ := q
  refine ⟨D, fun l hl => ?_⟩
  obtain ⟨q1, ⟨la, q2, q3, q4⟩, q5⟩ := q l hl
  refine ⟨q1, ⟨la, by rw [er]; exact q2, q3, LX_e (fun a k h1 h2 => e a k ?_) q4⟩, LM_e (fun a k h1 h2 => e a k ?_) q5⟩
  · unfold lawA at q3; unfold Slaw; omega
  · unfold Slaw; omega
theorem LWc_ok : LWok LWc := by
  intro h h' e er q
  obtain ⟨q1, q2⟩ := q
  refine ⟨Ilaw_c e (fun l => er 4 l (by omega)) q1, ?_⟩
  unfold Ipai at *
  rw [er 157 3 (by omega), er 157 4 (by omega)]
  exact q2
/-- what the court has counted -/
def IC (c : Nat) (h : Hp) : Prop := (0 ≤ (h.2.1 147 10).toInt ∧ (h.2.1 147 10).toInt ≤ c) ∧ ∀ k, (h.2.1 155 k).toInt ≤ (h.2.1 147 10).toInt
theorem IC.le {c c' : Nat} {h : Hp} (q : IC c h) (hc : c ≤ c') : IC c' h := by
  obtain ⟨⟨q1, q2⟩, q3⟩ := q
  exact ⟨⟨q1, by omega⟩, q3⟩
/-- cells that no call but its own needs -/
def SQ (a k : Nat) : Prop := a = 22 ∨ (147 ≤ a ∧ a ≤ 165) ∨ (194 ≤ a ∧ a ≤ 211) ∨ (a = 166 ∧ 41 ≤ k)
def SRw (a _k : Nat) : Prop := (173 ≤ a ∧ a ≤ 180) ∨ (30 ≤ a ∧ a ≤ 49) ∨ (52 ≤ a ∧ a ≤ 71) ∨ (74 ≤ a ∧ a ≤ 93) ∨ (96 ≤ a ∧ a ≤ 115)
def RQ (a k : Nat) : Prop := (a = 147 ∧ k = 12) ∨ (a = 157 ∧ (k = 3 ∨ k = 4))
theorem spl_q : ∀ q ∈ spl, ¬ ((q.1 = 147 ∧ q.2.1 = 12) ∨ (q.1 = 157 ∧ (q.2.1 = 3 ∨ q.2.1 = 4))) := by decide
theorem Ip_q {h h' : Hp} (e1 : h'.1 = h.1) (e2 : ∀ a k, ¬ RQ a k → h'.2.2 a k = h.2.2 a k) (q : Ip h) : Ip h' := by
  refine ⟨e1.trans q.1, fun x hx => ?_, fun k => ?_⟩
  · rw [e2 _ _ (spl_q x hx)]; exact q.2.1 x hx
  · rw [e2 _ _ (by unfold RQ; omega)]; exact q.2.2 k
theorem INV_q0 {n : Nat} {h h' : Hp} (q : INV LWc n h) (e1 : h'.1 = h.1) (e2 : ∀ a k, ¬ RQ a k → h'.2.2 a k = h.2.2 a k) (e3 : ∀ a k, ¬ SQ a k → ¬ SRw a k → h'.2.1 a k = h.2.1 a k) (pp : Ipai h') (hr : Irow h') (ic : IC (20 * (n + 1)) h') : INV LWc (n + 1) h' := by
  obtain ⟨q0, q1, q2, q3, q4, q5, q6, q7, q8, ⟨q9, -⟩, q10⟩ := q
  have e : ∀ a k, (Sclk a k ∨ Sper a k ∨ Ssen a k ∨ Sroa a k ∨ Stap a k ∨ Sthi a k ∨ Slaw a k) → h'.2.1 a k = h.2.1 a k := fun a k z => e3 a k (by unfold Sclk Sper Ssen Sroa Stap Sthi Slaw at z; unfold SQ; omega) (by unfold Sclk Sper Ssen Sroa Stap Sthi Slaw at z; unfold SRw; omega)
  have hn : h'.2.1 166 1 = h.2.1 166 1 := e 166 1 (by unfold Sper; simp)
  have e4 : ∀ l, h'.2.2 4 l = h.2.2 4 l := fun l => e2 4 l (by unfold RQ; omega)
  have er : Icla h' := by
    obtain ⟨⟨sa, a1, a2, a3⟩, b, c⟩ := q8
    refine ⟨⟨sa, by rw [e2 0 11 (by unfold RQ; omega)]; exact a1, a2, fun l hl => by rw [e4]; exact a3 l hl⟩, fun l hl => ?_, fun l m hl hm => by rw [e4, e4]; exact c l m hl hm⟩
    obtain ⟨la, d1, d2, d3, d4⟩ := b l hl
    refine ⟨la, by rw [e4]; exact d1, d2, ?_⟩
    rw [e la 5 (by unfold lawA at d2; unfold Slaw; omega), e 190 l (by unfold Slaw; omega)]
    exact ⟨d3, d4⟩
  exact ⟨Ip_q e1 e2 q0, Iclk_c (fun a k s => e a k (by simp [s])) q1, Iper_c (fun a k s => e a k (by simp [s])) q2, Isen_c (fun a k s => e a k (by simp [s])) q3, Iroa_c (fun a k s => e a k (by simp [s])) q4, Itap_c (fun a k s => e a k (by simp [s])) q5, Ithi_c (fun a k s => e a k (by simp [s])) (by rw [hn]; omega) q6, hr, er, ⟨Ilaw_c (fun a k s => e a k (by simp [s])) e4 q9, pp⟩, ic.1, ic.2⟩
theorem INV_q {n : Nat} {h h' : Hp} (q : INV LWc n h) (e1 : h'.1 = h.1) (e2 : ∀ a k, ¬ RQ a k → h'.2.2 a k = h.2.2 a k) (e3 : ∀ a k, ¬ SQ a k → h'.2.1 a k = h.2.1 a k) (pp : Ipai h') (ic : IC (20 * (n + 1)) h') : INV LWc (n + 1) h' := by
  refine INV_q0 q e1 e2 (fun a k z _ => e3 a k z) pp ?_ ic
  have q7 := q.2.2.2.2.2.2.2.1
  intro t ht
  obtain ⟨ra, q1, q2, q3⟩ := q7 t ht
  have f1 : ∀ a k, Srow a k → h'.2.1 a k = h.2.1 a k := fun a k z => e3 a k (by unfold Srow at z; unfold SQ; omega)
  refine ⟨ra, fun i hi => by rw [e2 (29 + 22 * t) i (by unfold RQ; omega)]; exact q1 i hi, q2, fun i h20 hi => ?_⟩
  rw [f1 172 t (by unfold Srow; omega)] at hi ⊢
  obtain ⟨r1, r2, r3⟩ := q3 i h20 hi
  have hn : h'.2.1 166 1 = h.2.1 166 1 := e3 166 1 (by unfold SQ; omega)
  have hw : h'.2.1 166 0 = h.2.1 166 0 := e3 166 0 (by unfold SQ; omega)
  refine ⟨fun k hk => ?_, ?_, fun hi2 => ?_⟩
  · rw [mrow_c f1 hk, ← r1 k hk]
    have := q1 i h20
    exact f1 _ _ (by unfold Srow; omega)
  · rw [hn, hw]
    exact rowV_c (fun k hk => mrow_c f1 hk) r2
  · rw [mrow_c f1 (by omega), mrow_c f1 (by omega)]
    exact r3 hi2
/-- the class's thing, ahead of the court -/
def CY (w : Wd) (T : Nat) (ra : Nat → Nat) (h : Hp) : Prop := Ip h ∧ TH h T ra (W_n w) (W_R w) ∧ (h.2.1 T 2 = W_wo w ∧ h.2.1 T 3 = W_fo w ∧ h.2.1 T 4 = W_fl w) ∧ (∀ k, h.2.1 1 k = W_hm w k) ∧ (∀ l k, l < 6 → k < 9 → h.2.1 (6 + l) k = W_sd w l k) ∧ (∀ l, l < 6 → ∃ la, h.2.2 4 l = some la ∧ lawA la ∧ LX h la (W_D w l)) ∧ WV w
/-- what the class's judging may change -/
def SJ (a k : Nat) : Prop := SX a k ∨ (a = 147 ∧ 10 ≤ k ∧ k ≤ 14)
def Fj (h h' : Hp) : Prop := h'.1 = h.1 ∧ (∀ a k, ¬ (a = 147 ∧ k = 12) → h'.2.2 a k = h.2.2 a k) ∧ ∀ a k, ¬ SJ a k → h'.2.1 a k = h.2.1 a k
theorem Fj.refl (h : Hp) : Fj h h := ⟨rfl, fun _ _ _ => rfl, fun _ _ _ => rfl⟩
theorem Fj.trans {h h1 h2 : Hp} (a : Fj h h1) (b : Fj h1 h2) : Fj h h2 := ⟨b.1.trans a.1, fun x k q => (b.2.1 x k q).trans (a.2.1 x k q), fun x k q => (b.2.2 x k q).trans (a.2.2 x k q)⟩
theorem Fj.of {S : Nat → Nat → Prop} {h h1 : Hp} (a : Fr S h h1) (hS : ∀ x k, S x k → SJ x k) : Fj h h1 := ⟨a.1, fun x k _ => by rw [a.2.1], fun x k q => a.2.2 x k fun z => q (hS x k z)⟩
theorem Fj.ip {h h1 : Hp} (a : Fj h h1) (q : Ip h) : Ip h1 := Ip_q a.1 (fun x k z => a.2.1 x k fun y => z (Or.inl y)) q
theorem CY.fj {w : Wd} {T : Nat} {ra : Nat → Nat} {h h' : Hp} (q : CY w T ra h) (f : Fj h h') : CY w T ra h' := by
  obtain ⟨q1, ⟨⟨a1, a2, a3, a4, a5, a6⟩, ⟨b1, b2⟩, c1, c2⟩, ⟨q4, q5, q6⟩, q9, q10, q11, q12⟩ := q
  have f' := f
  obtain ⟨f1, f2, f3⟩ := f
  refine ⟨f'.ip q1, ⟨⟨f1.trans a1, a2, a3, a4, by rw [f2 _ _ (by omega)]; exact a5, a6⟩, ⟨by rw [f3 _ _ (by unfold SJ SX; omega)]; exact b1, b2⟩, fun i hi => by rw [f2 _ _ (by omega)]; exact c1 i hi, fun i k hi hk => ?_⟩, ⟨by rw [f3 _ _ (by unfold SJ SX; omega)]; exact q4, by rw [f3 _ _ (by unfold SJ SX; omega)]; exact q5, by rw [f3 _ _ (by unfold SJ SX; omega)]; exact q6⟩, fun k => by rw [f3 _ _ (by unfold SJ SX; omega)]; exact q9 k, fun l k hl hk => by rw [f3 _ _ (by unfold SJ SX; omega)]; exact q10 l k hl hk, fun l hl => ?_, q12⟩
  · have := c1 i (by omega)
    rw [f3 _ _ (by unfold SJ SX; omega)]
    exact c2 i k hi hk
  · obtain ⟨la, z1, z2, z3⟩ := q11 l hl
    exact ⟨la, by rw [f2 _ _ (by omega)]; exact z1, z2, LX_e (fun a k h1 h2 => f3 a k (by unfold lawA at z2; unfold SJ SX; omega)) z3⟩
def opn (h : Hp) (f : Int32) (T : Nat) (no : Int32) : Hp := wI (wI (wR (wI (wI h 147 10 (h.2.1 147 10 + 1)) 147 11 f) 147 12 (some T)) 147 13 no) 147 14 0
theorem x_open {h : Hp} (hn : h.1 = 212) (f : Int32) (T : Nat) (no : Int32) : F_X1_open [.ref 147, .int f, .ref T, .int no] h = some (none, opn h f T no) := by
  rw [← fq_eq]
  unfold F_X1_open
  simp only [f_mkF, w_sI, w_sR, w_sL, w_sC, w_sk, w_sbr, w_sco, w_rV, w_rI, w_rR, w_rL, w_dI, w_sO, w_sq, w_si, w_pI, w_pZ, w_pR, w_pU, w_qI, w_qB, w_qZ, w_qU, w_qR, w_kV, q_icst, q_lcst, q_xR, q_ldI, q_ldR, q_ldL, q_bn, q_un, q_dv, q_fI, q_fR, q_aI, q_aR, q_aN, q_tn, q_cmp, q_cmz, q_cnt, q_ctt, q_cand, q_cor, q_vn, q_vI, q_vR, q_vL, q_kI, q_kR, q_kL, q_ckI, envN, argE, List.flatMap_cons, List.flatMap_nil, Value.category, junk, oadd, osub, omul, oand, oor, oxor, odiv, orem, oshl, oshr, oushr, omax, omin]
  simp [rk_i, rk_b, rk_o, st1, kill, Value.category, rcv, nog, hn, ly147, wI_1, wR_1, opn]
theorem opn_fj (h : Hp) (f : Int32) (T : Nat) (no : Int32) : Fj h (opn h f T no) := by
  refine ⟨rfl, fun a k z => ?_, fun a k z => ?_⟩
  · simp only [opn, wI_r, wR_r]
    rw [if_neg (by omega)]
  · unfold SJ SX at z
    simp only [opn, wI_i, wR_i]
    rw [if_neg (by omega), if_neg (by omega), if_neg (by omega), if_neg (by omega)]
theorem opn_at (h : Hp) (f : Int32) (T : Nat) (no : Int32) : (opn h f T no).2.1 147 10 = h.2.1 147 10 + 1 ∧ (opn h f T no).2.1 147 11 = f ∧ (opn h f T no).2.2 147 12 = some T ∧ (opn h f T no).2.1 147 13 = no ∧ (opn h f T no).2.1 147 14 = 0 ∧ (opn h f T no).2.1 155 = h.2.1 155 := by
  refine ⟨by simp [opn, wI_i, wR_i], by simp [opn, wI_i, wR_i], by simp [opn, wI_r, wR_r], by simp [opn, wI_i, wR_i], by simp [opn, wI_i, wR_i], funext fun k => by simp [opn, wI_i, wR_i]⟩
theorem cx_open {w : Wd} {T : Nat} {ra : Nat → Nat} {h : Hp} (q : CY w T ra h) : CX w T ra (opn h (nI (W_f w)) T (W_no w)) := by
  obtain ⟨p1, p2, p3, p4, p5, p6, p7⟩ := q.fj (opn_fj h (nI (W_f w)) T (W_no w))
  obtain ⟨o1, o2, o3, o4, o5, o6⟩ := opn_at h (nI (W_f w)) T (W_no w)
  exact ⟨p1, o3, p2, p3, o2, o4, p4, p5, p6, p7⟩
theorem add1 {x : Int32} {c : Nat} (h0 : 0 ≤ x.toInt) (h1 : x.toInt ≤ c) (hc : c < 2 ^ 30) : (x + 1).toInt = x.toInt + 1 := by
  obtain ⟨k, rfl, z2, -⟩ := ofN (x := x) (b := c) h0 h1
  rw [nI_1, nI_toInt (by omega), nI_toInt (by omega)]
  omega
theorem ic_open {h : Hp} {c : Nat} (hc : c < 100000) (q : IC c h) (f : Int32) (T : Nat) (no : Int32) : IC (c + 1) (opn h f T no) ∧ ∀ w, TC w (opn h f T no) := by
  obtain ⟨⟨q1, q2⟩, q3⟩ := q
  obtain ⟨o1, o2, o3, o4, o5, o6⟩ := opn_at h f T no
  have e := add1 q1 q2 (by omega)
  refine ⟨⟨by rw [o1, e]; omega, fun k => ?_⟩, fun w => ⟨fun k => ?_, fun i l m a1 a2 a3 a4 => ?_⟩⟩
  · rw [o1, o6, e]; have := q3 k; omega
  · rw [o1, o6, e]; have := q3 k; omega
  · rw [o1, o6] at a4
    have z := congrArg Int32.toInt a4
    rw [e] at z
    have := q3 (key i l m)
    omega
abbrev lows (w : Wd) : Nat → Int32 := fun i => W_R w i 6
/-- whose it is -/
def whz (w : Wd) (sp : Nat) : Int32 := own w (stt w sp (lows w) (W_n w)) (W_n w)
theorem x_judge {w : Wd} {T : Nat} {ra : Nat → Nat} {h : Hp} (q : CY w T ra h) {c : Nat} (hc : c < 100000) (ic : IC c h) {t : Nat} (ht : t < 4) (hT : T = 28 + 22 * t) (h12 : h.2.1 0 12 = W_no w) : fq F_X10_judge [.ref 0, .int (nI (W_f w)), .int (nI t)] h fun r h' => r = some (.int (whz w 0)) ∧ Fj h h' ∧ IC (c + 1) h' ∧ CX w T ra h' ∧ TC w h' ∧ XR w 0 (lows w) (W_n w) h' ∧ h'.2.1 147 14 = 0 := by
  have hp := q.1
  have hn := hp.1
  have p8 : h.2.2 0 8 = some 147 := hp.2.1.at 8 rfl
  have p2 : h.2.2 0 2 = some 3 := hp.2.1.at 2 rfl
  obtain ⟨p1, p3, -⟩ := ptT hp ht
  rw [← hT] at p1
  have fj := opn_fj h (nI (W_f w)) T (W_no w)
  obtain ⟨ic1, tc1⟩ := ic_open hc ic (nI (W_f w)) T (W_no w)
  have eo := x_open hn (nI (W_f w)) T (W_no w)
  have q1 := cx_open q
  obtain ⟨o1, o2, o3, o4, o5, o6⟩ := opn_at h (nI (W_f w)) T (W_no w)
  unfold F_X10_judge
  refine f_mkE _ rfl (by simp [argE, Value.category]) ?_
  (refine w_fz fun B hB C hC => ?_); (simp only [f_mkF, w_sI, w_sR, w_sL, w_sC, w_sk, w_sbr, w_sco, w_rV, w_rI, w_rR, w_rL, w_dI, w_sO, w_sq, w_si, w_pI, w_pZ, w_pR, w_pU, w_qI, w_qB, w_qZ, w_qU, w_qR, w_kV, q_icst, q_lcst, q_xR, q_ldI, q_ldR, q_ldL, q_bn, q_un, q_dv, q_fI, q_fR, q_aI, q_aR, q_aN, q_tn, q_cmp, q_cmz, q_cnt, q_ctt, q_cand, q_cor, q_vn, q_vI, q_vR, q_vL, q_kI, q_kR, q_kL, q_ckI, envN, argE, List.flatMap_cons, List.flatMap_nil, Value.category, junk, oadd, osub, omul, oand, oor, oxor, odiv, orem, oshl, oshr, oushr, omax, omin]); (simp (disch := first | omega | simp) [rk_i, rk_b, rk_o, st1, kill, Value.category, rcv, nog, inI_b, nI_clamp, nI_ltI, nI_leI, nI_eq, nI_9, nI_6, nI_22, nI_12, nI_180, nI_add, nI_1, hn, ly0, ly3, ly147, p8, p2, p1, ht, h12, fq_of eo]); (subst hB hC)
  generalize opn h (nI (W_f w)) T (W_no w) = h1 at *
  have hn1 := q1.1.1
  have p8' : h1.2.2 0 8 = some 147 := q1.1.2.1.at 8 rfl
  refine w_fz fun B hB C hC => ?_
  simp only [f_mkF, w_sI, w_sR, w_sL, w_sC, w_sk, w_sbr, w_sco, w_rV, w_rI, w_rR, w_rL, w_dI, w_sO, w_sq, w_si, w_pI, w_pZ, w_pR, w_pU, w_qI, w_qB, w_qZ, w_qU, w_qR, w_kV, q_icst, q_lcst, q_xR, q_ldI, q_ldR, q_ldL, q_bn, q_un, q_dv, q_fI, q_fR, q_aI, q_aR, q_aN, q_tn, q_cmp, q_cmz, q_cnt, q_ctt, q_cand, q_cor, q_vn, q_vI, q_vR, q_vL, q_kI, q_kR, q_kL, q_ckI, envN, argE, List.flatMap_cons, List.flatMap_nil, Value.category, junk, oadd, osub, omul, oand, oor, oxor, odiv, orem, oshl, oshr, oushr, omax, omin]
  simp (disch := first | omega | simp) [rk_i, rk_b, rk_o, st1, kill, Value.category, rcv, nog, inI_b, nI_clamp, nI_ltI, nI_leI, nI_eq, nI_9, nI_6, nI_22, nI_12, nI_180, nI_add, nI_1, hn1, ly0, ly147, p8']
  refine fq_mono (x_walk q1 (tc1 w) (sp := 0) o5 (by omega)) ?_
  rintro r h2 ⟨rfl, f2, tc2, hX⟩
  simp
  subst hB hC
  have q2 := q1.fr f2
  have hn2 := q2.1.1
  have p8'' : h2.2.2 0 8 = some 147 := q2.1.2.1.at 8 rfl
  have nb := (stt_nb w 0 (lows w) (W_n w)).1
  have e := x_now q2 nb (hX.1 _ (Nat.le_refl _))
  simp only [f_mkF, w_sI, w_sR, w_sL, w_sC, w_sk, w_sbr, w_sco, w_rV, w_rI, w_rR, w_rL, w_dI, w_sO, w_sq, w_si, w_pI, w_pZ, w_pR, w_pU, w_qI, w_qB, w_qZ, w_qU, w_qR, w_kV, q_icst, q_lcst, q_xR, q_ldI, q_ldR, q_ldL, q_bn, q_un, q_dv, q_fI, q_fR, q_aI, q_aR, q_aN, q_tn, q_cmp, q_cmz, q_cnt, q_ctt, q_cand, q_cor, q_vn, q_vI, q_vR, q_vL, q_kI, q_kR, q_kL, q_ckI, envN, argE, List.flatMap_cons, List.flatMap_nil, Value.category, junk, oadd, osub, omul, oand, oor, oxor, odiv, orem, oshl, oshr, oushr, omax, omin]
  simp (disch := first | omega | simp) [rk_i, rk_b, rk_o, st1, kill, Value.category, rcv, nog, inI_b, nI_clamp, nI_ltI, nI_leI, nI_eq, nI_9, nI_6, nI_22, nI_12, nI_180, nI_add, nI_1, hn2, ly0, ly147, p8'', fq_of e]
  refine ⟨rfl, fj.trans (Fj.of f2 fun x k z => Or.inl z), ?_, q2, tc2, hX, ?_⟩
  · obtain ⟨⟨i1, i2⟩, -⟩ := ic1
    have e10 : h2.2.1 147 10 = h1.2.1 147 10 := f2.2.2 147 10 (by unfold SX; omega)
    exact ⟨by rw [e10]; exact ⟨i1, i2⟩, tc2.1⟩
  · exact (f2.2.2 147 14 (by unfold SX; omega)).trans o5
/-- what the reference's judging may change -/
def SN (a k : Nat) : Prop := SM a k ∨ a = 196 ∨ (a = 166 ∧ k = 41)
theorem MX.gen {w : Wd} {t : Nat} {h h' : Hp} (q : MX w t h) (hp : Ip h') (e : ∀ a k, (a = 166 ∧ k ≤ 2) ∨ (167 ≤ a ∧ a ≤ 193) → h'.2.1 a k = h.2.1 a k) : MX w t h' := by
  obtain ⟨q1, q2, q3, ⟨q4, q5, q6⟩, q7, q8, q9, q10, q11⟩ := q
  refine ⟨hp, q2, fun i k hi hk => by unfold mrow; rw [e _ _ (by omega)]; exact q3 i k hi hk, ⟨by rw [e _ _ (by omega)]; exact q4, by rw [e _ _ (by omega)]; exact q5, by rw [e _ _ (by omega)]; exact q6⟩, by rw [e _ _ (by omega)]; exact q7, fun k => by rw [e _ _ (by omega)]; exact q8 k, fun l k hl hk => by rw [e _ _ (by omega)]; exact q9 l k hl hk, fun l hl => LM_e (fun a k h1 h2 => e a k (by omega)) (q10 l hl), q11⟩
theorem MX.frn {w : Wd} {t : Nat} {h h' : Hp} (q : MX w t h) (f : Fr SN h h') : MX w t h' := q.gen (f.ip q.1) fun a k z => f.2.2 a k (by unfold SN SM; omega)
theorem MX.fj {w : Wd} {t : Nat} {h h' : Hp} (q : MX w t h) (f : Fj h h') : MX w t h' := q.gen (f.ip q.1) fun a k z => f.2.2 a k (by unfold SJ SX; omega)
theorem m_least {w : Wd} {t : Nat} {h : Hp} (q : MX w t h) {n : Nat} (hn2 : h.2.1 172 t = nI n) (hnn : n ≤ W_n w) : fq F_X11_leastMinds [.ref 166, .int (nI t)] h fun r h' => r = none ∧ Fr (fun a k => a = 196 ∧ k < n) h h' ∧ ∀ i, i < n → h'.2.1 196 i = W_R w i 6 := by
  have hn := q.1.1
  have hm := q.1.2.2
  have ht := q.2.1
  have n20 := q.wv.1
  have hE : envN 3 [Value.ref 166, .int (nI t)] = [Value.ref 166, .int (nI t), junk] := rfl
  unfold F_X11_leastMinds
  refine f_mkE _ hE (by simp [argE, Value.category]) ?_
  refine w_sq.mpr ?_
  refine w_sqI (nI 0) (by simp only [f_mkF, w_sI, w_sR, w_sL, w_sC, w_sk, w_sbr, w_sco, w_rV, w_rI, w_rR, w_rL, w_dI, w_sO, w_sq, w_si, w_pI, w_pZ, w_pR, w_pU, w_qI, w_qB, w_qZ, w_qU, w_qR, w_kV, q_icst, q_lcst, q_xR, q_ldI, q_ldR, q_ldL, q_bn, q_un, q_dv, q_fI, q_fR, q_aI, q_aR, q_aN, q_tn, q_cmp, q_cmz, q_cnt, q_ctt, q_cand, q_cor, q_vn, q_vI, q_vR, q_vL, q_kI, q_kR, q_kL, q_ckI, envN, argE, List.flatMap_cons, List.flatMap_nil, Value.category, junk, oadd, osub, omul, oand, oor, oxor, odiv, orem, oshl, oshr, oushr, omax, omin]; simp [rk_i, rk_b, rk_o, st1, kill, Value.category, rcv, nog, nI_0]) rfl ?_
  refine wp_mono (w_lp (Q := fun o _ _ h' => o = 0 ∧ Fr (fun a k => a = 196 ∧ k < n) h h' ∧ ∀ i, i < n → h'.2.1 196 i = W_R w i 6) (fun k E h' => ∃ j, k = n - j ∧ j ≤ n ∧ E = [.ref 166, .int (nI t), .int (nI j)] ∧ Fr (fun a k => a = 196 ∧ k < n) h h' ∧ ∀ i, i < j → h'.2.1 196 i = W_R w i 6) ?_ n _ _ ⟨0, rfl, by omega, rfl, Fr.refl h, fun i hi => by omega⟩) ?_
  · rintro k E h' ⟨j, rfl, hj, rfl, f, hi⟩
    have hn' : h'.1 = 212 := f.1.trans hn
    have e72 : h'.2.1 172 t = nI n := (f.2.2 172 t (by omega)).trans hn2
    have hm' : ∀ k, h'.2.2 166 k = mp k := fun k => by rw [f.2.1]; exact hm k
    by_cases hjn : j < n
    · refine ev_T ?_ ⟨fun z => (by cases z), fun _ => ?_⟩
      · simp only [f_mkF, w_sI, w_sR, w_sL, w_sC, w_sk, w_sbr, w_sco, w_rV, w_rI, w_rR, w_rL, w_dI, w_sO, w_sq, w_si, w_pI, w_pZ, w_pR, w_pU, w_qI, w_qB, w_qZ, w_qU, w_qR, w_kV, q_icst, q_lcst, q_xR, q_ldI, q_ldR, q_ldL, q_bn, q_un, q_dv, q_fI, q_fR, q_aI, q_aR, q_aN, q_tn, q_cmp, q_cmz, q_cnt, q_ctt, q_cand, q_cor, q_vn, q_vI, q_vR, q_vL, q_kI, q_kR, q_kL, q_ckI, envN, argE, List.flatMap_cons, List.flatMap_nil, Value.category, junk, oadd, osub, omul, oand, oor, oxor, odiv, orem, oshl, oshr, oushr, omax, omin]
        simp (disch := first | omega | simp) [rk_i, rk_b, rk_o, st1, kill, Value.category, rcv, nog, inI_b, nI_clamp, nI_ltI, nI_leI, nI_eq, nI_9, nI_6, nI_22, nI_12, nI_180, nI_add, nI_1, hn', ly166, ly172, hm', mp, ht, e72, hjn]
      have r6 : h'.2.1 179 (22 * t + j) = W_R w j 6 := (f.2.2 179 _ (by omega)).trans (q.2.2.1 j 6 (by omega) (by omega))
      have rb : 22 * t + j < 88 := by omega
      refine w_qIe 196 j (W_R w j 6) ?_ ?_ ?_ (by omega) rfl (by omega) (by omega) ⟨fun _ => ?_, (fun z => by cases z), fun z => absurd rfl z⟩
      · simp only [f_mkF, w_sI, w_sR, w_sL, w_sC, w_sk, w_sbr, w_sco, w_rV, w_rI, w_rR, w_rL, w_dI, w_sO, w_sq, w_si, w_pI, w_pZ, w_pR, w_pU, w_qI, w_qB, w_qZ, w_qU, w_qR, w_kV, q_icst, q_lcst, q_xR, q_ldI, q_ldR, q_ldL, q_bn, q_un, q_dv, q_fI, q_fR, q_aI, q_aR, q_aN, q_tn, q_cmp, q_cmz, q_cnt, q_ctt, q_cand, q_cor, q_vn, q_vI, q_vR, q_vL, q_kI, q_kR, q_kL, q_ckI, envN, argE, List.flatMap_cons, List.flatMap_nil, Value.category, junk, oadd, osub, omul, oand, oor, oxor, odiv, orem, oshl, oshr, oushr, omax, omin]; simp [rk_i, rk_b, rk_o, st1, kill, Value.category, rcv, nog, hn', ly166, hm', mp]
      · simp only [f_mkF, w_sI, w_sR, w_sL, w_sC, w_sk, w_sbr, w_sco, w_rV, w_rI, w_rR, w_rL, w_dI, w_sO, w_sq, w_si, w_pI, w_pZ, w_pR, w_pU, w_qI, w_qB, w_qZ, w_qU, w_qR, w_kV, q_icst, q_lcst, q_xR, q_ldI, q_ldR, q_ldL, q_bn, q_un, q_dv, q_fI, q_fR, q_aI, q_aR, q_aN, q_tn, q_cmp, q_cmz, q_cnt, q_ctt, q_cand, q_cor, q_vn, q_vI, q_vR, q_vL, q_kI, q_kR, q_kL, q_ckI, envN, argE, List.flatMap_cons, List.flatMap_nil, Value.category, junk, oadd, osub, omul, oand, oor, oxor, odiv, orem, oshl, oshr, oushr, omax, omin]; simp [rk_i, rk_b, rk_o, st1, kill, Value.category, rcv, nog]
      · simp only [f_mkF, w_sI, w_sR, w_sL, w_sC, w_sk, w_sbr, w_sco, w_rV, w_rI, w_rR, w_rL, w_dI, w_sO, w_sq, w_si, w_pI, w_pZ, w_pR, w_pU, w_qI, w_qB, w_qZ, w_qU, w_qR, w_kV, q_icst, q_lcst, q_xR, q_ldI, q_ldR, q_ldL, q_bn, q_un, q_dv, q_fI, q_fR, q_aI, q_aR, q_aN, q_tn, q_cmp, q_cmz, q_cnt, q_ctt, q_cand, q_cor, q_vn, q_vI, q_vR, q_vL, q_kI, q_kR, q_kL, q_ckI, envN, argE, List.flatMap_cons, List.flatMap_nil, Value.category, junk, oadd, osub, omul, oand, oor, oxor, odiv, orem, oshl, oshr, oushr, omax, omin]; simp (disch := first | omega | simp) [rk_i, rk_b, rk_o, st1, kill, Value.category, rcv, nog, inI_b, nI_clamp, nI_ltI, nI_leI, nI_eq, nI_9, nI_6, nI_22, nI_12, nI_180, nI_add, nI_1, hn', ly166, ly179, hm', mp, rb, r6]
      refine w_sCe (nI j) (nI (j + 1)) rfl (nI_1 _) rfl ⟨rfl, n - (j + 1), by omega, j + 1, rfl, by omega, rfl, f.w ⟨rfl, hjn⟩, fun i h1 => ?_⟩
      rw [wI_i]
      by_cases hij : i = j
      · rw [if_pos ⟨rfl, hij⟩, hij]
      · rw [if_neg (by omega)]
        exact hi i (by omega)
    · have : j = n := by omega
      subst this
      refine ev_F ?_ ⟨fun _ => ⟨rfl, f, hi⟩, fun z => (by cases z)⟩
      simp only [f_mkF, w_sI, w_sR, w_sL, w_sC, w_sk, w_sbr, w_sco, w_rV, w_rI, w_rR, w_rL, w_dI, w_sO, w_sq, w_si, w_pI, w_pZ, w_pR, w_pU, w_qI, w_qB, w_qZ, w_qU, w_qR, w_kV, q_icst, q_lcst, q_xR, q_ldI, q_ldR, q_ldL, q_bn, q_un, q_dv, q_fI, q_fR, q_aI, q_aR, q_aN, q_tn, q_cmp, q_cmz, q_cnt, q_ctt, q_cand, q_cor, q_vn, q_vI, q_vR, q_vL, q_kI, q_kR, q_kL, q_ckI, envN, argE, List.flatMap_cons, List.flatMap_nil, Value.category, junk, oadd, osub, omul, oand, oor, oxor, odiv, orem, oshl, oshr, oushr, omax, omin]
      simp (disch := first | omega | simp) [rk_i, rk_b, rk_o, st1, kill, Value.category, rcv, nog, inI_b, nI_clamp, nI_ltI, nI_leI, nI_eq, nI_9, nI_6, nI_22, nI_12, nI_180, nI_add, nI_1, hn', ly166, ly172, hm', mp, ht, e72]
  · rintro o v E1 h1 ⟨rfl, f, hi⟩
    refine ⟨fun _ => ?_, fun z => absurd rfl z⟩
    rw [w_rV]
    exact Or.inl ⟨rfl, rfl, rfl, f, hi⟩
theorem m_judges {w : Wd} {t : Nat} {h : Hp} (q : MX w t h) (hn2 : h.2.1 172 t = nI (W_n w)) : fq F_X11_judges [.ref 166, .int (nI (W_f w)), .int (nI t)] h fun r h' => r = none ∧ Fr SN h h' ∧ RM w 0 (lows w) (W_n w) h' ∧ h'.2.1 166 51 = whz w 0 ∧ h'.2.1 166 41 = 0 ∧ ∀ i, i < W_n w → h'.2.1 196 i = W_R w i 6 := by
  have hn := q.1.1
  have ht := q.2.1
  unfold F_X11_judges
  refine f_mkE _ rfl (by simp [argE, Value.category]) ?_
  (refine w_fz fun B hB C hC => ?_); (simp only [f_mkF, w_sI, w_sR, w_sL, w_sC, w_sk, w_sbr, w_sco, w_rV, w_rI, w_rR, w_rL, w_dI, w_sO, w_sq, w_si, w_pI, w_pZ, w_pR, w_pU, w_qI, w_qB, w_qZ, w_qU, w_qR, w_kV, q_icst, q_lcst, q_xR, q_ldI, q_ldR, q_ldL, q_bn, q_un, q_dv, q_fI, q_fR, q_aI, q_aR, q_aN, q_tn, q_cmp, q_cmz, q_cnt, q_ctt, q_cand, q_cor, q_vn, q_vI, q_vR, q_vL, q_kI, q_kR, q_kL, q_ckI, envN, argE, List.flatMap_cons, List.flatMap_nil, Value.category, junk, oadd, osub, omul, oand, oor, oxor, odiv, orem, oshl, oshr, oushr, omax, omin]); (simp (disch := first | omega | simp) [rk_i, rk_b, rk_o, st1, kill, Value.category, rcv, nog, inI_b, nI_clamp, nI_ltI, nI_leI, nI_eq, nI_9, nI_6, nI_22, nI_12, nI_180, nI_add, nI_1, hn, ly166]); (subst hB hC)
  have f0 : Fr SN h (wI h 166 41 0) := (Fr.refl h).w (by unfold SN; omega)
  have e41 : (wI h 166 41 0).2.1 166 41 = 0 := by simp [wI_i]
  generalize wI h 166 41 0 = h1 at *
  have q1 := q.frn f0
  have e72 : h1.2.1 172 t = nI (W_n w) := (f0.2.2 172 t (by unfold SN SM; omega)).trans hn2
  have hn1 := q1.1.1
  refine w_fz fun B hB C hC => ?_
  simp only [f_mkF, w_sI, w_sR, w_sL, w_sC, w_sk, w_sbr, w_sco, w_rV, w_rI, w_rR, w_rL, w_dI, w_sO, w_sq, w_si, w_pI, w_pZ, w_pR, w_pU, w_qI, w_qB, w_qZ, w_qU, w_qR, w_kV, q_icst, q_lcst, q_xR, q_ldI, q_ldR, q_ldL, q_bn, q_un, q_dv, q_fI, q_fR, q_aI, q_aR, q_aN, q_tn, q_cmp, q_cmz, q_cnt, q_ctt, q_cand, q_cor, q_vn, q_vI, q_vR, q_vL, q_kI, q_kR, q_kL, q_ckI, envN, argE, List.flatMap_cons, List.flatMap_nil, Value.category, junk, oadd, osub, omul, oand, oor, oxor, odiv, orem, oshl, oshr, oushr, omax, omin]
  simp (disch := first | omega | simp) [rk_i, rk_b, rk_o, st1, kill, Value.category, rcv, nog, inI_b, nI_clamp, nI_ltI, nI_leI, nI_eq, nI_9, nI_6, nI_22, nI_12, nI_180, nI_add, nI_1, hn1, ly166]
  refine fq_mono (m_least q1 e72 (Nat.le_refl _)) ?_
  rintro r h2 ⟨rfl, f2, hmd⟩
  simp
  subst hB hC
  have f2' : Fr SN h h2 := f0.trans (f2.sub fun a k z => by unfold SN; omega)
  have q2 := q.frn f2'
  have hn3 := q2.1.1
  have hm3 := q2.1.2.2
  have e72' : h2.2.1 172 t = nI (W_n w) := (f2.2.2 172 t (by omega)).trans e72
  have e41' : h2.2.1 166 41 = 0 := (f2.2.2 166 41 (by omega)).trans e41
  refine w_fz fun B hB C hC => ?_
  simp only [f_mkF, w_sI, w_sR, w_sL, w_sC, w_sk, w_sbr, w_sco, w_rV, w_rI, w_rR, w_rL, w_dI, w_sO, w_sq, w_si, w_pI, w_pZ, w_pR, w_pU, w_qI, w_qB, w_qZ, w_qU, w_qR, w_kV, q_icst, q_lcst, q_xR, q_ldI, q_ldR, q_ldL, q_bn, q_un, q_dv, q_fI, q_fR, q_aI, q_aR, q_aN, q_tn, q_cmp, q_cmz, q_cnt, q_ctt, q_cand, q_cor, q_vn, q_vI, q_vR, q_vL, q_kI, q_kR, q_kL, q_ckI, envN, argE, List.flatMap_cons, List.flatMap_nil, Value.category, junk, oadd, osub, omul, oand, oor, oxor, odiv, orem, oshl, oshr, oushr, omax, omin]
  simp (disch := first | omega | simp) [rk_i, rk_b, rk_o, st1, kill, Value.category, rcv, nog, inI_b, nI_clamp, nI_ltI, nI_leI, nI_eq, nI_9, nI_6, nI_22, nI_12, nI_180, nI_add, nI_1, hn3, ly166, ly172, hm3 8, mp, ht, e72']
  refine fq_mono (m_works q2 (sp := 0) e41' (by omega) (md := lows w) hmd) ?_
  rintro r h3 ⟨rfl, f3, hR, e51⟩
  simp
  subst hB hC
  rw [w_rV]
  exact Or.inl ⟨rfl, rfl, rfl, f2'.trans (f3.sub fun a k z => Or.inl z), hR, e51, (f3.2.2 166 41 (by unfold SM; omega)).trans e41', fun i hi => (f3.2.2 196 i (by unfold SM; omega)).trans (hmd i hi)⟩
