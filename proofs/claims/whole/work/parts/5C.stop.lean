/-! stopped: both -/
theorem thB_c {W : Nat → Wd} {s s' : Nat} : ∀ {n : Nat}, (∀ u, u < n → whz (W u) s = whz (W u) s') → thB W s n = thB W s' n := by
  intro n
  induction n with
  | zero => intro _; rfl
  | succ n ih =>
    intro h
    rw [thB, thB, ih fun u hu => h u (by omega), h n (by omega)]
theorem laB_c {D : Nat → Int32} {mo : Int32} {mk mk' : Nat → Bool} : ∀ {n : Nat}, (∀ l, l < n → mk l = mk' l) → laB D mo mk n = laB D mo mk' n := by
  intro n
  induction n with
  | zero => intro _; rfl
  | succ n ih =>
    intro h
    rw [laB, laB, ih fun u hu => h u (by omega), h n (by omega)]
theorem isS_A {W : Nat → Wd} {nt s s' : Nat} {D : Nat → Int32} {mo p : Int32} {st : Nat → Wd} (h1 : ∀ u, u < nt → whz (W u) s = whz (W u) s') (h2 : ∀ l, l < 6 → whz (st l) s = whz (st l) s') : (thB W s nt && laB D mo (fun l => decide (whz (st l) s = p)) 6) = (thB W s' nt && laB D mo (fun l => decide (whz (st l) s' = p)) 6) := by
  rw [thB_c h1, laB_c (mk' := fun l => decide (whz (st l) s' = p)) (fun l hl => by rw [h2 l hl])]
theorem g_stopped : AG (INV LWc) F_X10_stopped F_X11_stopped 6 := by
  intro n h vs hl hn5 i
  match vs, hl with
  | [a, b, c, q, p, d], _ =>
    have hn := i.1.1
    by_cases hcb : CB h a b c q p
    · obtain ⟨f, hf, rfl⟩ := land_num hcb.1
      obtain ⟨fr, hfr, rfl⟩ := land_num hcb.2.1
      obtain ⟨t, ht, rfl⟩ := th_num i hcb.2.2.1.1 hcb.2.2.1.2
      obtain ⟨Dl, hDl⟩ := i.2.2.2.2.2.2.2.2.2.1.1
      obtain ⟨ra, y, m, e72, hj, hv⟩ := wd_ofD i hDl hf ht hcb.2.2.1.2
      have hno : W_no (wt h f Dl t) = h.2.1 166 0 := rfl
      have hWf : W_f (wt h f Dl t) = f := rfl
      have e1 := x_can1 i hcb ht y
      by_cases hd : 0 ≤ d ∧ d ≤ 100000
      · by_cases hc2 : p ≠ q ∧ q ≠ frm (W_R (wt h f Dl t)) (W_fo (wt h f Dl t)) (W_n (wt h f Dl t)) ∧ W_n (wt h f Dl t) ≤ 18
        · by_cases hpw : p = whz (wt h f Dl t) 0
          · have X : fq F_X10_stopped [.ref 0, .int (nI f), .int (nI fr), .int (nI t), .int q, .int p, .int d] h fun r h' => r = some (.int (-1)) ∧ Fj h h' ∧ IC (20 * n + 1) h' := by
              rw [b2_t hc2] at e1
              unfold F_X10_stopped
              refine f_mkE [.ref 0, .int (nI f), .int (nI fr), .int (nI t), .int q, .int p, .int d, junk, junk, junk, junk] rfl (by simp [argE, Value.category]) ?_
              rw [w_sq, w_si, q_cor]
              refine ev_F ?_ ⟨(fun z => by cases z), fun _ => ?_⟩
              · simp only [f_mkF, w_sI, w_sR, w_sL, w_sC, w_sk, w_sbr, w_sco, w_rV, w_rI, w_rR, w_rL, w_dI, w_sO, w_sq, w_si, w_pI, w_pZ, w_pR, w_pU, w_qI, w_qB, w_qZ, w_qU, w_qR, w_kV, q_icst, q_lcst, q_xR, q_ldI, q_ldR, q_ldL, q_bn, q_un, q_dv, q_fI, q_fR, q_aI, q_aR, q_aN, q_tn, q_cmp, q_cmz, q_cnt, q_ctt, q_cand, q_cor, q_vn, q_vI, q_vR, q_vL, q_kI, q_kR, q_kL, q_ckI, envN, argE, List.flatMap_cons, List.flatMap_nil, Value.category, junk, oadd, osub, omul, oand, oor, oxor, odiv, orem, oshl, oshr, oushr, omax, omin]
                simp [rk_i, rk_b, rk_o, st1, kill, Value.category, rcv, nog, hn, ly0, fq_of (e_x_isWithin _ _ _ _), fq_of e1, b2_0, hd, zeq, zne]
              rw [q_cnt, q_cmp, q_ldI]
              refine ⟨p, rfl, ?_⟩
              refine q_kIe [.ref 0, .int (nI f), .int (nI t)] (by simp only [f_mkF, w_sI, w_sR, w_sL, w_sC, w_sk, w_sbr, w_sco, w_rV, w_rI, w_rR, w_rL, w_dI, w_sO, w_sq, w_si, w_pI, w_pZ, w_pR, w_pU, w_qI, w_qB, w_qZ, w_qU, w_qR, w_kV, q_icst, q_lcst, q_xR, q_ldI, q_ldR, q_ldL, q_bn, q_un, q_dv, q_fI, q_fR, q_aI, q_aR, q_aN, q_tn, q_cmp, q_cmz, q_cnt, q_ctt, q_cand, q_cor, q_vn, q_vI, q_vR, q_vL, q_kI, q_kR, q_kL, q_ckI, envN, argE, List.flatMap_cons, List.flatMap_nil, Value.category, junk, oadd, osub, omul, oand, oor, oxor, odiv, orem, oshl, oshr, oushr, omax, omin]; simp) (by simp [rcv, hn, ly0]) ?_
              have xj := x_judge y (by omega) (inv_ic i) ht rfl (by rw [i.2.1.1, hno])
              rw [hWf] at xj
              refine fq_mono xj ?_
              rintro r h1 ⟨rfl, fj, ic, cx, -⟩
              refine ⟨_, rfl, fun _ => ?_, fun z => by simp [hpw] at z⟩
              simp only [f_mkF, w_sI, w_sR, w_sL, w_sC, w_sk, w_sbr, w_sco, w_rV, w_rI, w_rR, w_rL, w_dI, w_sO, w_sq, w_si, w_pI, w_pZ, w_pR, w_pU, w_qI, w_qB, w_qZ, w_qU, w_qR, w_kV, q_icst, q_lcst, q_xR, q_ldI, q_ldR, q_ldL, q_bn, q_un, q_dv, q_fI, q_fR, q_aI, q_aR, q_aN, q_tn, q_cmp, q_cmz, q_cnt, q_ctt, q_cand, q_cor, q_vn, q_vI, q_vR, q_vL, q_kI, q_kR, q_kL, q_ckI, envN, argE, List.flatMap_cons, List.flatMap_nil, Value.category, junk, oadd, osub, omul, oand, oor, oxor, odiv, orem, oshl, oshr, oushr, omax, omin]
              simp [rk_i, rk_b, rk_o, st1, kill, Value.category, rcv, nog, fj, ic]
            obtain ⟨r, h1, x1, rfl, fj, ic⟩ := X
            have m1 := m.fj fj
            have hn1 := m1.1.1
            have e72' : h1.2.1 172 t = nI (W_n (wt h f Dl t)) := (fj.2.2 172 t (by unfold SJ SX; omega)).trans e72
            have hcb1 : CB h1 (nI f) (nI fr) (nI t) q p := by
              unfold CB
              rw [fj.2.2 166 2 (by unfold SJ SX; omega), fj.2.2 166 1 (by unfold SJ SX; omega)]
              exact hcb
            have Y : fq F_X11_stopped [.ref 166, .int (nI f), .int (nI fr), .int (nI t), .int q, .int p, .int d] h1 fun r h' => r = some (.int (-1)) ∧ Fr SN h1 h' := by
              unfold F_X11_stopped
              refine f_mkE [.ref 166, .int (nI f), .int (nI fr), .int (nI t), .int q, .int p, .int d, junk, junk, junk] rfl (by simp [argE, Value.category]) ?_
              rw [w_sq, w_si, q_cor, q_cnt, q_cnt, q_cmz]
              refine q_kIe [.ref 166, .int (nI f), .int (nI fr), .int (nI t), .int q, .int p] (by simp only [f_mkF, w_sI, w_sR, w_sL, w_sC, w_sk, w_sbr, w_sco, w_rV, w_rI, w_rR, w_rL, w_dI, w_sO, w_sq, w_si, w_pI, w_pZ, w_pR, w_pU, w_qI, w_qB, w_qZ, w_qU, w_qR, w_kV, q_icst, q_lcst, q_xR, q_ldI, q_ldR, q_ldL, q_bn, q_un, q_dv, q_fI, q_fR, q_aI, q_aR, q_aN, q_tn, q_cmp, q_cmz, q_cnt, q_ctt, q_cand, q_cor, q_vn, q_vI, q_vR, q_vL, q_kI, q_kR, q_kL, q_ckI, envN, argE, List.flatMap_cons, List.flatMap_nil, Value.category, junk, oadd, osub, omul, oand, oor, oxor, odiv, orem, oshl, oshr, oushr, omax, omin]; simp) (by simp [rcv, hn1, ly166]) ?_
              have mc := m_can1 m1 e72' (fr := nI fr) (q := q) (p := p) (by rw [hWf]; exact hcb1)
              rw [hWf] at mc
              refine fq_mono mc ?_
              rintro r h2 ⟨rfl, f2⟩
              refine ⟨_, rfl, fun _ => ⟨fun _ => ?_, fun z => by cases z⟩, fun z => ?_⟩
              · simp only [f_mkF, w_sI, w_sR, w_sL, w_sC, w_sk, w_sbr, w_sco, w_rV, w_rI, w_rR, w_rL, w_dI, w_sO, w_sq, w_si, w_pI, w_pZ, w_pR, w_pU, w_qI, w_qB, w_qZ, w_qU, w_qR, w_kV, q_icst, q_lcst, q_xR, q_ldI, q_ldR, q_ldL, q_bn, q_un, q_dv, q_fI, q_fR, q_aI, q_aR, q_aN, q_tn, q_cmp, q_cmz, q_cnt, q_ctt, q_cand, q_cor, q_vn, q_vI, q_vR, q_vL, q_kI, q_kR, q_kL, q_ckI, envN, argE, List.flatMap_cons, List.flatMap_nil, Value.category, junk, oadd, osub, omul, oand, oor, oxor, odiv, orem, oshl, oshr, oushr, omax, omin]
                simp [rk_i, rk_b, rk_o, st1, kill, Value.category, rcv, nog, f2]
              · rw [b2_f (fun y => y.2 hpw)] at z
                simp at z
            obtain ⟨r, h2, x2, rfl, f2⟩ := Y
            exact ⟨-1, h1, h2, x1, hn1, x2, inv_j i fj f2 SN_ok (by omega) ic⟩
          · have hst := stg_of i ht hfr (w := wt h f Dl t) y.2.2.2.2.2.2 rfl hcb hc2.2.2
            obtain ⟨hC, hcv⟩ := roa_of i
            have q6 := i.2.2.2.2.2.2.1.2.1
            have hcl := clampI q6.1
            have hnt := nI_toI q6.1
            generalize (h.2.1 166 2).toNatClampNeg = nt at hcl hnt
            have nt4 : nt ≤ 4 := by omega
            have htn : t < nt := by
              have := hcb.2.2.1.2
              rw [hnt, nI_ltI (by omega) (by omega)] at this
              exact this
            obtain ⟨r, h1, x1, ⟨v1, rfl, ls1⟩, fz, z7, ic⟩ := x_stop hn5 i hf ht hfr hnt nt4 hDl y hj hcb hc2 hd hpw hst hC
            have tra := y.2.1.2.2.1 (W_n (wt h f Dl t)) (by omega)
            have tra2 := y.2.1.2.2.1 (W_n (wt h f Dl t) + 1) (by omega)
            have e66 : ∀ a k, 166 ≤ a → h1.2.1 a k = h.2.1 a k := fun a k z => fz.2.2.2 a k (by unfold SK2; omega) (by omega) (by omega) (by omega)
            have ip1 : Ip h1 := by
              refine ⟨fz.1.trans hn, fun x hx => ?_, fun k => ?_⟩
              · have s1 := spl_q x hx
                have s2 := spl_n x hx
                rw [fz.2.1 _ _ (by omega) (fun z => s1 (Or.inl z))]; exact i.1.2.1 x hx
              · rw [fz.2.1 _ _ (by omega) (by omega)]; exact i.1.2.2 k
            have hcb1 : CB h1 (nI f) (nI fr) (nI t) q p := by
              unfold CB
              rw [e66 166 2 (by omega), e66 166 1 (by omega)]
              exact hcb
            have hBu : ∀ u, u < nt → MX (wt h f Dl u) u h ∧ h.2.1 172 u = nI (W_n (wt h f Dl u)) := fun u hu => by
              obtain ⟨-, -, z1, z2, -⟩ := wd_ofD i hDl hf (t := u) (by omega) (by rw [hnt, nI_ltI (by omega) (by omega)]; exact hu)
              exact ⟨z1, z2⟩
            obtain ⟨r, h2, x2, ⟨v2, rfl, ls2⟩, f2⟩ := m_stop (W := wt h f Dl) (h := h1) hfr (fun u hu => ⟨(hBu u hu).1.gen ip1 fun a k z => e66 a k (by omega), (e66 172 u (by omega)).trans (hBu u hu).2, rfl⟩) ((e66 166 2 (by omega)).trans hnt) htn nt4 hcb1 hc2 hd hpw hst (C := fun a b => h.2.1 182 (6 * a + b)) (fun a b ha hb => e66 182 _ (by omega)) hcv
            have hv12 : v1 = v2 := by
              exact LSp_eq (slm_ok Dl 6 (by omega)).1 (fun s _ => rfl) (fun s _ => isS_A (W := wt h f Dl) (st := fun l => stg (wt h f Dl t) q p (nI fr) (nI l)) (fun u hu => whz_A (hBu u hu).1.wv s) (fun l hl => whz_A (hst l hl) s)) ls1 ls2
            subst hv12
            refine ⟨v1, h1, h2, x1, ip1.1, x2, inv_z i ht y e72 rfl hj hc2.2.2 hv fz z7 f2 (fun a k z => ?_) (by omega) ic⟩
            unfold SSp SSt SMk SN SM at z
            omega
        · have X : F_X10_stopped [.ref 0, .int (nI f), .int (nI fr), .int (nI t), .int q, .int p, .int d] h = some (some (.int (-1)), h) := by
            rw [b2_f hc2] at e1
            rw [← fq_eq]
            unfold F_X10_stopped
            refine f_mkE _ rfl (by simp [argE, Value.category]) ?_
            rw [w_sq, w_si, q_cor]
            refine ev_T ?_ ⟨fun _ => ⟨fun _ => ?_, fun z => by cases z⟩, (fun z => by cases z)⟩
            · simp only [f_mkF, w_sI, w_sR, w_sL, w_sC, w_sk, w_sbr, w_sco, w_rV, w_rI, w_rR, w_rL, w_dI, w_sO, w_sq, w_si, w_pI, w_pZ, w_pR, w_pU, w_qI, w_qB, w_qZ, w_qU, w_qR, w_kV, q_icst, q_lcst, q_xR, q_ldI, q_ldR, q_ldL, q_bn, q_un, q_dv, q_fI, q_fR, q_aI, q_aR, q_aN, q_tn, q_cmp, q_cmz, q_cnt, q_ctt, q_cand, q_cor, q_vn, q_vI, q_vR, q_vL, q_kI, q_kR, q_kL, q_ckI, envN, argE, List.flatMap_cons, List.flatMap_nil, Value.category, junk, oadd, osub, omul, oand, oor, oxor, odiv, orem, oshl, oshr, oushr, omax, omin]
              simp [rk_i, rk_b, rk_o, st1, kill, Value.category, rcv, nog, hn, ly0, fq_of (e_x_isWithin _ _ _ _), fq_of e1, b2_0, hd, zeq, zne]
            · simp only [f_mkF, w_sI, w_sR, w_sL, w_sC, w_sk, w_sbr, w_sco, w_rV, w_rI, w_rR, w_rL, w_dI, w_sO, w_sq, w_si, w_pI, w_pZ, w_pR, w_pU, w_qI, w_qB, w_qZ, w_qU, w_qR, w_kV, q_icst, q_lcst, q_xR, q_ldI, q_ldR, q_ldL, q_bn, q_un, q_dv, q_fI, q_fR, q_aI, q_aR, q_aN, q_tn, q_cmp, q_cmz, q_cnt, q_ctt, q_cand, q_cor, q_vn, q_vI, q_vR, q_vL, q_kI, q_kR, q_kL, q_ckI, envN, argE, List.flatMap_cons, List.flatMap_nil, Value.category, junk, oadd, osub, omul, oand, oor, oxor, odiv, orem, oshl, oshr, oushr, omax, omin]; simp [rk_i, rk_b, rk_o, st1, kill, Value.category, rcv, nog]
          have Y : fq F_X11_stopped [.ref 166, .int (nI f), .int (nI fr), .int (nI t), .int q, .int p, .int d] h fun r h' => r = some (.int (-1)) ∧ Fr SN h h' := by
            unfold F_X11_stopped
            refine f_mkE [.ref 166, .int (nI f), .int (nI fr), .int (nI t), .int q, .int p, .int d, junk, junk, junk] rfl (by simp [argE, Value.category]) ?_
            rw [w_sq, w_si, q_cor, q_cnt, q_cnt, q_cmz]
            refine q_kIe [.ref 166, .int (nI f), .int (nI fr), .int (nI t), .int q, .int p] (by simp only [f_mkF, w_sI, w_sR, w_sL, w_sC, w_sk, w_sbr, w_sco, w_rV, w_rI, w_rR, w_rL, w_dI, w_sO, w_sq, w_si, w_pI, w_pZ, w_pR, w_pU, w_qI, w_qB, w_qZ, w_qU, w_qR, w_kV, q_icst, q_lcst, q_xR, q_ldI, q_ldR, q_ldL, q_bn, q_un, q_dv, q_fI, q_fR, q_aI, q_aR, q_aN, q_tn, q_cmp, q_cmz, q_cnt, q_ctt, q_cand, q_cor, q_vn, q_vI, q_vR, q_vL, q_kI, q_kR, q_kL, q_ckI, envN, argE, List.flatMap_cons, List.flatMap_nil, Value.category, junk, oadd, osub, omul, oand, oor, oxor, odiv, orem, oshl, oshr, oushr, omax, omin]; simp) (by simp [rcv, hn, ly166]) ?_
            have mc := m_can1 m e72 (fr := nI fr) (q := q) (p := p) (by rw [hWf]; exact hcb)
            rw [hWf] at mc
            refine fq_mono mc ?_
            rintro r h2 ⟨rfl, f2⟩
            refine ⟨_, rfl, fun _ => ⟨fun _ => ?_, fun z => by cases z⟩, fun z => ?_⟩
            · simp only [f_mkF, w_sI, w_sR, w_sL, w_sC, w_sk, w_sbr, w_sco, w_rV, w_rI, w_rR, w_rL, w_dI, w_sO, w_sq, w_si, w_pI, w_pZ, w_pR, w_pU, w_qI, w_qB, w_qZ, w_qU, w_qR, w_kV, q_icst, q_lcst, q_xR, q_ldI, q_ldR, q_ldL, q_bn, q_un, q_dv, q_fI, q_fR, q_aI, q_aR, q_aN, q_tn, q_cmp, q_cmz, q_cnt, q_ctt, q_cand, q_cor, q_vn, q_vI, q_vR, q_vL, q_kI, q_kR, q_kL, q_ckI, envN, argE, List.flatMap_cons, List.flatMap_nil, Value.category, junk, oadd, osub, omul, oand, oor, oxor, odiv, orem, oshl, oshr, oushr, omax, omin]
              simp [rk_i, rk_b, rk_o, st1, kill, Value.category, rcv, nog, f2]
            · rw [b2_f (fun y => hc2 y.1)] at z
              simp at z
          obtain ⟨r, h2, x2, rfl, f2⟩ := Y
          exact ⟨-1, h, h2, X, hn, x2, inv_m i f2⟩
      · have X : F_X10_stopped [.ref 0, .int (nI f), .int (nI fr), .int (nI t), .int q, .int p, .int d] h = some (some (.int (-1)), h) := by
          rw [← fq_eq]
          unfold F_X10_stopped
          refine f_mkE _ rfl (by simp [argE, Value.category]) ?_
          rw [w_sq, w_si, q_cor, q_cor]
          refine ev_T ?_ ⟨fun _ => ⟨fun _ => ⟨fun _ => ?_, fun z => by cases z⟩, fun z => by cases z⟩, (fun z => by cases z)⟩
          · simp only [f_mkF, w_sI, w_sR, w_sL, w_sC, w_sk, w_sbr, w_sco, w_rV, w_rI, w_rR, w_rL, w_dI, w_sO, w_sq, w_si, w_pI, w_pZ, w_pR, w_pU, w_qI, w_qB, w_qZ, w_qU, w_qR, w_kV, q_icst, q_lcst, q_xR, q_ldI, q_ldR, q_ldL, q_bn, q_un, q_dv, q_fI, q_fR, q_aI, q_aR, q_aN, q_tn, q_cmp, q_cmz, q_cnt, q_ctt, q_cand, q_cor, q_vn, q_vI, q_vR, q_vL, q_kI, q_kR, q_kL, q_ckI, envN, argE, List.flatMap_cons, List.flatMap_nil, Value.category, junk, oadd, osub, omul, oand, oor, oxor, odiv, orem, oshl, oshr, oushr, omax, omin]
            simp [rk_i, rk_b, rk_o, st1, kill, Value.category, rcv, nog, fq_of (e_x_isWithin _ _ _ _), b2_f hd]
          · simp only [f_mkF, w_sI, w_sR, w_sL, w_sC, w_sk, w_sbr, w_sco, w_rV, w_rI, w_rR, w_rL, w_dI, w_sO, w_sq, w_si, w_pI, w_pZ, w_pR, w_pU, w_qI, w_qB, w_qZ, w_qU, w_qR, w_kV, q_icst, q_lcst, q_xR, q_ldI, q_ldR, q_ldL, q_bn, q_un, q_dv, q_fI, q_fR, q_aI, q_aR, q_aN, q_tn, q_cmp, q_cmz, q_cnt, q_ctt, q_cand, q_cor, q_vn, q_vI, q_vR, q_vL, q_kI, q_kR, q_kL, q_ckI, envN, argE, List.flatMap_cons, List.flatMap_nil, Value.category, junk, oadd, osub, omul, oand, oor, oxor, odiv, orem, oshl, oshr, oushr, omax, omin]; simp [rk_i, rk_b, rk_o, st1, kill, Value.category, rcv, nog]
        have Y : fq F_X11_stopped [.ref 166, .int (nI f), .int (nI fr), .int (nI t), .int q, .int p, .int d] h fun r h' => r = some (.int (-1)) ∧ Fr SN h h' := by
          unfold F_X11_stopped
          refine f_mkE [.ref 166, .int (nI f), .int (nI fr), .int (nI t), .int q, .int p, .int d, junk, junk, junk] rfl (by simp [argE, Value.category]) ?_
          rw [w_sq, w_si, q_cor, q_cnt, q_cnt, q_cmz]
          refine q_kIe [.ref 166, .int (nI f), .int (nI fr), .int (nI t), .int q, .int p] (by simp only [f_mkF, w_sI, w_sR, w_sL, w_sC, w_sk, w_sbr, w_sco, w_rV, w_rI, w_rR, w_rL, w_dI, w_sO, w_sq, w_si, w_pI, w_pZ, w_pR, w_pU, w_qI, w_qB, w_qZ, w_qU, w_qR, w_kV, q_icst, q_lcst, q_xR, q_ldI, q_ldR, q_ldL, q_bn, q_un, q_dv, q_fI, q_fR, q_aI, q_aR, q_aN, q_tn, q_cmp, q_cmz, q_cnt, q_ctt, q_cand, q_cor, q_vn, q_vI, q_vR, q_vL, q_kI, q_kR, q_kL, q_ckI, envN, argE, List.flatMap_cons, List.flatMap_nil, Value.category, junk, oadd, osub, omul, oand, oor, oxor, odiv, orem, oshl, oshr, oushr, omax, omin]; simp) (by simp [rcv, hn, ly166]) ?_
          have mc := m_can1 m e72 (fr := nI fr) (q := q) (p := p) (by rw [hWf]; exact hcb)
          rw [hWf] at mc
          refine fq_mono mc ?_
          rintro r h2 ⟨rfl, f2⟩
          refine ⟨_, rfl, fun _ => ⟨fun _ => ?_, fun z => by cases z⟩, fun z => ?_⟩
          · simp only [f_mkF, w_sI, w_sR, w_sL, w_sC, w_sk, w_sbr, w_sco, w_rV, w_rI, w_rR, w_rL, w_dI, w_sO, w_sq, w_si, w_pI, w_pZ, w_pR, w_pU, w_qI, w_qB, w_qZ, w_qU, w_qR, w_kV, q_icst, q_lcst, q_xR, q_ldI, q_ldR, q_ldL, q_bn, q_un, q_dv, q_fI, q_fR, q_aI, q_aR, q_aN, q_tn, q_cmp, q_cmz, q_cnt, q_ctt, q_cand, q_cor, q_vn, q_vI, q_vR, q_vL, q_kI, q_kR, q_kL, q_ckI, envN, argE, List.flatMap_cons, List.flatMap_nil, Value.category, junk, oadd, osub, omul, oand, oor, oxor, odiv, orem, oshl, oshr, oushr, omax, omin]
            simp [rk_i, rk_b, rk_o, st1, kill, Value.category, rcv, nog, f2]
          · refine ev_T ?_ ⟨fun _ => ?_, (fun z => by cases z)⟩
            · simp only [f_mkF, w_sI, w_sR, w_sL, w_sC, w_sk, w_sbr, w_sco, w_rV, w_rI, w_rR, w_rL, w_dI, w_sO, w_sq, w_si, w_pI, w_pZ, w_pR, w_pU, w_qI, w_qB, w_qZ, w_qU, w_qR, w_kV, q_icst, q_lcst, q_xR, q_ldI, q_ldR, q_ldL, q_bn, q_un, q_dv, q_fI, q_fR, q_aI, q_aR, q_aN, q_tn, q_cmp, q_cmz, q_cnt, q_ctt, q_cand, q_cor, q_vn, q_vI, q_vR, q_vL, q_kI, q_kR, q_kL, q_ckI, envN, argE, List.flatMap_cons, List.flatMap_nil, Value.category, junk, oadd, osub, omul, oand, oor, oxor, odiv, orem, oshl, oshr, oushr, omax, omin]
              simp [rk_i, rk_b, rk_o, st1, kill, Value.category, rcv, nog, fq_of (e_m_in _ _ _ _), b2_f hd]
            · simp only [f_mkF, w_sI, w_sR, w_sL, w_sC, w_sk, w_sbr, w_sco, w_rV, w_rI, w_rR, w_rL, w_dI, w_sO, w_sq, w_si, w_pI, w_pZ, w_pR, w_pU, w_qI, w_qB, w_qZ, w_qU, w_qR, w_kV, q_icst, q_lcst, q_xR, q_ldI, q_ldR, q_ldL, q_bn, q_un, q_dv, q_fI, q_fR, q_aI, q_aR, q_aN, q_tn, q_cmp, q_cmz, q_cnt, q_ctt, q_cand, q_cor, q_vn, q_vI, q_vR, q_vL, q_kI, q_kR, q_kL, q_ckI, envN, argE, List.flatMap_cons, List.flatMap_nil, Value.category, junk, oadd, osub, omul, oand, oor, oxor, odiv, orem, oshl, oshr, oushr, omax, omin]
              simp [rk_i, rk_b, rk_o, st1, kill, Value.category, rcv, nog, f2]
        obtain ⟨r, h2, x2, rfl, f2⟩ := Y
        exact ⟨-1, h, h2, X, hn, x2, inv_m i f2⟩
    · refine ⟨-1, h, h, ?_, hn, ?_, INV_up i⟩
      · rw [← fq_eq]
        unfold F_X10_stopped
        refine f_mkE _ rfl (by simp [argE, Value.category]) ?_
        rw [w_sq, w_si, q_cor]
        refine ev_T ?_ ⟨fun _ => ⟨fun _ => ?_, fun z => by cases z⟩, (fun z => by cases z)⟩
        · by_cases hd : 0 ≤ d ∧ d ≤ 100000
          · simp only [f_mkF, w_sI, w_sR, w_sL, w_sC, w_sk, w_sbr, w_sco, w_rV, w_rI, w_rR, w_rL, w_dI, w_sO, w_sq, w_si, w_pI, w_pZ, w_pR, w_pU, w_qI, w_qB, w_qZ, w_qU, w_qR, w_kV, q_icst, q_lcst, q_xR, q_ldI, q_ldR, q_ldL, q_bn, q_un, q_dv, q_fI, q_fR, q_aI, q_aR, q_aN, q_tn, q_cmp, q_cmz, q_cnt, q_ctt, q_cand, q_cor, q_vn, q_vI, q_vR, q_vL, q_kI, q_kR, q_kL, q_ckI, envN, argE, List.flatMap_cons, List.flatMap_nil, Value.category, junk, oadd, osub, omul, oand, oor, oxor, odiv, orem, oshl, oshr, oushr, omax, omin]
            simp [rk_i, rk_b, rk_o, st1, kill, Value.category, rcv, nog, hn, ly0, fq_of (e_x_isWithin _ _ _ _), fq_of (x_can0 i hcb), b2_t hd]
          · simp only [f_mkF, w_sI, w_sR, w_sL, w_sC, w_sk, w_sbr, w_sco, w_rV, w_rI, w_rR, w_rL, w_dI, w_sO, w_sq, w_si, w_pI, w_pZ, w_pR, w_pU, w_qI, w_qB, w_qZ, w_qU, w_qR, w_kV, q_icst, q_lcst, q_xR, q_ldI, q_ldR, q_ldL, q_bn, q_un, q_dv, q_fI, q_fR, q_aI, q_aR, q_aN, q_tn, q_cmp, q_cmz, q_cnt, q_ctt, q_cand, q_cor, q_vn, q_vI, q_vR, q_vL, q_kI, q_kR, q_kL, q_ckI, envN, argE, List.flatMap_cons, List.flatMap_nil, Value.category, junk, oadd, osub, omul, oand, oor, oxor, odiv, orem, oshl, oshr, oushr, omax, omin]
            simp [rk_i, rk_b, rk_o, st1, kill, Value.category, rcv, nog, hn, ly0, fq_of (e_x_isWithin _ _ _ _), b2_f hd]
        · simp only [f_mkF, w_sI, w_sR, w_sL, w_sC, w_sk, w_sbr, w_sco, w_rV, w_rI, w_rR, w_rL, w_dI, w_sO, w_sq, w_si, w_pI, w_pZ, w_pR, w_pU, w_qI, w_qB, w_qZ, w_qU, w_qR, w_kV, q_icst, q_lcst, q_xR, q_ldI, q_ldR, q_ldL, q_bn, q_un, q_dv, q_fI, q_fR, q_aI, q_aR, q_aN, q_tn, q_cmp, q_cmz, q_cnt, q_ctt, q_cand, q_cor, q_vn, q_vI, q_vR, q_vL, q_kI, q_kR, q_kL, q_ckI, envN, argE, List.flatMap_cons, List.flatMap_nil, Value.category, junk, oadd, osub, omul, oand, oor, oxor, odiv, orem, oshl, oshr, oushr, omax, omin]; simp [rk_i, rk_b, rk_o, st1, kill, Value.category, rcv, nog]
      · rw [← fq_eq]
        unfold F_X11_stopped
        refine f_mkE _ rfl (by simp [argE, Value.category]) ?_
        rw [w_sq, w_si]
        refine ev_T ?_ ⟨fun _ => ?_, (fun z => by cases z)⟩
        · simp only [f_mkF, w_sI, w_sR, w_sL, w_sC, w_sk, w_sbr, w_sco, w_rV, w_rI, w_rR, w_rL, w_dI, w_sO, w_sq, w_si, w_pI, w_pZ, w_pR, w_pU, w_qI, w_qB, w_qZ, w_qU, w_qR, w_kV, q_icst, q_lcst, q_xR, q_ldI, q_ldR, q_ldL, q_bn, q_un, q_dv, q_fI, q_fR, q_aI, q_aR, q_aN, q_tn, q_cmp, q_cmz, q_cnt, q_ctt, q_cand, q_cor, q_vn, q_vI, q_vR, q_vL, q_kI, q_kR, q_kL, q_ckI, envN, argE, List.flatMap_cons, List.flatMap_nil, Value.category, junk, oadd, osub, omul, oand, oor, oxor, odiv, orem, oshl, oshr, oushr, omax, omin]
          simp [rk_i, rk_b, rk_o, st1, kill, Value.category, rcv, nog, hn, ly166, fq_of (m_can0 hn hcb)]
        · simp only [f_mkF, w_sI, w_sR, w_sL, w_sC, w_sk, w_sbr, w_sco, w_rV, w_rI, w_rR, w_rL, w_dI, w_sO, w_sq, w_si, w_pI, w_pZ, w_pR, w_pU, w_qI, w_qB, w_qZ, w_qU, w_qR, w_kV, q_icst, q_lcst, q_xR, q_ldI, q_ldR, q_ldL, q_bn, q_un, q_dv, q_fI, q_fR, q_aI, q_aR, q_aN, q_tn, q_cmp, q_cmz, q_cnt, q_ctt, q_cand, q_cor, q_vn, q_vI, q_vR, q_vL, q_kI, q_kR, q_kL, q_ckI, envN, argE, List.flatMap_cons, List.flatMap_nil, Value.category, junk, oadd, osub, omul, oand, oor, oxor, odiv, orem, oshl, oshr, oushr, omax, omin]; simp [rk_i, rk_b, rk_o, st1, kill, Value.category, rcv, nog]
