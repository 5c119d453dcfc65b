/-! stopped: the reference, and both -/
def SSt (t n a k : Nat) : Prop := SMk t n a k ∨ (a = 166 ∧ k = 41)
theorem MX.mk2 {w : Wd} {u t n : Nat} {h h' : Hp} (m : MX w u h) (hn : n ≤ 18) (hu : u = t → W_n w ≤ n) (f : Fr (SSt t n) h h') : MX w u h' := by
  obtain ⟨q1, q2, q3, ⟨q4, q5, q6⟩, q7, q8, q9, q10, q11⟩ := m
  have n20 := q11.1
  refine ⟨f.ip q1, q2, fun i k hi hk => ?_, ⟨(f.2.2 169 u (by unfold SSt SMk SM; omega)).trans q4, (f.2.2 170 u (by unfold SSt SMk SM; omega)).trans q5, (f.2.2 171 u (by unfold SSt SMk SM; omega)).trans q6⟩, (f.2.2 166 0 (by unfold SSt SMk SM; omega)).trans q7, fun k => (f.2.2 167 k (by unfold SSt SMk SM; omega)).trans (q8 k), fun l k hl hk => (f.2.2 181 _ (by unfold SSt SMk SM; omega)).trans (q9 l k hl hk), fun l hl => LM_e (fun a k h1 h2 => f.2.2 a k (by unfold SSt SMk SM; omega)) (q10 l hl), q11⟩
  unfold mrow
  rw [f.2.2 _ _ (by
    unfold SSt SMk SM
    by_cases c : u = t
    · have := hu c; omega
    · omega)]
  exact q3 i k hi hk
/-- what the reference needs while it looks for the set -/
def BS (W : Nat → Wd) (f nt t : Nat) (D : Nat → Int32) (h : Hp) : Prop := (∀ u, u < nt → MX (W u) u h ∧ h.2.1 172 u = nI (W_n (W u)) ∧ h.2.1 211 u = whz (W u) 0 ∧ W_f (W u) = f) ∧ eq6 (h.2.1 210) D ∧ h.2.1 166 2 = nI nt ∧ t < nt ∧ nt ≤ 4
theorem BS.fr {W : Nat → Wd} {f nt t : Nat} {D : Nat → Int32} {h h' : Hp} (b : BS W f nt t D h) (h18 : W_n (W t) ≤ 18) (fr : Fr (SSt t (W_n (W t))) h h') : BS W f nt t D h' := by
  obtain ⟨b1, b2, b3, b4, b5⟩ := b
  refine ⟨fun u hu => ?_, fun l hl => (fr.2.2 210 l (by unfold SSt SMk SM; omega)).trans (b2 l hl), (fr.2.2 166 2 (by unfold SSt SMk SM; omega)).trans b3, b4, b5⟩
  obtain ⟨c1, c2, c3, c4⟩ := b1 u hu
  exact ⟨c1.mk2 h18 (fun e => by rw [e]; exact Nat.le_refl _) fr, (fr.2.2 172 u (by unfold SSt SMk SM; omega)).trans c2, (fr.2.2 211 u (by unfold SSt SMk SM; omega)).trans c3, c4⟩
theorem m_isStop {W : Nat → Wd} {f nt t fr : Nat} {D : Nat → Int32} {h : Hp} (b : BS W f nt t D h) (h18 : W_n (W t) ≤ 18) {s : Nat} (hs1 : h.2.1 166 41 = nI s) (hs2 : s < 64) {q p mo : Int32} (hst : ∀ l, l < 6 → WV (stg (W t) q p (nI fr) (nI l))) : fq F_X11_isStopped [.ref 166, .int (nI f), .int (nI fr), .int (nI t), .int q, .int p, .int mo] h fun r h' => r = some (.int (b2 ((thB W s nt && laB D mo (fun l => decide (whz (stg (W t) q p (nI fr) (nI l)) s = p)) 6) = true))) ∧ Fr (SMk t (W_n (W t))) h h' := by
  have hn := (b.1 t b.2.2.2.1).1.1.1
  have ip := (b.1 t b.2.2.2.1).1.1
  have nt4 := b.2.2.2.2
  have k6 : (6 : Int32) = nI 6 := rfl
  unfold F_X11_isStopped
  refine f_mkE [.ref 166, .int (nI f), .int (nI fr), .int (nI t), .int q, .int p, .int mo, junk] rfl (by simp [argE, Value.category]) ?_
  refine w_sq.mpr ?_
  refine w_sqI (E' := [.ref 166, .int (nI f), .int (nI fr), .int (nI t), .int q, .int p, .int mo, .int (nI 0)]) (nI 0) (by simp only [f_mkF, w_sI, w_sR, w_sL, w_sC, w_sk, w_sbr, w_sco, w_rV, w_rI, w_rR, w_rL, w_dI, w_sO, w_sq, w_si, w_pI, w_pZ, w_pR, w_pU, w_qI, w_qB, w_qZ, w_qU, w_qR, w_kV, q_icst, q_lcst, q_xR, q_ldI, q_ldR, q_ldL, q_bn, q_un, q_dv, q_fI, q_fR, q_aI, q_aR, q_aN, q_tn, q_cmp, q_cmz, q_cnt, q_ctt, q_cand, q_cor, q_vn, q_vI, q_vR, q_vL, q_kI, q_kR, q_kL, q_ckI, envN, argE, List.flatMap_cons, List.flatMap_nil, Value.category, junk, oadd, osub, omul, oand, oor, oxor, odiv, orem, oshl, oshr, oushr, omax, omin]; simp [nI_0]) rfl ?_
  refine wp_mono (w_lp (Q := fun o v E1 h' => Fr (SMk t (W_n (W t))) h h' ∧ ((o = 2 ∧ v = .int 0 ∧ thB W s nt = false) ∨ (o = 0 ∧ thB W s nt = true ∧ ∃ x, E1 = [.ref 166, .int (nI f), .int (nI fr), .int (nI t), .int q, .int p, .int mo, .int x]))) (fun k E h' => ∃ u, k = nt - u ∧ u ≤ nt ∧ E = [.ref 166, .int (nI f), .int (nI fr), .int (nI t), .int q, .int p, .int mo, .int (nI u)] ∧ Fr (SMk t (W_n (W t))) h h' ∧ thB W s u = true) ?_ nt _ _ ⟨0, rfl, by omega, rfl, Fr.refl h, rfl⟩) ?_
  · rintro k E h' ⟨u, rfl, hu, rfl, f1, htb⟩
    have b1 := b.fr h18 (f1.sub fun a k z => Or.inl z)
    have ip1 := f1.ip ip
    have hn1 := ip1.1
    have hm1 := ip1.2.2
    by_cases hun : u < nt
    · refine ev_T ?_ ⟨fun z => (by cases z), fun _ => ?_⟩
      · simp only [f_mkF, w_sI, w_sR, w_sL, w_sC, w_sk, w_sbr, w_sco, w_rV, w_rI, w_rR, w_rL, w_dI, w_sO, w_sq, w_si, w_pI, w_pZ, w_pR, w_pU, w_qI, w_qB, w_qZ, w_qU, w_qR, w_kV, q_icst, q_lcst, q_xR, q_ldI, q_ldR, q_ldL, q_bn, q_un, q_dv, q_fI, q_fR, q_aI, q_aR, q_aN, q_tn, q_cmp, q_cmz, q_cnt, q_ctt, q_cand, q_cor, q_vn, q_vI, q_vR, q_vL, q_kI, q_kR, q_kL, q_ckI, envN, argE, List.flatMap_cons, List.flatMap_nil, Value.category, junk, oadd, osub, omul, oand, oor, oxor, odiv, orem, oshl, oshr, oushr, omax, omin]
        simp (disch := first | omega | simp) [rk_i, rk_b, rk_o, st1, kill, Value.category, rcv, nog, inI_b, nI_clamp, nI_ltI, nI_leI, nI_eq, nI_9, nI_6, nI_22, nI_12, nI_180, nI_add, nI_1, hn1, ly166, b1.2.2.1, hun]
      obtain ⟨m1, e72, -, hf1⟩ := b1.1 u hun
      refine w_fz fun B hB C hC => ?_
      simp only [f_mkF, w_sI, w_sR, w_sL, w_sC, w_sk, w_sbr, w_sco, w_rV, w_rI, w_rR, w_rL, w_dI, w_sO, w_sq, w_si, w_pI, w_pZ, w_pR, w_pU, w_qI, w_qB, w_qZ, w_qU, w_qR, w_kV, q_icst, q_lcst, q_xR, q_ldI, q_ldR, q_ldL, q_bn, q_un, q_dv, q_fI, q_fR, q_aI, q_aR, q_aN, q_tn, q_cmp, q_cmz, q_cnt, q_ctt, q_cand, q_cor, q_vn, q_vI, q_vR, q_vL, q_kI, q_kR, q_kL, q_ckI, envN, argE, List.flatMap_cons, List.flatMap_nil, Value.category, junk, oadd, osub, omul, oand, oor, oxor, odiv, orem, oshl, oshr, oushr, omax, omin]
      simp (disch := first | omega | simp) [rk_i, rk_b, rk_o, st1, kill, Value.category, rcv, nog, inI_b, nI_clamp, nI_ltI, nI_leI, nI_eq, nI_9, nI_6, nI_22, nI_12, nI_180, nI_add, nI_1, hn1, ly166]
      refine fq_mono (m_least m1 e72 (Nat.le_refl _)) ?_
      rintro r h2 ⟨rfl, f2, hmd⟩
      simp
      subst hB hC
      have f3 : Fr (SMk t (W_n (W t))) h h2 := f1.trans (f2.sub fun a k z => Or.inr (Or.inl z.1))
      have b2' := b.fr h18 (f3.sub fun a k z => Or.inl z)
      obtain ⟨m2, e72', -, -⟩ := b2'.1 u hun
      have ip2 := f3.ip ip
      have hn2 := ip2.1
      have hm2 := ip2.2.2
      have u4 : u < 4 := by omega
      have e41 : h2.2.1 166 41 = nI s := (f3.2.2 166 41 (by unfold SMk SM; omega)).trans hs1
      refine w_fz fun B hB C hC => ?_
      simp only [f_mkF, w_sI, w_sR, w_sL, w_sC, w_sk, w_sbr, w_sco, w_rV, w_rI, w_rR, w_rL, w_dI, w_sO, w_sq, w_si, w_pI, w_pZ, w_pR, w_pU, w_qI, w_qB, w_qZ, w_qU, w_qR, w_kV, q_icst, q_lcst, q_xR, q_ldI, q_ldR, q_ldL, q_bn, q_un, q_dv, q_fI, q_fR, q_aI, q_aR, q_aN, q_tn, q_cmp, q_cmz, q_cnt, q_ctt, q_cand, q_cor, q_vn, q_vI, q_vR, q_vL, q_kI, q_kR, q_kL, q_ckI, envN, argE, List.flatMap_cons, List.flatMap_nil, Value.category, junk, oadd, osub, omul, oand, oor, oxor, odiv, orem, oshl, oshr, oushr, omax, omin]
      simp (disch := first | omega | simp) [rk_i, rk_b, rk_o, st1, kill, Value.category, rcv, nog, inI_b, nI_clamp, nI_ltI, nI_leI, nI_eq, nI_9, nI_6, nI_22, nI_12, nI_180, nI_add, nI_1, hn2, ly166, ly172, hm2 8, mp, u4, e72']
      have mw := m_works m2 e41 hs2 (md := lows (W u)) hmd
      rw [hf1] at mw
      refine fq_mono mw ?_
      rintro r h3 ⟨rfl, f4, hR, e51⟩
      simp
      subst hB hC
      have f5 : Fr (SMk t (W_n (W t))) h h3 := f3.trans (f4.sub fun a k z => Or.inl z)
      have b3 := b.fr h18 (f5.sub fun a k z => Or.inl z)
      obtain ⟨m3, -, e211, -⟩ := b3.1 u hun
      have ip3 := f5.ip ip
      have hn3 := ip3.1
      have hm3 := ip3.2.2
      have e51' : h3.2.1 166 51 = whz (W u) s := e51
      by_cases c : whz (W u) s = whz (W u) 0
      · refine (w_siF ?_).mpr (w_sk.mpr ⟨fun _ => ?_, (fun z => by cases z), fun z => absurd rfl z⟩)
        · simp only [f_mkF, w_sI, w_sR, w_sL, w_sC, w_sk, w_sbr, w_sco, w_rV, w_rI, w_rR, w_rL, w_dI, w_sO, w_sq, w_si, w_pI, w_pZ, w_pR, w_pU, w_qI, w_qB, w_qZ, w_qU, w_qR, w_kV, q_icst, q_lcst, q_xR, q_ldI, q_ldR, q_ldL, q_bn, q_un, q_dv, q_fI, q_fR, q_aI, q_aR, q_aN, q_tn, q_cmp, q_cmz, q_cnt, q_ctt, q_cand, q_cor, q_vn, q_vI, q_vR, q_vL, q_kI, q_kR, q_kL, q_ckI, envN, argE, List.flatMap_cons, List.flatMap_nil, Value.category, junk, oadd, osub, omul, oand, oor, oxor, odiv, orem, oshl, oshr, oushr, omax, omin]
          simp (disch := first | omega | simp) [rk_i, rk_b, rk_o, st1, kill, Value.category, rcv, nog, inI_b, nI_clamp, nI_ltI, nI_leI, nI_eq, nI_9, nI_6, nI_22, nI_12, nI_180, nI_add, nI_1, hn3, ly166, ly211, hm3 61, mp, u4, e211, e51', c]
        · refine w_sCe (nI u) (nI (u + 1)) rfl (nI_1 _) rfl ⟨rfl, nt - (u + 1), by omega, u + 1, rfl, by omega, rfl, f5, ?_⟩
          rw [thB, htb]
          simp [c]
      · refine (w_siT ?_).mpr ?_
        · simp only [f_mkF, w_sI, w_sR, w_sL, w_sC, w_sk, w_sbr, w_sco, w_rV, w_rI, w_rR, w_rL, w_dI, w_sO, w_sq, w_si, w_pI, w_pZ, w_pR, w_pU, w_qI, w_qB, w_qZ, w_qU, w_qR, w_kV, q_icst, q_lcst, q_xR, q_ldI, q_ldR, q_ldL, q_bn, q_un, q_dv, q_fI, q_fR, q_aI, q_aR, q_aN, q_tn, q_cmp, q_cmz, q_cnt, q_ctt, q_cand, q_cor, q_vn, q_vI, q_vR, q_vL, q_kI, q_kR, q_kL, q_ckI, envN, argE, List.flatMap_cons, List.flatMap_nil, Value.category, junk, oadd, osub, omul, oand, oor, oxor, odiv, orem, oshl, oshr, oushr, omax, omin]
          simp (disch := first | omega | simp) [rk_i, rk_b, rk_o, st1, kill, Value.category, rcv, nog, inI_b, nI_clamp, nI_ltI, nI_leI, nI_eq, nI_9, nI_6, nI_22, nI_12, nI_180, nI_add, nI_1, hn3, ly166, ly211, hm3 61, mp, u4, e211, e51', c]
        · rw [w_rI, q_icst]
          refine ⟨(fun z => by rcases z with z | z <;> cases z), (fun z => by cases z), fun _ _ _ => ⟨f5, Or.inl ⟨rfl, rfl, ?_⟩⟩⟩
          have key : ∀ j, u < j → thB W s j = false := by
            intro j
            induction j with
            | zero => intro z; omega
            | succ j ih =>
              intro z
              rw [thB]
              by_cases e : u = j
              · subst e; simp [c]
              · rw [ih (by omega)]; rfl
          exact key nt hun
    · have : u = nt := by omega
      subst this
      refine ev_F ?_ ⟨fun _ => ⟨f1, Or.inr ⟨rfl, htb, _, rfl⟩⟩, fun z => (by cases z)⟩
      simp only [f_mkF, w_sI, w_sR, w_sL, w_sC, w_sk, w_sbr, w_sco, w_rV, w_rI, w_rR, w_rL, w_dI, w_sO, w_sq, w_si, w_pI, w_pZ, w_pR, w_pU, w_qI, w_qB, w_qZ, w_qU, w_qR, w_kV, q_icst, q_lcst, q_xR, q_ldI, q_ldR, q_ldL, q_bn, q_un, q_dv, q_fI, q_fR, q_aI, q_aR, q_aN, q_tn, q_cmp, q_cmz, q_cnt, q_ctt, q_cand, q_cor, q_vn, q_vI, q_vR, q_vL, q_kI, q_kR, q_kL, q_ckI, envN, argE, List.flatMap_cons, List.flatMap_nil, Value.category, junk, oadd, osub, omul, oand, oor, oxor, odiv, orem, oshl, oshr, oushr, omax, omin]
      simp (disch := first | omega | simp) [rk_i, rk_b, rk_o, st1, kill, Value.category, rcv, nog, inI_b, nI_clamp, nI_ltI, nI_leI, nI_eq, nI_9, nI_6, nI_22, nI_12, nI_180, nI_add, nI_1, hn1, ly166, b1.2.2.1]
  · rintro o v E1 h1 ⟨f1, ⟨rfl, rfl, htb⟩ | ⟨rfl, htb, x, rfl⟩⟩
    · refine ⟨(fun z => by cases z), fun _ => Or.inr ⟨rfl, by rw [rk_b]; simp, ?_, f1⟩⟩
      rw [htb]
      rfl
    · refine ⟨fun _ => ?_, fun z => absurd rfl z⟩
      rw [htb]
      refine w_sq.mpr ?_
      refine w_sqI (E' := [.ref 166, .int (nI f), .int (nI fr), .int (nI t), .int q, .int p, .int mo, .int (nI 0)]) (nI 0) (by simp only [f_mkF, w_sI, w_sR, w_sL, w_sC, w_sk, w_sbr, w_sco, w_rV, w_rI, w_rR, w_rL, w_dI, w_sO, w_sq, w_si, w_pI, w_pZ, w_pR, w_pU, w_qI, w_qB, w_qZ, w_qU, w_qR, w_kV, q_icst, q_lcst, q_xR, q_ldI, q_ldR, q_ldL, q_bn, q_un, q_dv, q_fI, q_fR, q_aI, q_aR, q_aN, q_tn, q_cmp, q_cmz, q_cnt, q_ctt, q_cand, q_cor, q_vn, q_vI, q_vR, q_vL, q_kI, q_kR, q_kL, q_ckI, envN, argE, List.flatMap_cons, List.flatMap_nil, Value.category, junk, oadd, osub, omul, oand, oor, oxor, odiv, orem, oshl, oshr, oushr, omax, omin]; simp [nI_0]) rfl ?_
      generalize hmk : (fun l => decide (whz (stg (W t) q p (nI fr) (nI l)) s = p)) = mk
      refine wp_mono (w_lp (Q := fun o v E1 h' => Fr (SMk t (W_n (W t))) h h' ∧ ((o = 2 ∧ v = .int 0 ∧ laB D mo mk 6 = false) ∨ (o = 0 ∧ laB D mo mk 6 = true))) (fun k E h' => ∃ l, k = 6 - l ∧ l ≤ 6 ∧ E = [.ref 166, .int (nI f), .int (nI fr), .int (nI t), .int q, .int p, .int mo, .int (nI l)] ∧ Fr (SMk t (W_n (W t))) h h' ∧ laB D mo mk l = true) ?_ 6 _ _ ⟨0, rfl, by omega, rfl, f1, rfl⟩) ?_
      · rintro k E h' ⟨l, rfl, hl, rfl, f2, hlb⟩
        have b2' := b.fr h18 (f2.sub fun a k z => Or.inl z)
        have ip2 := f2.ip ip
        have hn2 := ip2.1
        have hm2 := ip2.2.2
        by_cases hl6 : l < 6
        · refine ev_T ?_ ⟨fun z => (by cases z), fun _ => ?_⟩
          · simp only [f_mkF, w_sI, w_sR, w_sL, w_sC, w_sk, w_sbr, w_sco, w_rV, w_rI, w_rR, w_rL, w_dI, w_sO, w_sq, w_si, w_pI, w_pZ, w_pR, w_pU, w_qI, w_qB, w_qZ, w_qU, w_qR, w_kV, q_icst, q_lcst, q_xR, q_ldI, q_ldR, q_ldL, q_bn, q_un, q_dv, q_fI, q_fR, q_aI, q_aR, q_aN, q_tn, q_cmp, q_cmz, q_cnt, q_ctt, q_cand, q_cor, q_vn, q_vI, q_vR, q_vL, q_kI, q_kR, q_kL, q_ckI, envN, argE, List.flatMap_cons, List.flatMap_nil, Value.category, junk, oadd, osub, omul, oand, oor, oxor, odiv, orem, oshl, oshr, oushr, omax, omin]
            simp (disch := first | omega | simp) [rk_i, rk_b, rk_o, st1, kill, Value.category, rcv, nog, inI_b, nI_clamp, nI_ltI, nI_leI, nI_eq, nI_9, nI_6, nI_22, nI_12, nI_180, nI_add, nI_1, k6, hl6]
          have el := b2'.2.1 l hl6
          have hmkl : mk l = decide (whz (stg (W t) q p (nI fr) (nI l)) s = p) := by rw [← hmk]
          have hgo : ∀ h4, Fr (SMk t (W_n (W t))) h h4 → laB D mo mk (l + 1) = true → wp (sC 7 1) [.ref 166, .int (nI f), .int (nI fr), .int (nI t), .int q, .int p, .int mo, .int (nI l)] h4 fun o2 _ E2 h3 => o2 = 0 ∧ ∃ k2, k2 < 6 - l ∧ ∃ l, k2 = 6 - l ∧ l ≤ 6 ∧ E2 = [.ref 166, .int (nI f), .int (nI fr), .int (nI t), .int q, .int p, .int mo, .int (nI l)] ∧ Fr (SMk t (W_n (W t))) h h3 ∧ laB D mo mk l = true := fun h4 a b => w_sCe (nI l) (nI (l + 1)) rfl (nI_1 _) rfl ⟨rfl, 6 - (l + 1), by omega, l + 1, rfl, by omega, rfl, a, b⟩
          have hc1 : ev (cand (cnt (cmp oeq (aI 13 (fR 11 60 (ldR 0)) (ldI 7)) (icst (-1)))) (cnt (cmp ogt (aI 13 (fR 11 60 (ldR 0)) (ldI 7)) (ldI 6)))) [.ref 166, .int (nI f), .int (nI fr), .int (nI t), .int q, .int p, .int mo, .int (nI l)] h' fun t1 h4 => t1 = decide (D l ≠ -1 ∧ D l ≤ mo) ∧ h4 = h' := by
            simp only [f_mkF, w_sI, w_sR, w_sL, w_sC, w_sk, w_sbr, w_sco, w_rV, w_rI, w_rR, w_rL, w_dI, w_sO, w_sq, w_si, w_pI, w_pZ, w_pR, w_pU, w_qI, w_qB, w_qZ, w_qU, w_qR, w_kV, q_icst, q_lcst, q_xR, q_ldI, q_ldR, q_ldL, q_bn, q_un, q_dv, q_fI, q_fR, q_aI, q_aR, q_aN, q_tn, q_cmp, q_cmz, q_cnt, q_ctt, q_cand, q_cor, q_vn, q_vI, q_vR, q_vL, q_kI, q_kR, q_kL, q_ckI, envN, argE, List.flatMap_cons, List.flatMap_nil, Value.category, junk, oadd, osub, omul, oand, oor, oxor, odiv, orem, oshl, oshr, oushr, omax, omin]
            by_cases c3 : D l = -1
            · simp (disch := first | omega | simp) [rk_i, rk_b, rk_o, st1, kill, Value.category, rcv, nog, inI_b, nI_clamp, nI_ltI, nI_leI, nI_eq, nI_9, nI_6, nI_22, nI_12, nI_180, nI_add, nI_1, hn2, ly166, ly210, hm2 60, mp, hl6, el, c3]
            · by_cases c4 : D l ≤ mo
              · simp (disch := first | omega | simp) [rk_i, rk_b, rk_o, st1, kill, Value.category, rcv, nog, inI_b, nI_clamp, nI_ltI, nI_leI, nI_eq, nI_9, nI_6, nI_22, nI_12, nI_180, nI_add, nI_1, hn2, ly166, ly210, hm2 60, mp, hl6, el, c3, c4]
              · have c5 : mo < D l := Int32.not_le.mp c4
                simp (disch := first | omega | simp) [rk_i, rk_b, rk_o, st1, kill, Value.category, rcv, nog, inI_b, nI_clamp, nI_ltI, nI_leI, nI_eq, nI_9, nI_6, nI_22, nI_12, nI_180, nI_add, nI_1, hn2, ly166, ly210, hm2 60, mp, hl6, el, c3, c4, c5]
          rw [w_si, q_cand]
          refine ev_mono hc1 ?_
          rintro t1 h4 ⟨rfl, rfl⟩
          refine ⟨fun c1 => ?_, fun c1 => ?_⟩
          · rw [decide_eq_true_iff] at c1
            rw [q_cnt, q_cmz]
            refine q_kIe [.ref 166, .int (nI f), .int (nI t), .int (nI fr), .int q, .int p, .int (nI l)] (by simp only [f_mkF, w_sI, w_sR, w_sL, w_sC, w_sk, w_sbr, w_sco, w_rV, w_rI, w_rR, w_rL, w_dI, w_sO, w_sq, w_si, w_pI, w_pZ, w_pR, w_pU, w_qI, w_qB, w_qZ, w_qU, w_qR, w_kV, q_icst, q_lcst, q_xR, q_ldI, q_ldR, q_ldL, q_bn, q_un, q_dv, q_fI, q_fR, q_aI, q_aR, q_aN, q_tn, q_cmp, q_cmz, q_cnt, q_ctt, q_cand, q_cor, q_vn, q_vI, q_vR, q_vL, q_kI, q_kR, q_kL, q_ckI, envN, argE, List.flatMap_cons, List.flatMap_nil, Value.category, junk, oadd, osub, omul, oand, oor, oxor, odiv, orem, oshl, oshr, oushr, omax, omin]; simp) (by simp [rcv, hn2, ly166]) ?_
            obtain ⟨m2, e72, -, hf2⟩ := b2'.1 t b.2.2.2.1
            have mm := m_makes m2 e72 (sp := s) ((f2.2.2 166 41 (by unfold SMk SM; omega)).trans hs1) hs2 (hst l hl6)
            rw [hf2] at mm
            refine fq_mono mm ?_
            rintro r h6 ⟨rfl, f6⟩
            refine ⟨_, rfl, ?_⟩
            have g6 : Fr (SMk t (W_n (W t))) h h6 := f2.trans f6
            by_cases c2 : whz (stg (W t) q p (nI fr) (nI l)) s = p
            · refine ⟨fun _ => ?_, fun z => by simp [c2, b2] at z⟩
              rw [w_rI, q_icst]
              refine ⟨(fun z => by rcases z with z | z <;> cases z), (fun z => by cases z), fun _ _ _ => ⟨g6, Or.inl ⟨rfl, rfl, ?_⟩⟩⟩
              have key : ∀ j, l < j → laB D mo mk j = false := by
                intro j
                induction j with
                | zero => intro z; omega
                | succ j ih =>
                  intro z
                  rw [laB]
                  by_cases e : l = j
                  · subst e; simp [c1.1, c1.2, hmkl, c2]
                  · rw [ih (by omega)]; rfl
              exact key 6 hl6
            · refine ⟨fun z => by simp [c2, b2] at z, fun _ => ?_⟩
              rw [w_sk]
              refine ⟨fun _ => hgo h6 g6 ?_, (fun z => by cases z), fun z => absurd rfl z⟩
              rw [laB, hlb, hmkl]
              simp [c2]
          · rw [decide_eq_false_iff_not] at c1
            refine ⟨(fun z => by cases z), fun _ => ?_⟩
            rw [w_sk]
            refine ⟨fun _ => hgo h4 f2 ?_, (fun z => by cases z), fun z => absurd rfl z⟩
            rw [laB, hlb]
            by_cases c3 : D l = -1
            · simp [c3]
            · have c4 : ¬ D l ≤ mo := fun z => c1 ⟨c3, z⟩
              simp [c4]
        · have : l = 6 := by omega
          subst this
          refine ev_F ?_ ⟨fun _ => ⟨f2, Or.inr ⟨rfl, hlb⟩⟩, fun z => (by cases z)⟩
          simp only [f_mkF, w_sI, w_sR, w_sL, w_sC, w_sk, w_sbr, w_sco, w_rV, w_rI, w_rR, w_rL, w_dI, w_sO, w_sq, w_si, w_pI, w_pZ, w_pR, w_pU, w_qI, w_qB, w_qZ, w_qU, w_qR, w_kV, q_icst, q_lcst, q_xR, q_ldI, q_ldR, q_ldL, q_bn, q_un, q_dv, q_fI, q_fR, q_aI, q_aR, q_aN, q_tn, q_cmp, q_cmz, q_cnt, q_ctt, q_cand, q_cor, q_vn, q_vI, q_vR, q_vL, q_kI, q_kR, q_kL, q_ckI, envN, argE, List.flatMap_cons, List.flatMap_nil, Value.category, junk, oadd, osub, omul, oand, oor, oxor, odiv, orem, oshl, oshr, oushr, omax, omin]
          simp (disch := first | omega | simp) [rk_i, rk_b, rk_o, st1, kill, Value.category, rcv, nog, inI_b, nI_clamp, nI_ltI, nI_leI, nI_eq, nI_9, nI_6, nI_22, nI_12, nI_180, nI_add, nI_1, k6]
      · rintro o v E1 h3 ⟨f3, ⟨rfl, rfl, hlb⟩ | ⟨rfl, hlb⟩⟩
        · refine ⟨(fun z => by cases z), fun _ => Or.inr ⟨rfl, by rw [rk_b]; simp, ?_, f3⟩⟩
          rw [hlb]
          rfl
        · refine ⟨fun _ => ?_, fun z => absurd rfl z⟩
          rw [w_rI, q_icst]
          refine Or.inr ⟨rfl, by rw [rk_b]; simp, ?_, f3⟩
          rw [hlb]
          rfl
def SSp (t n a k : Nat) : Prop := SSt t n a k ∨ a = 210 ∨ a = 211 ∨ SN a k
theorem m_stop {W : Nat → Wd} {f nt t fr : Nat} {h : Hp} (hfr : fr < 6) (hB : ∀ u, u < nt → MX (W u) u h ∧ h.2.1 172 u = nI (W_n (W u)) ∧ W_f (W u) = f) (hnt : h.2.1 166 2 = nI nt) (htn : t < nt) (nt4 : nt ≤ 4) {q p mo : Int32} (hcb : CB h (nI f) (nI fr) (nI t) q p) (hc2 : p ≠ q ∧ q ≠ frm (W_R (W t)) (W_fo (W t)) (W_n (W t)) ∧ W_n (W t) ≤ 18) (hmo : 0 ≤ mo ∧ mo ≤ 100000) (hpw : p ≠ whz (W t) 0) (hst : ∀ l, l < 6 → WV (stg (W t) q p (nI fr) (nI l))) {C : Nat → Nat → Int32} (hC : ∀ a b, a < 6 → b < 6 → h.2.1 182 (6 * a + b) = C a b) (hcv : CV C) : fq F_X11_stopped [.ref 166, .int (nI f), .int (nI fr), .int (nI t), .int q, .int p, .int mo] h fun r h' => (∃ v, r = some (.int v) ∧ LSp (fun s => thB W s nt && laB (rds C (fr0 fr) 5) mo (fun l => decide (whz (stg (W t) q p (nI fr) (nI l)) s = p)) 6) v) ∧ Fr (SSp t (W_n (W t))) h h' := by
  obtain ⟨m, e72, hWf⟩ := hB t htn
  have hn := m.1.1
  have k6 : (6 : Int32) = nI 6 := rfl
  have k64 : (64 : Int32) = nI 64 := rfl
  have h65 : eq6 (rds C (fr0 fr) 6) (rds C (fr0 fr) 5) := fun l hl => rds_65 hcv hfr hl
  generalize hDD : rds C (fr0 fr) 5 = D at *
  unfold F_X11_stopped
  refine f_mkE [.ref 166, .int (nI f), .int (nI fr), .int (nI t), .int q, .int p, .int mo, junk, junk, junk] rfl (by simp [argE, Value.category]) ?_
  rw [w_sq, w_si, q_cor, q_cnt, q_cnt, q_cmz]
  refine q_kIe [.ref 166, .int (nI f), .int (nI fr), .int (nI t), .int q, .int p] (by simp only [f_mkF, w_sI, w_sR, w_sL, w_sC, w_sk, w_sbr, w_sco, w_rV, w_rI, w_rR, w_rL, w_dI, w_sO, w_sq, w_si, w_pI, w_pZ, w_pR, w_pU, w_qI, w_qB, w_qZ, w_qU, w_qR, w_kV, q_icst, q_lcst, q_xR, q_ldI, q_ldR, q_ldL, q_bn, q_un, q_dv, q_fI, q_fR, q_aI, q_aR, q_aN, q_tn, q_cmp, q_cmz, q_cnt, q_ctt, q_cand, q_cor, q_vn, q_vI, q_vR, q_vL, q_kI, q_kR, q_kL, q_ckI, envN, argE, List.flatMap_cons, List.flatMap_nil, Value.category, junk, oadd, osub, omul, oand, oor, oxor, odiv, orem, oshl, oshr, oushr, omax, omin]; simp) (by simp [rcv, hn, ly166]) ?_
  have mc := m_can2 m e72 (by rw [hWf]; exact hcb) hc2 hpw
  rw [hWf] at mc
  refine fq_mono mc ?_
  rintro r h1 ⟨rfl, f1, e41⟩
  refine ⟨_, rfl, (fun z => by simp at z), fun _ => ?_⟩
  have hn1 : h1.1 = 212 := f1.1.trans hn
  refine ev_F ?_ ⟨(fun z => by cases z), fun _ => w_sk2.mpr ?_⟩
  · simp only [f_mkF, w_sI, w_sR, w_sL, w_sC, w_sk, w_sbr, w_sco, w_rV, w_rI, w_rR, w_rL, w_dI, w_sO, w_sq, w_si, w_pI, w_pZ, w_pR, w_pU, w_qI, w_qB, w_qZ, w_qU, w_qR, w_kV, q_icst, q_lcst, q_xR, q_ldI, q_ldR, q_ldL, q_bn, q_un, q_dv, q_fI, q_fR, q_aI, q_aR, q_aN, q_tn, q_cmp, q_cmz, q_cnt, q_ctt, q_cand, q_cor, q_vn, q_vI, q_vR, q_vL, q_kI, q_kR, q_kL, q_ckI, envN, argE, List.flatMap_cons, List.flatMap_nil, Value.category, junk, oadd, osub, omul, oand, oor, oxor, odiv, orem, oshl, oshr, oushr, omax, omin]
    simp [rk_i, rk_b, rk_o, st1, kill, Value.category, rcv, nog, fq_of (e_m_in _ _ _ _), b2_t hmo]
  have fr1 : Fr (SSp t (W_n (W t))) h h1 := f1.sub fun a k z => Or.inr (Or.inr (Or.inr z))
  have base : ∀ h', Fr (fun a k => SN a k ∨ a = 211) h h' → Ip h' ∧ h'.2.1 166 2 = nI nt ∧ ∀ u, u < nt → MX (W u) u h' ∧ h'.2.1 172 u = nI (W_n (W u)) := by
    intro h' g
    refine ⟨g.ip m.1, (g.2.2 166 2 (by unfold SN SM; omega)).trans hnt, fun u hu => ?_⟩
    obtain ⟨c1, c2, c3⟩ := hB u hu
    exact ⟨c1.gen (g.ip c1.1) fun a k z => g.2.2 a k (by unfold SN SM; omega), (g.2.2 172 u (by unfold SN SM; omega)).trans c2⟩
  refine w_sqS (fun E1 h2 => (∃ x, E1 = [.ref 166, .int (nI f), .int (nI fr), .int (nI t), .int q, .int p, .int mo, .int x, junk, junk]) ∧ Fr (fun a k => SN a k ∨ a = 211) h h2 ∧ h2.2.1 166 41 = 0 ∧ ∀ u, u < nt → h2.2.1 211 u = whz (W u) 0) ?_ ?_
  · refine w_sqI (E' := [.ref 166, .int (nI f), .int (nI fr), .int (nI t), .int q, .int p, .int mo, .int (nI 0), junk, junk]) (nI 0) (by simp only [f_mkF, w_sI, w_sR, w_sL, w_sC, w_sk, w_sbr, w_sco, w_rV, w_rI, w_rR, w_rL, w_dI, w_sO, w_sq, w_si, w_pI, w_pZ, w_pR, w_pU, w_qI, w_qB, w_qZ, w_qU, w_qR, w_kV, q_icst, q_lcst, q_xR, q_ldI, q_ldR, q_ldL, q_bn, q_un, q_dv, q_fI, q_fR, q_aI, q_aR, q_aN, q_tn, q_cmp, q_cmz, q_cnt, q_ctt, q_cand, q_cor, q_vn, q_vI, q_vR, q_vL, q_kI, q_kR, q_kL, q_ckI, envN, argE, List.flatMap_cons, List.flatMap_nil, Value.category, junk, oadd, osub, omul, oand, oor, oxor, odiv, orem, oshl, oshr, oushr, omax, omin]; simp [nI_0]) rfl ?_
    refine w_lp (fun k E h' => ∃ u, k = nt - u ∧ u ≤ nt ∧ E = [.ref 166, .int (nI f), .int (nI fr), .int (nI t), .int q, .int p, .int mo, .int (nI u), junk, junk] ∧ Fr (fun a k => SN a k ∨ a = 211) h h' ∧ h'.2.1 166 41 = 0 ∧ ∀ u', u' < u → h'.2.1 211 u' = whz (W u') 0) ?_ nt _ _ ⟨0, rfl, by omega, rfl, f1.sub fun a k z => Or.inl z, e41, fun u' z => by omega⟩
    rintro k E h' ⟨u, rfl, hu, rfl, g1, s1, hw1⟩
    obtain ⟨ip1, d2, dB⟩ := base h' g1
    have hn' := ip1.1
    have hm' := ip1.2.2
    by_cases hun : u < nt
    · refine ev_T ?_ ⟨fun z => (by cases z), fun _ => ?_⟩
      · simp only [f_mkF, w_sI, w_sR, w_sL, w_sC, w_sk, w_sbr, w_sco, w_rV, w_rI, w_rR, w_rL, w_dI, w_sO, w_sq, w_si, w_pI, w_pZ, w_pR, w_pU, w_qI, w_qB, w_qZ, w_qU, w_qR, w_kV, q_icst, q_lcst, q_xR, q_ldI, q_ldR, q_ldL, q_bn, q_un, q_dv, q_fI, q_fR, q_aI, q_aR, q_aN, q_tn, q_cmp, q_cmz, q_cnt, q_ctt, q_cand, q_cor, q_vn, q_vI, q_vR, q_vL, q_kI, q_kR, q_kL, q_ckI, envN, argE, List.flatMap_cons, List.flatMap_nil, Value.category, junk, oadd, osub, omul, oand, oor, oxor, odiv, orem, oshl, oshr, oushr, omax, omin]
        simp (disch := first | omega | simp) [rk_i, rk_b, rk_o, st1, kill, Value.category, rcv, nog, inI_b, nI_clamp, nI_ltI, nI_leI, nI_eq, nI_9, nI_6, nI_22, nI_12, nI_180, nI_add, nI_1, hn', ly166, d2, hun]
      have u4 : u < 4 := by omega
      obtain ⟨c1, c2⟩ := dB u hun
      refine w_qIf 211 u ?_ ?_ rfl u4 (by omega) ?_
      · simp only [f_mkF, w_sI, w_sR, w_sL, w_sC, w_sk, w_sbr, w_sco, w_rV, w_rI, w_rR, w_rL, w_dI, w_sO, w_sq, w_si, w_pI, w_pZ, w_pR, w_pU, w_qI, w_qB, w_qZ, w_qU, w_qR, w_kV, q_icst, q_lcst, q_xR, q_ldI, q_ldR, q_ldL, q_bn, q_un, q_dv, q_fI, q_fR, q_aI, q_aR, q_aN, q_tn, q_cmp, q_cmz, q_cnt, q_ctt, q_cand, q_cor, q_vn, q_vI, q_vR, q_vL, q_kI, q_kR, q_kL, q_ckI, envN, argE, List.flatMap_cons, List.flatMap_nil, Value.category, junk, oadd, osub, omul, oand, oor, oxor, odiv, orem, oshl, oshr, oushr, omax, omin]; simp [hn', ly166, hm' 61, mp]
      · simp only [f_mkF, w_sI, w_sR, w_sL, w_sC, w_sk, w_sbr, w_sco, w_rV, w_rI, w_rR, w_rL, w_dI, w_sO, w_sq, w_si, w_pI, w_pZ, w_pR, w_pU, w_qI, w_qB, w_qZ, w_qU, w_qR, w_kV, q_icst, q_lcst, q_xR, q_ldI, q_ldR, q_ldL, q_bn, q_un, q_dv, q_fI, q_fR, q_aI, q_aR, q_aN, q_tn, q_cmp, q_cmz, q_cnt, q_ctt, q_cand, q_cor, q_vn, q_vI, q_vR, q_vL, q_kI, q_kR, q_kL, q_ckI, envN, argE, List.flatMap_cons, List.flatMap_nil, Value.category, junk, oadd, osub, omul, oand, oor, oxor, odiv, orem, oshl, oshr, oushr, omax, omin]; simp
      refine q_kIe [.ref 166, .int (nI f), .int (nI u)] (by simp only [f_mkF, w_sI, w_sR, w_sL, w_sC, w_sk, w_sbr, w_sco, w_rV, w_rI, w_rR, w_rL, w_dI, w_sO, w_sq, w_si, w_pI, w_pZ, w_pR, w_pU, w_qI, w_qB, w_qZ, w_qU, w_qR, w_kV, q_icst, q_lcst, q_xR, q_ldI, q_ldR, q_ldL, q_bn, q_un, q_dv, q_fI, q_fR, q_aI, q_aR, q_aN, q_tn, q_cmp, q_cmz, q_cnt, q_ctt, q_cand, q_cor, q_vn, q_vI, q_vR, q_vL, q_kI, q_kR, q_kL, q_ckI, envN, argE, List.flatMap_cons, List.flatMap_nil, Value.category, junk, oadd, osub, omul, oand, oor, oxor, odiv, orem, oshl, oshr, oushr, omax, omin]; simp) (by simp [rcv, hn', ly166]) ?_
      have mw := m_whose0 c1 c2 (by rw [d2, nI_ltI (by omega) (by omega)]; exact hun)
      rw [(hB u hun).2.2] at mw
      refine fq_mono mw ?_
      rintro r h3 ⟨rfl, f3, s3⟩
      refine ⟨_, rfl, by have := f3.1; omega, fun _ => ?_, (fun z => by cases z), fun z => absurd rfl z⟩
      refine w_sCe (nI u) (nI (u + 1)) rfl (nI_1 _) rfl ⟨rfl, nt - (u + 1), by omega, u + 1, rfl, by omega, rfl, (g1.trans (f3.sub fun a k z => Or.inl z)).w (Or.inr rfl), by rw [wI_o (by decide)]; exact s3, fun u' hu' => ?_⟩
      rw [wI_i]
      by_cases e : u' = u
      · rw [if_pos ⟨rfl, e⟩, e]
      · rw [if_neg (fun z => e z.2), f3.2.2 211 u' (by unfold SN SM; omega)]
        exact hw1 u' (by omega)
    · have : u = nt := by omega
      subst this
      refine ev_F ?_ ⟨fun _ => ⟨rfl, ⟨_, rfl⟩, g1, s1, hw1⟩, fun z => (by cases z)⟩
      simp only [f_mkF, w_sI, w_sR, w_sL, w_sC, w_sk, w_sbr, w_sco, w_rV, w_rI, w_rR, w_rL, w_dI, w_sO, w_sq, w_si, w_pI, w_pZ, w_pR, w_pU, w_qI, w_qB, w_qZ, w_qU, w_qR, w_kV, q_icst, q_lcst, q_xR, q_ldI, q_ldR, q_ldL, q_bn, q_un, q_dv, q_fI, q_fR, q_aI, q_aR, q_aN, q_tn, q_cmp, q_cmz, q_cnt, q_ctt, q_cand, q_cor, q_vn, q_vI, q_vR, q_vL, q_kI, q_kR, q_kL, q_ckI, envN, argE, List.flatMap_cons, List.flatMap_nil, Value.category, junk, oadd, osub, omul, oand, oor, oxor, odiv, orem, oshl, oshr, oushr, omax, omin]
      simp (disch := first | omega | simp) [rk_i, rk_b, rk_o, st1, kill, Value.category, rcv, nog, inI_b, nI_clamp, nI_ltI, nI_leI, nI_eq, nI_9, nI_6, nI_22, nI_12, nI_180, nI_add, nI_1, hn', ly166, d2]
  rintro E1 h2 ⟨⟨x, rfl⟩, g2, s2, hw2⟩
  obtain ⟨ip2, d2, dB⟩ := base h2 g2
  have hn2 := ip2.1
  refine w_fz fun B hB Cc hCc => ?_
  simp only [f_mkF, w_sI, w_sR, w_sL, w_sC, w_sk, w_sbr, w_sco, w_rV, w_rI, w_rR, w_rL, w_dI, w_sO, w_sq, w_si, w_pI, w_pZ, w_pR, w_pU, w_qI, w_qB, w_qZ, w_qU, w_qR, w_kV, q_icst, q_lcst, q_xR, q_ldI, q_ldR, q_ldL, q_bn, q_un, q_dv, q_fI, q_fR, q_aI, q_aR, q_aN, q_tn, q_cmp, q_cmz, q_cnt, q_ctt, q_cand, q_cor, q_vn, q_vI, q_vR, q_vL, q_kI, q_kR, q_kL, q_ckI, envN, argE, List.flatMap_cons, List.flatMap_nil, Value.category, junk, oadd, osub, omul, oand, oor, oxor, odiv, orem, oshl, oshr, oushr, omax, omin]
  simp (disch := first | omega | simp) [rk_i, rk_b, rk_o, st1, kill, Value.category, rcv, nog, inI_b, nI_clamp, nI_ltI, nI_leI, nI_eq, nI_9, nI_6, nI_22, nI_12, nI_180, nI_add, nI_1, hn2, ly166]
  refine fq_mono (m_goes ip2 hfr (C := C) fun a b ha hb => (g2.2.2 _ _ (by unfold SN SM; omega)).trans (hC a b ha hb)) ?_
  rintro r h3 ⟨rfl, f3, e3⟩
  simp
  subst hB hCc
  have bs3 : BS W f nt t D h3 := by
    refine ⟨fun u hu => ?_, fun l hl => (e3 l hl).trans (h65 l hl), (f3.2.2 166 2 (by omega)).trans d2, htn, nt4⟩
    obtain ⟨c1, c2⟩ := dB u hu
    exact ⟨c1.gen (f3.ip c1.1) fun a k z => f3.2.2 a k (by omega), (f3.2.2 172 u (by omega)).trans c2, (f3.2.2 211 u (by omega)).trans (hw2 u hu), (‹∀ u, u < nt → MX (W u) u h ∧ h.2.1 172 u = nI (W_n (W u)) ∧ W_f (W u) = f› u hu).2.2⟩
  have fr3 : Fr (SSp t (W_n (W t))) h h3 := (g2.sub fun a k z => by unfold SSp; rcases z with z | z; exact Or.inr (Or.inr (Or.inr z)); exact Or.inr (Or.inr (Or.inl z))).trans (f3.sub fun a k z => Or.inr (Or.inl z))
  have s3 : h3.2.1 166 41 = 0 := (f3.2.2 166 41 (by omega)).trans s2
  generalize hP : (fun s => thB W s nt && laB D mo (fun l => decide (whz (stg (W t) q p (nI fr) (nI l)) s = p)) 6) = P
  refine w_sq.mpr ?_
  refine w_sqI (E' := [.ref 166, .int (nI f), .int (nI fr), .int (nI t), .int q, .int p, .int mo, .int (nI 0), junk, junk]) (nI 0) (by simp only [f_mkF, w_sI, w_sR, w_sL, w_sC, w_sk, w_sbr, w_sco, w_rV, w_rI, w_rR, w_rL, w_dI, w_sO, w_sq, w_si, w_pI, w_pZ, w_pR, w_pU, w_qI, w_qB, w_qZ, w_qU, w_qR, w_kV, q_icst, q_lcst, q_xR, q_ldI, q_ldR, q_ldL, q_bn, q_un, q_dv, q_fI, q_fR, q_aI, q_aR, q_aN, q_tn, q_cmp, q_cmz, q_cnt, q_ctt, q_cand, q_cor, q_vn, q_vI, q_vR, q_vL, q_kI, q_kR, q_kL, q_ckI, envN, argE, List.flatMap_cons, List.flatMap_nil, Value.category, junk, oadd, osub, omul, oand, oor, oxor, odiv, orem, oshl, oshr, oushr, omax, omin]; simp [nI_0]) rfl ?_
  refine wp_mono (w_lp (Q := fun o v _ h' => Fr (SSp t (W_n (W t))) h h' ∧ ((o = 2 ∧ ∃ r, v = .int r ∧ LSp P r) ∨ (o = 0 ∧ ∀ s, s < 64 → P s = false))) (fun k E h' => ∃ n v8 v9, k = 7 - n ∧ n ≤ 7 ∧ E = [.ref 166, .int (nI f), .int (nI fr), .int (nI t), .int q, .int p, .int mo, .int (nI n), v8, v9] ∧ (v8.category = 1 ∧ v9.category = 1) ∧ Fr (SSt t (W_n (W t))) h3 h' ∧ ∀ s, s < 64 → pc s < n → P s = false) ?_ 7 _ _ ⟨0, junk, junk, rfl, by omega, rfl, ⟨rfl, rfl⟩, Fr.refl h3, fun s _ z => by omega⟩) ?_
  · rintro k E h' ⟨n, v8, v9, rfl, hn7', rfl, ⟨c8, c9⟩, g, hx⟩
    by_cases hn7 : n < 7
    · refine ev_T ?_ ⟨fun z => (by cases z), fun _ => ?_⟩
      · simp only [f_mkF, w_sI, w_sR, w_sL, w_sC, w_sk, w_sbr, w_sco, w_rV, w_rI, w_rR, w_rL, w_dI, w_sO, w_sq, w_si, w_pI, w_pZ, w_pR, w_pU, w_qI, w_qB, w_qZ, w_qU, w_qR, w_kV, q_icst, q_lcst, q_xR, q_ldI, q_ldR, q_ldL, q_bn, q_un, q_dv, q_fI, q_fR, q_aI, q_aR, q_aN, q_tn, q_cmp, q_cmz, q_cnt, q_ctt, q_cand, q_cor, q_vn, q_vI, q_vR, q_vL, q_kI, q_kR, q_kL, q_ckI, envN, argE, List.flatMap_cons, List.flatMap_nil, Value.category, junk, oadd, osub, omul, oand, oor, oxor, odiv, orem, oshl, oshr, oushr, omax, omin]
        simp (disch := first | omega | simp) [rk_i, rk_b, rk_o, st1, kill, Value.category, rcv, nog, inI_b, nI_clamp, nI_ltI, nI_leI, nI_eq, nI_9, nI_6, nI_22, nI_12, nI_180, nI_add, nI_1, k6]
        omega
      refine w_sqI (E' := [.ref 166, .int (nI f), .int (nI fr), .int (nI t), .int q, .int p, .int mo, .int (nI n), .int (nI 0), v9]) (nI 0) (by simp only [f_mkF, w_sI, w_sR, w_sL, w_sC, w_sk, w_sbr, w_sco, w_rV, w_rI, w_rR, w_rL, w_dI, w_sO, w_sq, w_si, w_pI, w_pZ, w_pR, w_pU, w_qI, w_qB, w_qZ, w_qU, w_qR, w_kV, q_icst, q_lcst, q_xR, q_ldI, q_ldR, q_ldL, q_bn, q_un, q_dv, q_fI, q_fR, q_aI, q_aR, q_aN, q_tn, q_cmp, q_cmz, q_cnt, q_ctt, q_cand, q_cor, q_vn, q_vI, q_vR, q_vL, q_kI, q_kR, q_kL, q_ckI, envN, argE, List.flatMap_cons, List.flatMap_nil, Value.category, junk, oadd, osub, omul, oand, oor, oxor, odiv, orem, oshl, oshr, oushr, omax, omin]; simp [nI_0]) (by simp [st1, kill, Value.category]) ?_
      refine wp_mono (w_lp (Q := fun o v E1 h2 => Fr (SSt t (W_n (W t))) h3 h2 ∧ ((o = 2 ∧ ∃ r, v = .int r ∧ LSp P r) ∨ (o = 0 ∧ (∃ v8 v9, E1 = [.ref 166, .int (nI f), .int (nI fr), .int (nI t), .int q, .int p, .int mo, .int (nI n), v8, v9] ∧ v8.category = 1 ∧ v9.category = 1) ∧ ∀ s, s < 64 → pc s < n + 1 → P s = false))) (fun k E h2 => ∃ s v9, k = 64 - s ∧ s ≤ 64 ∧ E = [.ref 166, .int (nI f), .int (nI fr), .int (nI t), .int q, .int p, .int mo, .int (nI n), .int (nI s), v9] ∧ v9.category = 1 ∧ Fr (SSt t (W_n (W t))) h3 h2 ∧ ∀ s', s' < s → pc s' = n → P s' = false) ?_ 64 _ _ ⟨0, v9, rfl, by omega, rfl, c9, g, fun s' z => by omega⟩) ?_
      · rintro k E h4 ⟨s, v9, rfl, hs, rfl, c9, g4, hx2⟩
        by_cases hs6 : s < 64
        · refine ev_T ?_ ⟨fun z => (by cases z), fun _ => ?_⟩
          · simp only [f_mkF, w_sI, w_sR, w_sL, w_sC, w_sk, w_sbr, w_sco, w_rV, w_rI, w_rR, w_rL, w_dI, w_sO, w_sq, w_si, w_pI, w_pZ, w_pR, w_pU, w_qI, w_qB, w_qZ, w_qU, w_qR, w_kV, q_icst, q_lcst, q_xR, q_ldI, q_ldR, q_ldL, q_bn, q_un, q_dv, q_fI, q_fR, q_aI, q_aR, q_aN, q_tn, q_cmp, q_cmz, q_cnt, q_ctt, q_cand, q_cor, q_vn, q_vI, q_vR, q_vL, q_kI, q_kR, q_kL, q_ckI, envN, argE, List.flatMap_cons, List.flatMap_nil, Value.category, junk, oadd, osub, omul, oand, oor, oxor, odiv, orem, oshl, oshr, oushr, omax, omin]
            simp (disch := first | omega | simp) [rk_i, rk_b, rk_o, st1, kill, Value.category, rcv, nog, inI_b, nI_clamp, nI_ltI, nI_leI, nI_eq, nI_9, nI_6, nI_22, nI_12, nI_180, nI_add, nI_1, k64, hs6]
          have eb := m_bits hs6 h4
          have hpc := pc_le s hs6
          have hgo : ∀ h5 v9, v9.category = 1 → Fr (SSt t (W_n (W t))) h3 h5 → (pc s = n → P s = false) → wp (sC 8 1) [.ref 166, .int (nI f), .int (nI fr), .int (nI t), .int q, .int p, .int mo, .int (nI n), .int (nI s), v9] h5 fun o2 _ E2 h6 => o2 = 0 ∧ ∃ k2, k2 < 64 - s ∧ ∃ s v9, k2 = 64 - s ∧ s ≤ 64 ∧ E2 = [.ref 166, .int (nI f), .int (nI fr), .int (nI t), .int q, .int p, .int mo, .int (nI n), .int (nI s), v9] ∧ v9.category = 1 ∧ Fr (SSt t (W_n (W t))) h3 h6 ∧ ∀ s', s' < s → pc s' = n → P s' = false := fun h5 v9 c9 g5 hz => w_sCe (nI s) (nI (s + 1)) rfl (nI_1 _) (by simp [st1, kill, Value.category]) ⟨rfl, 64 - (s + 1), by omega, s + 1, v9, rfl, by omega, rfl, c9, g5, fun s' z1 z2 => by
            by_cases e : s' = s
            · subst e; exact hz z2
            · exact hx2 s' (by omega) z2⟩
          by_cases c : pc s = n
          · refine w_sq.mpr ((w_siF ?_).mpr (w_sk2.mpr ?_))
            · simp only [f_mkF, w_sI, w_sR, w_sL, w_sC, w_sk, w_sbr, w_sco, w_rV, w_rI, w_rR, w_rL, w_dI, w_sO, w_sq, w_si, w_pI, w_pZ, w_pR, w_pU, w_qI, w_qB, w_qZ, w_qU, w_qR, w_kV, q_icst, q_lcst, q_xR, q_ldI, q_ldR, q_ldL, q_bn, q_un, q_dv, q_fI, q_fR, q_aI, q_aR, q_aN, q_tn, q_cmp, q_cmz, q_cnt, q_ctt, q_cand, q_cor, q_vn, q_vI, q_vR, q_vL, q_kI, q_kR, q_kL, q_ckI, envN, argE, List.flatMap_cons, List.flatMap_nil, Value.category, junk, oadd, osub, omul, oand, oor, oxor, odiv, orem, oshl, oshr, oushr, omax, omin]
              simp (disch := first | omega | simp) [rk_i, rk_b, rk_o, st1, kill, Value.category, rcv, nog, inI_b, nI_clamp, nI_ltI, nI_leI, nI_eq, nI_9, nI_6, nI_22, nI_12, nI_180, nI_add, nI_1, fq_of eb, c]
            have ip4 := g4.ip (bs3.1 t htn).1.1
            have hn4 := ip4.1
            refine w_fz fun B hB Cc hCc => ?_
            simp only [f_mkF, w_sI, w_sR, w_sL, w_sC, w_sk, w_sbr, w_sco, w_rV, w_rI, w_rR, w_rL, w_dI, w_sO, w_sq, w_si, w_pI, w_pZ, w_pR, w_pU, w_qI, w_qB, w_qZ, w_qU, w_qR, w_kV, q_icst, q_lcst, q_xR, q_ldI, q_ldR, q_ldL, q_bn, q_un, q_dv, q_fI, q_fR, q_aI, q_aR, q_aN, q_tn, q_cmp, q_cmz, q_cnt, q_ctt, q_cand, q_cor, q_vn, q_vI, q_vR, q_vL, q_kI, q_kR, q_kL, q_ckI, envN, argE, List.flatMap_cons, List.flatMap_nil, Value.category, junk, oadd, osub, omul, oand, oor, oxor, odiv, orem, oshl, oshr, oushr, omax, omin]
            simp (disch := first | omega | simp) [rk_i, rk_b, rk_o, st1, kill, Value.category, rcv, nog, inI_b, nI_clamp, nI_ltI, nI_leI, nI_eq, nI_9, nI_6, nI_22, nI_12, nI_180, nI_add, nI_1, hn4, ly166]
            subst hB hCc
            have g5 : Fr (SSt t (W_n (W t))) h3 (wI h4 166 41 (nI s)) := g4.w (Or.inr ⟨rfl, rfl⟩)
            have s5 : (wI h4 166 41 (nI s)).2.1 166 41 = nI s := by simp [wI_i]
            generalize wI h4 166 41 (nI s) = h5 at *
            have bs5 := bs3.fr hc2.2.2 g5
            have hn5 := (bs5.1 t htn).1.1.1
            refine w_sqS (fun E1 h6 => E1 = [.ref 166, .int (nI f), .int (nI fr), .int (nI t), .int q, .int p, .int mo, .int (nI n), .int (nI s), .int (b2 (P s = true))] ∧ Fr (SSt t (W_n (W t))) h3 h6) ?_ ?_
            · rw [w_sI]
              refine q_kIe [.ref 166, .int (nI f), .int (nI fr), .int (nI t), .int q, .int p, .int mo] (by simp only [f_mkF, w_sI, w_sR, w_sL, w_sC, w_sk, w_sbr, w_sco, w_rV, w_rI, w_rR, w_rL, w_dI, w_sO, w_sq, w_si, w_pI, w_pZ, w_pR, w_pU, w_qI, w_qB, w_qZ, w_qU, w_qR, w_kV, q_icst, q_lcst, q_xR, q_ldI, q_ldR, q_ldL, q_bn, q_un, q_dv, q_fI, q_fR, q_aI, q_aR, q_aN, q_tn, q_cmp, q_cmz, q_cnt, q_ctt, q_cand, q_cor, q_vn, q_vI, q_vR, q_vL, q_kI, q_kR, q_kL, q_ckI, envN, argE, List.flatMap_cons, List.flatMap_nil, Value.category, junk, oadd, osub, omul, oand, oor, oxor, odiv, orem, oshl, oshr, oushr, omax, omin]; simp) (by simp [rcv, hn5, ly166]) ?_
              refine fq_mono (m_isStop bs5 hc2.2.2 s5 hs6 hst) ?_
              rintro r h6 ⟨rfl, f6⟩
              refine ⟨_, rfl, rfl, ?_, g5.trans (f6.sub fun a k z => Or.inl z)⟩
              rw [← hP]
              simp [st1, kill, Value.category]
            rintro E1 h6 ⟨rfl, g6⟩
            have hn6 : h6.1 = 212 := g6.1.trans (bs3.1 t htn).1.1.1
            refine w_fz fun B hB Cc hCc => ?_
            simp only [f_mkF, w_sI, w_sR, w_sL, w_sC, w_sk, w_sbr, w_sco, w_rV, w_rI, w_rR, w_rL, w_dI, w_sO, w_sq, w_si, w_pI, w_pZ, w_pR, w_pU, w_qI, w_qB, w_qZ, w_qU, w_qR, w_kV, q_icst, q_lcst, q_xR, q_ldI, q_ldR, q_ldL, q_bn, q_un, q_dv, q_fI, q_fR, q_aI, q_aR, q_aN, q_tn, q_cmp, q_cmz, q_cnt, q_ctt, q_cand, q_cor, q_vn, q_vI, q_vR, q_vL, q_kI, q_kR, q_kL, q_ckI, envN, argE, List.flatMap_cons, List.flatMap_nil, Value.category, junk, oadd, osub, omul, oand, oor, oxor, odiv, orem, oshl, oshr, oushr, omax, omin]
            simp (disch := first | omega | simp) [rk_i, rk_b, rk_o, st1, kill, Value.category, rcv, nog, inI_b, nI_clamp, nI_ltI, nI_leI, nI_eq, nI_9, nI_6, nI_22, nI_12, nI_180, nI_add, nI_1, hn6, ly166]
            subst hB hCc
            have g7 : Fr (SSt t (W_n (W t))) h3 (wI h6 166 41 0) := g6.w (Or.inr ⟨rfl, rfl⟩)
            generalize wI h6 166 41 0 = h7 at *
            cases hPs : P s with
            | true =>
              refine (w_siT ?_).mpr ?_
              · simp only [f_mkF, w_sI, w_sR, w_sL, w_sC, w_sk, w_sbr, w_sco, w_rV, w_rI, w_rR, w_rL, w_dI, w_sO, w_sq, w_si, w_pI, w_pZ, w_pR, w_pU, w_qI, w_qB, w_qZ, w_qU, w_qR, w_kV, q_icst, q_lcst, q_xR, q_ldI, q_ldR, q_ldL, q_bn, q_un, q_dv, q_fI, q_fR, q_aI, q_aR, q_aN, q_tn, q_cmp, q_cmz, q_cnt, q_ctt, q_cand, q_cor, q_vn, q_vI, q_vR, q_vL, q_kI, q_kR, q_kL, q_ckI, envN, argE, List.flatMap_cons, List.flatMap_nil, Value.category, junk, oadd, osub, omul, oand, oor, oxor, odiv, orem, oshl, oshr, oushr, omax, omin]; simp [b2]
              · rw [w_rI, q_ldI]
                refine ⟨_, rfl, (fun z => by rcases z with z | z <;> cases z), (fun z => by cases z), fun _ _ _ => ⟨g7, Or.inl ⟨rfl, _, rfl, Or.inr ⟨s, hs6, rfl, hPs, fun s' z1 z2 => ?_⟩⟩⟩⟩
                by_cases e1 : pc s' < n
                · rw [hx s' z1 e1] at z2; cases z2
                · by_cases e2 : pc s' = n
                  · by_cases e3 : s' < s
                    · rw [hx2 s' e3 e2] at z2; cases z2
                    · exact Or.inr ⟨by omega, by omega⟩
                  · exact Or.inl (by omega)
            | false =>
              refine (w_siF ?_).mpr (w_sk.mpr ⟨fun _ => hgo h7 _ rfl g7 fun _ => hPs, (fun z => by cases z), fun z => absurd rfl z⟩)
              simp only [f_mkF, w_sI, w_sR, w_sL, w_sC, w_sk, w_sbr, w_sco, w_rV, w_rI, w_rR, w_rL, w_dI, w_sO, w_sq, w_si, w_pI, w_pZ, w_pR, w_pU, w_qI, w_qB, w_qZ, w_qU, w_qR, w_kV, q_icst, q_lcst, q_xR, q_ldI, q_ldR, q_ldL, q_bn, q_un, q_dv, q_fI, q_fR, q_aI, q_aR, q_aN, q_tn, q_cmp, q_cmz, q_cnt, q_ctt, q_cand, q_cor, q_vn, q_vI, q_vR, q_vL, q_kI, q_kR, q_kL, q_ckI, envN, argE, List.flatMap_cons, List.flatMap_nil, Value.category, junk, oadd, osub, omul, oand, oor, oxor, odiv, orem, oshl, oshr, oushr, omax, omin]; simp [b2]
          · refine w_sq.mpr ((w_siT ?_).mpr ?_)
            · simp only [f_mkF, w_sI, w_sR, w_sL, w_sC, w_sk, w_sbr, w_sco, w_rV, w_rI, w_rR, w_rL, w_dI, w_sO, w_sq, w_si, w_pI, w_pZ, w_pR, w_pU, w_qI, w_qB, w_qZ, w_qU, w_qR, w_kV, q_icst, q_lcst, q_xR, q_ldI, q_ldR, q_ldL, q_bn, q_un, q_dv, q_fI, q_fR, q_aI, q_aR, q_aN, q_tn, q_cmp, q_cmz, q_cnt, q_ctt, q_cand, q_cor, q_vn, q_vI, q_vR, q_vL, q_kI, q_kR, q_kL, q_ckI, envN, argE, List.flatMap_cons, List.flatMap_nil, Value.category, junk, oadd, osub, omul, oand, oor, oxor, odiv, orem, oshl, oshr, oushr, omax, omin]
              simp (disch := first | omega | simp) [rk_i, rk_b, rk_o, st1, kill, Value.category, rcv, nog, inI_b, nI_clamp, nI_ltI, nI_leI, nI_eq, nI_9, nI_6, nI_22, nI_12, nI_180, nI_add, nI_1, fq_of eb, c]
            · rw [w_sco]
              exact ⟨(fun z => by cases z), fun _ => ⟨fun _ => hgo h4 v9 c9 g4 fun z => absurd z c, (fun z => by cases z), fun _ z => absurd rfl z⟩⟩
        · have : s = 64 := by omega
          subst this
          refine ev_F ?_ ⟨fun _ => ⟨g4, Or.inr ⟨rfl, ⟨_, _, rfl, rfl, c9⟩, fun s z1 z2 => ?_⟩⟩, fun z => (by cases z)⟩
          · simp only [f_mkF, w_sI, w_sR, w_sL, w_sC, w_sk, w_sbr, w_sco, w_rV, w_rI, w_rR, w_rL, w_dI, w_sO, w_sq, w_si, w_pI, w_pZ, w_pR, w_pU, w_qI, w_qB, w_qZ, w_qU, w_qR, w_kV, q_icst, q_lcst, q_xR, q_ldI, q_ldR, q_ldL, q_bn, q_un, q_dv, q_fI, q_fR, q_aI, q_aR, q_aN, q_tn, q_cmp, q_cmz, q_cnt, q_ctt, q_cand, q_cor, q_vn, q_vI, q_vR, q_vL, q_kI, q_kR, q_kL, q_ckI, envN, argE, List.flatMap_cons, List.flatMap_nil, Value.category, junk, oadd, osub, omul, oand, oor, oxor, odiv, orem, oshl, oshr, oushr, omax, omin]
            simp (disch := first | omega | simp) [rk_i, rk_b, rk_o, st1, kill, Value.category, rcv, nog, inI_b, nI_clamp, nI_ltI, nI_leI, nI_eq, nI_9, nI_6, nI_22, nI_12, nI_180, nI_add, nI_1, k64]
          · by_cases e : pc s < n
            · exact hx s z1 e
            · exact hx2 s z1 (by omega)
      · rintro o v E1 h4 ⟨g4, ⟨rfl, r, rfl, hr⟩ | ⟨rfl, ⟨v8, v9, rfl, c8, c9⟩, hx3⟩⟩
        · exact ⟨(fun z => by rcases z with z | z <;> cases z), (fun z => by cases z), fun _ _ _ => ⟨fr3.trans (g4.sub fun a k z => Or.inl z), Or.inl ⟨rfl, r, rfl, hr⟩⟩⟩
        · refine ⟨fun _ => ?_, (fun z => by cases z), fun z => absurd rfl z⟩
          refine w_sCe (nI n) (nI (n + 1)) rfl (nI_1 _) (by simp [st1, kill, Value.category]) ⟨rfl, 7 - (n + 1), by omega, n + 1, v8, v9, rfl, by omega, rfl, ⟨c8, c9⟩, g4, hx3⟩
    · have : n = 7 := by omega
      subst this
      refine ev_F ?_ ⟨fun _ => ⟨fr3.trans (g.sub fun a k z => Or.inl z), Or.inr ⟨rfl, fun s hs => hx s hs (by have := pc_le s hs; omega)⟩⟩, fun z => (by cases z)⟩
      simp only [f_mkF, w_sI, w_sR, w_sL, w_sC, w_sk, w_sbr, w_sco, w_rV, w_rI, w_rR, w_rL, w_dI, w_sO, w_sq, w_si, w_pI, w_pZ, w_pR, w_pU, w_qI, w_qB, w_qZ, w_qU, w_qR, w_kV, q_icst, q_lcst, q_xR, q_ldI, q_ldR, q_ldL, q_bn, q_un, q_dv, q_fI, q_fR, q_aI, q_aR, q_aN, q_tn, q_cmp, q_cmz, q_cnt, q_ctt, q_cand, q_cor, q_vn, q_vI, q_vR, q_vL, q_kI, q_kR, q_kL, q_ckI, envN, argE, List.flatMap_cons, List.flatMap_nil, Value.category, junk, oadd, osub, omul, oand, oor, oxor, odiv, orem, oshl, oshr, oushr, omax, omin]
      simp (disch := first | omega | simp) [rk_i, rk_b, rk_o, st1, kill, Value.category, rcv, nog, inI_b, nI_clamp, nI_ltI, nI_leI, nI_eq, nI_9, nI_6, nI_22, nI_12, nI_180, nI_add, nI_1, k6]
  · rintro o v E1 h4 ⟨g4, ⟨rfl, r, rfl, hr⟩ | ⟨rfl, hx⟩⟩
    · exact ⟨(fun z => by cases z), fun _ => Or.inr ⟨rfl, rfl, ⟨r, rfl, hr⟩, g4⟩⟩
    · refine ⟨fun _ => ?_, fun z => absurd rfl z⟩
      rw [w_rI, q_icst]
      exact Or.inr ⟨rfl, rfl, ⟨-2, rfl, Or.inl ⟨rfl, hx⟩⟩, g4⟩
