/-! hangs: the reference -/
def HAN (w : Wd) (x : Int32) : Prop := ∀ i, i < 32 → (bI x i = true ↔ i < W_n w ∧ HG w i)
theorem HAN_eq {w : Wd} {x y : Int32} (a : HAN w x) (b : HAN w y) : x = y := by
  refine bI_ext fun s hs => ?_
  have h := (a s hs).trans (b s hs).symm
  cases h1 : bI x s <;> cases h2 : bI y s <;> simp [h1, h2] at h ⊢
/-- digits of a number whose digit at u is taken away -/
theorem dig_low {c u v : Nat} : (c - c / 3 ^ u % 3 * 3 ^ u) / 3 ^ v % 3 = if v = u then 0 else c / 3 ^ v % 3 := by
  have hp : ∀ u, 0 < 3 ^ u := fun u => Nat.pow_pos (by omega)
  have e1 : c = (c / 3 ^ u / 3) * (3 * 3 ^ u) + c / 3 ^ u % 3 * 3 ^ u + c % 3 ^ u := by
    have a1 := Nat.div_add_mod c (3 ^ u)
    have a2 := Nat.div_add_mod (c / 3 ^ u) 3
    have a3 : c / 3 ^ u * 3 ^ u = (3 * (c / 3 ^ u / 3) + c / 3 ^ u % 3) * 3 ^ u := by rw [a2]
    rw [Nat.add_mul] at a3
    have a4 : 3 * (c / 3 ^ u / 3) * 3 ^ u = c / 3 ^ u / 3 * (3 * 3 ^ u) := by
      rw [Nat.mul_comm 3, Nat.mul_assoc]
    rw [Nat.mul_comm] at a1
    omega
  generalize hq : c / 3 ^ u / 3 = q at *
  generalize hd : c / 3 ^ u % 3 = d at *
  have hr : c % 3 ^ u < 3 ^ u := Nat.mod_lt _ (hp u)
  generalize c % 3 ^ u = r at *
  have e2 : c - d * 3 ^ u = q * (3 * 3 ^ u) + r := by omega
  rw [e2]
  have hd3 : d < 3 := by rw [← hd]; exact Nat.mod_lt _ (by omega)
  by_cases h : v = u
  · rw [if_pos h, h]
    rw [← Nat.mul_assoc, Nat.add_comm, Nat.add_mul_div_right _ _ (hp u), Nat.div_eq_of_lt hr]
    omega
  · rw [if_neg h]
    rcases Nat.lt_or_gt_of_ne h with hlt | hgt
    · have hpw : 3 ^ u = 3 ^ (u - v - 1) * 3 * 3 ^ v := by
        rw [← Nat.pow_succ, ← Nat.pow_add]
        congr 1
        omega
      have f1 : q * (3 * 3 ^ u) = (q * 3 * 3 ^ (u - v - 1) * 3) * 3 ^ v := by
        rw [hpw]
        simp only [Nat.mul_assoc]
      have f2 : d * 3 ^ u = (d * 3 ^ (u - v - 1) * 3) * 3 ^ v := by
        rw [hpw]
        simp only [Nat.mul_assoc]
      rw [e1, f1, f2, Nat.add_comm, Nat.add_mul_div_right _ _ (hp v), Nat.add_mul_mod_self_right]
      rw [Nat.add_comm _ r, Nat.add_comm _ (d * 3 ^ (u - v - 1) * 3 * 3 ^ v), ← Nat.add_assoc, Nat.add_mul_div_right _ _ (hp v), Nat.add_mul_mod_self_right, Nat.add_mul_div_right _ _ (hp v), Nat.add_mul_mod_self_right]
    · have hpw : 3 ^ v = 3 * 3 ^ u * 3 ^ (v - u - 1) := by
        rw [Nat.mul_comm 3, ← Nat.pow_succ, ← Nat.pow_add]
        congr 1
        omega
      have g : ∀ x, x / (3 * 3 ^ u * 3 ^ (v - u - 1)) = x / (3 * 3 ^ u) / 3 ^ (v - u - 1) := fun x => (Nat.div_div_eq_div_mul x (3 * 3 ^ u) _).symm
      rw [hpw, g, g]
      have hb : r < 3 * 3 ^ u := by omega
      have hb2 : d * 3 ^ u + r < 3 * 3 ^ u := by
        have : d * 3 ^ u ≤ 2 * 3 ^ u := Nat.mul_le_mul_right _ (by omega)
        omega
      have p3 : 0 < 3 * 3 ^ u := by have := hp u; omega
      rw [e1, Nat.add_comm _ r, Nat.add_mul_div_right _ _ p3, Nat.div_eq_of_lt hb, Nat.add_assoc, Nat.add_comm (q * (3 * 3 ^ u)), Nat.add_mul_div_right _ _ p3, Nat.div_eq_of_lt hb2]
theorem lowc_le (w : Wd) (c i : Nat) : lowc w c i ≤ c := Nat.sub_le _ _
theorem mdc_low {w : Wd} {c i j : Nat} (hi : unq w i = true) : mdc w (lowc w c i) j = setm (mdc w c) i (W_R w i 6) j := by
  unfold mdc lowc
  rw [dig_low]
  by_cases e : j = i
  · subst e
    rw [setm_e, if_pos hi, if_pos rfl, nI_0]
    simp
  · rw [setm_n e]
    by_cases c2 : unq w j = true
    · rw [if_pos c2, if_neg (fun z => e (uns_inj w c2 hi z)), if_pos c2]
    · rw [if_neg c2, if_neg c2]
theorem HG_c {w : Wd} (hw : WV w) {i : Nat} (hi : i < W_n w) : HG w i ↔ unq w i = true ∧ ∃ c, c < 3 ^ uns (W_R w) (W_n w) ∧ cok w c ∧ stt w 0 (mdc w c) (W_n w) ≠ stt w 0 (mdc w (lowc w c i)) (W_n w) := by
  rw [HG_low]
  constructor
  · rintro ⟨md, h1, h2⟩
    have hu : unq w i = true := by
      refine Classical.byContradiction fun c => h2 ?_
      obtain ⟨l, k, e1, e2, e3, e4, e5⟩ := hw.mi hi
      have h := h1 i hi
      have hlk : ¬ l < k := fun z => c (e5.mpr z)
      rw [e1, e2, nI_toInt (by omega), nI_toInt (by omega)] at h
      refine stt_c fun j hj => ?_
      by_cases e : j = i
      · subst e
        rw [setm_e]
        apply Int32.toInt_inj.mp
        rw [e1, nI_toInt (by omega)]
        omega
      · rw [setm_n e]
    have e : ∀ j, j < W_n w → mdc w (enc w md (W_n w)) j = md j := fun j hj => mdc_enc hw h1 hj
    refine ⟨hu, enc w md (W_n w), (enc_ok hw h1 _ (Nat.le_refl _)).1, fun j hj => by rw [e j hj]; exact h1 j hj, ?_⟩
    rw [stt_c (md' := md) e, stt_c (md := mdc w (lowc w (enc w md (W_n w)) i)) (md' := setm md i (W_R w i 6)) fun j hj => ?_]
    · exact h2
    · rw [mdc_low hu]
      by_cases z : j = i
      · subst z; rw [setm_e, setm_e]
      · rw [setm_n z, setm_n z]; exact e j hj
  · rintro ⟨hu, c, -, h2, h3⟩
    refine ⟨mdc w c, h2, ?_⟩
    rw [stt_c (md := mdc w (lowc w c i)) (md' := setm (mdc w c) i (W_R w i 6)) fun j _ => mdc_low hu] at h3
    exact h3
theorem cok_low {w : Wd} {c i : Nat} (hi : unq w i = true) (h : cok w c) : cok w (lowc w c i) := by
  intro j hj
  rw [mdc_low hi]
  have := h j hj
  by_cases e : j = i
  · subst e; rw [setm_e]; omega
  · rw [setm_n e]; exact this
theorem m_hangL {w : Wd} {t : Nat} {h : Hp} (m : MX w t h) (hU8 : uns (W_R w) (W_n w) ≤ 8) (ty : TRY w h) : wp (sq (sI 3 (icst 0)) (sq (sq (sI 4 (icst 0)) (lp (cnt (cmp oge (ldI 4) (fI 11 52 (ldR 0)))) (sq (sI 5 (icst 0)) (lp (cnt (cmp oge (ldI 5) (aI 13 (fR 11 54 (ldR 0)) (fI 11 52 (ldR 0))))) (sq (sI 6 (dv orem (dv odiv (ldI 5) (aI 13 (fR 11 54 (ldR 0)) (ldI 4))) (icst 3))) (sq (sI 7 (bn osub (ldI 5) (bn omul (ldI 6) (aI 13 (fR 11 54 (ldR 0)) (ldI 4))))) (si (cand (cnt (cmp oeq (aI 13 (fR 11 55 (ldR 0)) (ldI 5)) (icst (-1)))) (cnt (cmp oeq (aI 13 (fR 11 55 (ldR 0)) (ldI 5)) (aI 13 (fR 11 55 (ldR 0)) (ldI 7))))) (sI 3 (bn oor (ldI 3) (bn oshl (icst 1) (aI 13 (fR 11 53 (ldR 0)) (ldI 4))))) sk))) (sC 5 1))) (sC 4 1))) (rI (ldI 3)))) [.ref 166, .int (nI (W_f w)), .int (nI t), junk, junk, junk, junk, junk] h fun o v _ h' => o = 2 ∧ h' = h ∧ ∃ x, v = .int x ∧ HAN w x := by
  have hn := m.1.1
  have hm := m.1.2.2
  have hW := m.wv
  have n20 := hW.1
  obtain ⟨t1, t2, t3, t4⟩ := ty
  have pl := pow_le hU8
  have hgc := fun i hi => HG_c hW (i := i) hi
  have uEx := fun u hu => uns_ex w (n := W_n w) (u := u) hu
  have uLt : ∀ i, i < W_n w → unq w i = true → uns (W_R w) i < uns (W_R w) (W_n w) := fun i hi q => uns_lt w q hi
  generalize uns (W_R w) (W_n w) = U at *
  have U9 : U < 9 := by omega
  refine w_sqI (E' := [.ref 166, .int (nI (W_f w)), .int (nI t), .int 0, junk, junk, junk, junk]) 0 (by simp only [f_mkF, w_sI, w_sR, w_sL, w_sC, w_sk, w_sbr, w_sco, w_rV, w_rI, w_rR, w_rL, w_dI, w_sO, w_sq, w_si, w_pI, w_pZ, w_pR, w_pU, w_qI, w_qB, w_qZ, w_qU, w_qR, w_kV, q_icst, q_lcst, q_xR, q_ldI, q_ldR, q_ldL, q_bn, q_un, q_dv, q_fI, q_fR, q_aI, q_aR, q_aN, q_tn, q_cmp, q_cmz, q_cnt, q_ctt, q_cand, q_cor, q_vn, q_vI, q_vR, q_vL, q_kI, q_kR, q_kL, q_ckI, envN, argE, List.flatMap_cons, List.flatMap_nil, Value.category, junk, oadd, osub, omul, oand, oor, oxor, odiv, orem, oshl, oshr, oushr, omax, omin]; simp) rfl ?_
  refine w_sq.mpr ?_
  refine w_sqI (E' := [.ref 166, .int (nI (W_f w)), .int (nI t), .int 0, .int (nI 0), junk, junk, junk]) (nI 0) (by simp only [f_mkF, w_sI, w_sR, w_sL, w_sC, w_sk, w_sbr, w_sco, w_rV, w_rI, w_rR, w_rL, w_dI, w_sO, w_sq, w_si, w_pI, w_pZ, w_pR, w_pU, w_qI, w_qB, w_qZ, w_qU, w_qR, w_kV, q_icst, q_lcst, q_xR, q_ldI, q_ldR, q_ldL, q_bn, q_un, q_dv, q_fI, q_fR, q_aI, q_aR, q_aN, q_tn, q_cmp, q_cmz, q_cnt, q_ctt, q_cand, q_cor, q_vn, q_vI, q_vR, q_vL, q_kI, q_kR, q_kL, q_ckI, envN, argE, List.flatMap_cons, List.flatMap_nil, Value.category, junk, oadd, osub, omul, oand, oor, oxor, odiv, orem, oshl, oshr, oushr, omax, omin]; simp [nI_0]) rfl ?_
  refine wp_mono (w_lp (Q := fun o _ E1 h' => o = 0 ∧ h' = h ∧ ∃ x, E1[3]? = some (.int x) ∧ HAN w x) (fun k E h' => h' = h ∧ ∃ u x v5 v6 v7, k = U - u ∧ u ≤ U ∧ E = [.ref 166, .int (nI (W_f w)), .int (nI t), .int x, .int (nI u), v5, v6, v7] ∧ (v5.category = 1 ∧ v6.category = 1 ∧ v7.category = 1) ∧ ∀ p, p < 32 → (bI x p = true ↔ p < W_n w ∧ unq w p = true ∧ uns (W_R w) p < u ∧ HG w p)) ?_ U _ _ ⟨rfl, 0, 0, junk, junk, junk, rfl, Nat.zero_le _, rfl, ⟨rfl, rfl, rfl⟩, fun p hp => by rw [bI_0]; constructor; (intro z; cases z); (rintro ⟨-, -, z, -⟩; omega)⟩) ?_
  · rintro k E h' ⟨rfl, u, x, v5, v6, v7, rfl, hu, rfl, ⟨c5, c6, c7⟩, hx⟩
    by_cases huU : u < U
    · refine ev_T ?_ ⟨fun z => (by cases z), fun _ => ?_⟩
      · simp only [f_mkF, w_sI, w_sR, w_sL, w_sC, w_sk, w_sbr, w_sco, w_rV, w_rI, w_rR, w_rL, w_dI, w_sO, w_sq, w_si, w_pI, w_pZ, w_pR, w_pU, w_qI, w_qB, w_qZ, w_qU, w_qR, w_kV, q_icst, q_lcst, q_xR, q_ldI, q_ldR, q_ldL, q_bn, q_un, q_dv, q_fI, q_fR, q_aI, q_aR, q_aN, q_tn, q_cmp, q_cmz, q_cnt, q_ctt, q_cand, q_cor, q_vn, q_vI, q_vR, q_vL, q_kI, q_kR, q_kL, q_ckI, envN, argE, List.flatMap_cons, List.flatMap_nil, Value.category, junk, oadd, osub, omul, oand, oor, oxor, odiv, orem, oshl, oshr, oushr, omax, omin]
        simp (disch := first | omega | simp) [rk_i, rk_b, rk_o, st1, kill, Value.category, rcv, nog, inI_b, nI_clamp, nI_ltI, nI_leI, nI_eq, nI_9, nI_6, nI_22, nI_12, nI_180, nI_add, nI_1, hn, ly166, t1, huU]
      obtain ⟨i, i1, i2, i3⟩ := uEx u huU
      have hgi := hgc i i1
      have e204 := t2 i i1 i2
      rw [i3] at e204
      have e205 := t3 u (by omega)
      have u9 : u < 9 := by omega
      have u20 : u < 20 := by omega
      have pu := pow_le (show u ≤ 8 by omega)
      have pp : 0 < 3 ^ u := Nat.pow_pos (by omega)
      have nz : nI (3 ^ u) ≠ 0 := by rw [← nI_0, ne_eq, nI_eq (by omega) (by omega)]; omega
      refine w_sqI (E' := [.ref 166, .int (nI (W_f w)), .int (nI t), .int x, .int (nI u), .int (nI 0), v6, v7]) (nI 0) (by simp only [f_mkF, w_sI, w_sR, w_sL, w_sC, w_sk, w_sbr, w_sco, w_rV, w_rI, w_rR, w_rL, w_dI, w_sO, w_sq, w_si, w_pI, w_pZ, w_pR, w_pU, w_qI, w_qB, w_qZ, w_qU, w_qR, w_kV, q_icst, q_lcst, q_xR, q_ldI, q_ldR, q_ldL, q_bn, q_un, q_dv, q_fI, q_fR, q_aI, q_aR, q_aN, q_tn, q_cmp, q_cmz, q_cnt, q_ctt, q_cand, q_cor, q_vn, q_vI, q_vR, q_vL, q_kI, q_kR, q_kL, q_ckI, envN, argE, List.flatMap_cons, List.flatMap_nil, Value.category, junk, oadd, osub, omul, oand, oor, oxor, odiv, orem, oshl, oshr, oushr, omax, omin]; simp [nI_0]) (by simp [st1, kill, Value.category]) ?_
      refine wp_mono (w_lp (Q := fun o _ E1 h2 => o = 0 ∧ h2 = h' ∧ ∃ x v5 v6 v7, E1 = [.ref 166, .int (nI (W_f w)), .int (nI t), .int x, .int (nI u), v5, v6, v7] ∧ (v5.category = 1 ∧ v6.category = 1 ∧ v7.category = 1) ∧ ∀ p, p < 32 → (bI x p = true ↔ p < W_n w ∧ unq w p = true ∧ uns (W_R w) p < u + 1 ∧ HG w p)) (fun k E h2 => h2 = h' ∧ ∃ c x v6 v7, k = 3 ^ U - c ∧ c ≤ 3 ^ U ∧ E = [.ref 166, .int (nI (W_f w)), .int (nI t), .int x, .int (nI u), .int (nI c), v6, v7] ∧ (v6.category = 1 ∧ v7.category = 1) ∧ ∀ p, p < 32 → (bI x p = true ↔ (p < W_n w ∧ unq w p = true ∧ uns (W_R w) p < u ∧ HG w p) ∨ (p = i ∧ ∃ c', c' < c ∧ cok w c' ∧ stt w 0 (mdc w c') (W_n w) ≠ stt w 0 (mdc w (lowc w c' i)) (W_n w)))) ?_ (3 ^ U) _ _ ⟨rfl, 0, x, v6, v7, rfl, Nat.zero_le _, rfl, ⟨c6, c7⟩, fun p hp => by rw [hx p hp]; constructor; (intro z; exact Or.inl z); (rintro (z | ⟨-, c', z, -⟩); exact z; omega)⟩) ?_
      · rintro k E h2 ⟨rfl, c, x, v6, v7, rfl, hc, rfl, ⟨c6, c7⟩, hx⟩
        by_cases hcU : c < 3 ^ U
        · refine ev_T ?_ ⟨fun z => (by cases z), fun _ => ?_⟩
          · simp only [f_mkF, w_sI, w_sR, w_sL, w_sC, w_sk, w_sbr, w_sco, w_rV, w_rI, w_rR, w_rL, w_dI, w_sO, w_sq, w_si, w_pI, w_pZ, w_pR, w_pU, w_qI, w_qB, w_qZ, w_qU, w_qR, w_kV, q_icst, q_lcst, q_xR, q_ldI, q_ldR, q_ldL, q_bn, q_un, q_dv, q_fI, q_fR, q_aI, q_aR, q_aN, q_tn, q_cmp, q_cmz, q_cnt, q_ctt, q_cand, q_cor, q_vn, q_vI, q_vR, q_vL, q_kI, q_kR, q_kL, q_ckI, envN, argE, List.flatMap_cons, List.flatMap_nil, Value.category, junk, oadd, osub, omul, oand, oor, oxor, odiv, orem, oshl, oshr, oushr, omax, omin]
            simp (disch := first | omega | simp) [rk_i, rk_b, rk_o, st1, kill, Value.category, rcv, nog, inI_b, nI_clamp, nI_ltI, nI_leI, nI_eq, nI_9, nI_6, nI_22, nI_12, nI_180, nI_add, nI_1, hn, ly166, ly205, hm 54, mp, t1, U9, t3 U (Nat.le_refl _), hcU]
          have c65 : c < 6561 := by omega
          have ed : nI c / nI (3 ^ u) = nI (c / 3 ^ u) := nI_div (by omega) (by omega)
          have dl : c / 3 ^ u ≤ c := Nat.div_le_self _ _
          have er : orem (nI (c / 3 ^ u)) 3 = nI (c / 3 ^ u % 3) := nI_rem (by omega) (by omega : 3 < 2 ^ 31)
          have hlow : lowc w c i = c - c / 3 ^ u % 3 * 3 ^ u := by unfold lowc; rw [i3]
          have lle := lowc_le w c i
          have dle : c / 3 ^ u % 3 * 3 ^ u ≤ c := by
            have a1 := Nat.div_mul_le_self c (3 ^ u)
            have a2 : c / 3 ^ u % 3 * 3 ^ u ≤ c / 3 ^ u * 3 ^ u := Nat.mul_le_mul_right _ (Nat.mod_le _ _)
            omega
          refine w_sqI (E' := [.ref 166, .int (nI (W_f w)), .int (nI t), .int x, .int (nI u), .int (nI c), .int (nI (c / 3 ^ u % 3)), v7]) (nI (c / 3 ^ u % 3)) ?_ (by simp [st1, kill, Value.category]) ?_
          · rw [q_dv, q_dv]
            refine ev_mono (P := fun v h8 => v = nI c ∧ h8 = h2) (by simp only [f_mkF, w_sI, w_sR, w_sL, w_sC, w_sk, w_sbr, w_sco, w_rV, w_rI, w_rR, w_rL, w_dI, w_sO, w_sq, w_si, w_pI, w_pZ, w_pR, w_pU, w_qI, w_qB, w_qZ, w_qU, w_qR, w_kV, q_icst, q_lcst, q_xR, q_ldI, q_ldR, q_ldL, q_bn, q_un, q_dv, q_fI, q_fR, q_aI, q_aR, q_aN, q_tn, q_cmp, q_cmz, q_cnt, q_ctt, q_cand, q_cor, q_vn, q_vI, q_vR, q_vL, q_kI, q_kR, q_kL, q_ckI, envN, argE, List.flatMap_cons, List.flatMap_nil, Value.category, junk, oadd, osub, omul, oand, oor, oxor, odiv, orem, oshl, oshr, oushr, omax, omin]; simp [rk_i, rk_b, rk_o, st1, kill, Value.category, rcv, nog]) ?_
            rintro v h8 ⟨rfl, rfl⟩
            refine ev_mono (P := fun v h9 => v = nI (3 ^ u) ∧ h9 = h8) (by simp only [f_mkF, w_sI, w_sR, w_sL, w_sC, w_sk, w_sbr, w_sco, w_rV, w_rI, w_rR, w_rL, w_dI, w_sO, w_sq, w_si, w_pI, w_pZ, w_pR, w_pU, w_qI, w_qB, w_qZ, w_qU, w_qR, w_kV, q_icst, q_lcst, q_xR, q_ldI, q_ldR, q_ldL, q_bn, q_un, q_dv, q_fI, q_fR, q_aI, q_aR, q_aN, q_tn, q_cmp, q_cmz, q_cnt, q_ctt, q_cand, q_cor, q_vn, q_vI, q_vR, q_vL, q_kI, q_kR, q_kL, q_ckI, envN, argE, List.flatMap_cons, List.flatMap_nil, Value.category, junk, oadd, osub, omul, oand, oor, oxor, odiv, orem, oshl, oshr, oushr, omax, omin]; simp (disch := first | omega | simp) [rk_i, rk_b, rk_o, st1, kill, Value.category, rcv, nog, inI_b, nI_clamp, nI_ltI, nI_leI, nI_eq, nI_9, nI_6, nI_22, nI_12, nI_180, nI_add, nI_1, hn, ly166, ly205, hm 54, mp, u9, e205]) ?_
            rintro v h9 ⟨rfl, rfl⟩
            refine ⟨nz, ?_⟩
            rw [q_icst]
            refine ⟨by decide, ?_, rfl⟩
            show orem (nI c / nI (3 ^ u)) 3 = _
            rw [ed, er]
          refine w_sqI (E' := [.ref 166, .int (nI (W_f w)), .int (nI t), .int x, .int (nI u), .int (nI c), .int (nI (c / 3 ^ u % 3)), .int (nI (lowc w c i))]) (nI (lowc w c i)) ?_ (by simp [st1, kill, Value.category]) ?_
          · simp only [f_mkF, w_sI, w_sR, w_sL, w_sC, w_sk, w_sbr, w_sco, w_rV, w_rI, w_rR, w_rL, w_dI, w_sO, w_sq, w_si, w_pI, w_pZ, w_pR, w_pU, w_qI, w_qB, w_qZ, w_qU, w_qR, w_kV, q_icst, q_lcst, q_xR, q_ldI, q_ldR, q_ldL, q_bn, q_un, q_dv, q_fI, q_fR, q_aI, q_aR, q_aN, q_tn, q_cmp, q_cmz, q_cnt, q_ctt, q_cand, q_cor, q_vn, q_vI, q_vR, q_vL, q_kI, q_kR, q_kL, q_ckI, envN, argE, List.flatMap_cons, List.flatMap_nil, Value.category, junk, oadd, osub, omul, oand, oor, oxor, odiv, orem, oshl, oshr, oushr, omax, omin]
            simp (disch := first | omega | simp) [rk_i, rk_b, rk_o, st1, kill, Value.category, rcv, nog, inI_b, nI_clamp, nI_ltI, nI_leI, nI_eq, nI_9, nI_6, nI_22, nI_12, nI_180, nI_add, nI_1, hn, ly166, ly205, hm 54, mp, u9, e205]
            rw [nI_mul, nI_subc dle, hlow]
          have l65 : lowc w c i < 6561 := by omega
          have hgo : ∀ x', (∀ p, p < 32 → (bI x' p = true ↔ (p < W_n w ∧ unq w p = true ∧ uns (W_R w) p < u ∧ HG w p) ∨ (p = i ∧ ∃ c', c' < c + 1 ∧ cok w c' ∧ stt w 0 (mdc w c') (W_n w) ≠ stt w 0 (mdc w (lowc w c' i)) (W_n w)))) → wp (sC 5 1) [.ref 166, .int (nI (W_f w)), .int (nI t), .int x', .int (nI u), .int (nI c), .int (nI (c / 3 ^ u % 3)), .int (nI (lowc w c i))] h2 fun o2 _ E2 h3 => o2 = 0 ∧ ∃ k2, k2 < 3 ^ U - c ∧ h3 = h2 ∧ ∃ c x v6 v7, k2 = 3 ^ U - c ∧ c ≤ 3 ^ U ∧ E2 = [.ref 166, .int (nI (W_f w)), .int (nI t), .int x, .int (nI u), .int (nI c), v6, v7] ∧ (v6.category = 1 ∧ v7.category = 1) ∧ ∀ p, p < 32 → (bI x p = true ↔ (p < W_n w ∧ unq w p = true ∧ uns (W_R w) p < u ∧ HG w p) ∨ (p = i ∧ ∃ c', c' < c ∧ cok w c' ∧ stt w 0 (mdc w c') (W_n w) ≠ stt w 0 (mdc w (lowc w c' i)) (W_n w))) := fun x' hx' => w_sCe (nI c) (nI (c + 1)) rfl (nI_1 _) rfl ⟨rfl, 3 ^ U - (c + 1), by omega, rfl, c + 1, x', _, _, rfl, by omega, rfl, ⟨rfl, rfl⟩, hx'⟩
          have hno : ¬ (cok w c ∧ stt w 0 (mdc w c) (W_n w) ≠ stt w 0 (mdc w (lowc w c i)) (W_n w)) → ∀ p, p < 32 → (bI x p = true ↔ (p < W_n w ∧ unq w p = true ∧ uns (W_R w) p < u ∧ HG w p) ∨ (p = i ∧ ∃ c', c' < c + 1 ∧ cok w c' ∧ stt w 0 (mdc w c') (W_n w) ≠ stt w 0 (mdc w (lowc w c' i)) (W_n w))) := by
            intro hz p hp
            rw [hx p hp]
            constructor
            · rintro (z | ⟨z1, c', z2, z3⟩)
              · exact Or.inl z
              · exact Or.inr ⟨z1, c', by omega, z3⟩
            · rintro (z | ⟨z1, c', z2, z3⟩)
              · exact Or.inl z
              · by_cases e : c' = c
                · subst e; exact absurd z3 hz
                · exact Or.inr ⟨z1, c', by omega, z3⟩
          rcases t4 c hcU with ⟨ok, e⟩ | ⟨nok, e⟩
          · have nb1 := stt_nb w 0 (mdc w c) (W_n w)
            have nb2 := stt_nb w 0 (mdc w (lowc w c i)) (W_n w)
            have oo := own_ok hW nb1.1 (Nat.le_refl _)
            have e' : h2.2.1 206 (lowc w c i) = own w (stt w 0 (mdc w (lowc w c i)) (W_n w)) (W_n w) := by
              rcases t4 (lowc w c i) (by omega) with ⟨-, z⟩ | ⟨z, -⟩
              · exact z
              · exact absurd (cok_low i2 ok) z
            have om : ¬ own w (stt w 0 (mdc w c) (W_n w)) (W_n w) = -1 := fun z => by
              rw [z] at oo
              exact absurd oo.1 (by decide)
            by_cases hs : stt w 0 (mdc w c) (W_n w) = stt w 0 (mdc w (lowc w c i)) (W_n w)
            · refine (w_siF ?_).mpr (w_sk.mpr ⟨fun _ => hgo x (hno fun z => z.2 hs), (fun z => by cases z), fun z => absurd rfl z⟩)
              rw [hs] at e om
              simp only [f_mkF, w_sI, w_sR, w_sL, w_sC, w_sk, w_sbr, w_sco, w_rV, w_rI, w_rR, w_rL, w_dI, w_sO, w_sq, w_si, w_pI, w_pZ, w_pR, w_pU, w_qI, w_qB, w_qZ, w_qU, w_qR, w_kV, q_icst, q_lcst, q_xR, q_ldI, q_ldR, q_ldL, q_bn, q_un, q_dv, q_fI, q_fR, q_aI, q_aR, q_aN, q_tn, q_cmp, q_cmz, q_cnt, q_ctt, q_cand, q_cor, q_vn, q_vI, q_vR, q_vL, q_kI, q_kR, q_kL, q_ckI, envN, argE, List.flatMap_cons, List.flatMap_nil, Value.category, junk, oadd, osub, omul, oand, oor, oxor, odiv, orem, oshl, oshr, oushr, omax, omin]
              simp (disch := first | omega | simp) [rk_i, rk_b, rk_o, st1, kill, Value.category, rcv, nog, inI_b, nI_clamp, nI_ltI, nI_leI, nI_eq, nI_9, nI_6, nI_22, nI_12, nI_180, nI_add, nI_1, hn, ly166, ly206, hm 55, mp, c65, l65, e, e', om]
            · have oe : ¬ own w (stt w 0 (mdc w c) (W_n w)) (W_n w) = own w (stt w 0 (mdc w (lowc w c i)) (W_n w)) (W_n w) := fun z => hs (own_inj nb1 nb2 z)
              refine (w_siT ?_).mpr ?_
              · simp only [f_mkF, w_sI, w_sR, w_sL, w_sC, w_sk, w_sbr, w_sco, w_rV, w_rI, w_rR, w_rL, w_dI, w_sO, w_sq, w_si, w_pI, w_pZ, w_pR, w_pU, w_qI, w_qB, w_qZ, w_qU, w_qR, w_kV, q_icst, q_lcst, q_xR, q_ldI, q_ldR, q_ldL, q_bn, q_un, q_dv, q_fI, q_fR, q_aI, q_aR, q_aN, q_tn, q_cmp, q_cmz, q_cnt, q_ctt, q_cand, q_cor, q_vn, q_vI, q_vR, q_vL, q_kI, q_kR, q_kL, q_ckI, envN, argE, List.flatMap_cons, List.flatMap_nil, Value.category, junk, oadd, osub, omul, oand, oor, oxor, odiv, orem, oshl, oshr, oushr, omax, omin]
                simp (disch := first | omega | simp) [rk_i, rk_b, rk_o, st1, kill, Value.category, rcv, nog, inI_b, nI_clamp, nI_ltI, nI_leI, nI_eq, nI_9, nI_6, nI_22, nI_12, nI_180, nI_add, nI_1, hn, ly166, ly206, hm 55, mp, c65, l65, e, e', om, oe]
              · refine w_sIe (oor x (oshl 1 (nI i))) ?_ rfl ⟨fun _ => hgo _ fun p hp => ?_, (fun z => by cases z), fun z => absurd rfl z⟩
                · rw [q_bn, q_ldI]
                  refine ⟨x, rfl, ?_⟩
                  rw [q_bn, q_icst]
                  refine ev_mono (P := fun v h3 => v = nI i ∧ h3 = h2) (by simp only [f_mkF, w_sI, w_sR, w_sL, w_sC, w_sk, w_sbr, w_sco, w_rV, w_rI, w_rR, w_rL, w_dI, w_sO, w_sq, w_si, w_pI, w_pZ, w_pR, w_pU, w_qI, w_qB, w_qZ, w_qU, w_qR, w_kV, q_icst, q_lcst, q_xR, q_ldI, q_ldR, q_ldL, q_bn, q_un, q_dv, q_fI, q_fR, q_aI, q_aR, q_aN, q_tn, q_cmp, q_cmz, q_cnt, q_ctt, q_cand, q_cor, q_vn, q_vI, q_vR, q_vL, q_kI, q_kR, q_kL, q_ckI, envN, argE, List.flatMap_cons, List.flatMap_nil, Value.category, junk, oadd, osub, omul, oand, oor, oxor, odiv, orem, oshl, oshr, oushr, omax, omin]; simp (disch := first | omega | simp) [rk_i, rk_b, rk_o, st1, kill, Value.category, rcv, nog, inI_b, nI_clamp, nI_ltI, nI_leI, nI_eq, nI_9, nI_6, nI_22, nI_12, nI_180, nI_add, nI_1, hn, ly166, ly204, hm 53, mp, u20, e204]) ?_
                  rintro v h3 ⟨rfl, rfl⟩
                  exact ⟨rfl, rfl⟩
                · rw [bI_or (by omega) hp]
                  simp only [Bool.or_eq_true, decide_eq_true_eq]
                  rw [hx p hp]
                  constructor
                  · rintro ((z | ⟨z1, c', z2, z3⟩) | z)
                    · exact Or.inl z
                    · exact Or.inr ⟨z1, c', by omega, z3⟩
                    · exact Or.inr ⟨z, c, by omega, ok, hs⟩
                  · rintro (z | ⟨z1, -⟩)
                    · exact Or.inl (Or.inl z)
                    · exact Or.inr z1
          · refine (w_siF ?_).mpr (w_sk.mpr ⟨fun _ => hgo x (hno fun z => nok z.1), (fun z => by cases z), fun z => absurd rfl z⟩)
            simp only [f_mkF, w_sI, w_sR, w_sL, w_sC, w_sk, w_sbr, w_sco, w_rV, w_rI, w_rR, w_rL, w_dI, w_sO, w_sq, w_si, w_pI, w_pZ, w_pR, w_pU, w_qI, w_qB, w_qZ, w_qU, w_qR, w_kV, q_icst, q_lcst, q_xR, q_ldI, q_ldR, q_ldL, q_bn, q_un, q_dv, q_fI, q_fR, q_aI, q_aR, q_aN, q_tn, q_cmp, q_cmz, q_cnt, q_ctt, q_cand, q_cor, q_vn, q_vI, q_vR, q_vL, q_kI, q_kR, q_kL, q_ckI, envN, argE, List.flatMap_cons, List.flatMap_nil, Value.category, junk, oadd, osub, omul, oand, oor, oxor, odiv, orem, oshl, oshr, oushr, omax, omin]
            simp (disch := first | omega | simp) [rk_i, rk_b, rk_o, st1, kill, Value.category, rcv, nog, inI_b, nI_clamp, nI_ltI, nI_leI, nI_eq, nI_9, nI_6, nI_22, nI_12, nI_180, nI_add, nI_1, hn, ly166, ly206, hm 55, mp, c65, e]
        · have : c = 3 ^ U := by omega
          subst this
          refine ev_F ?_ ⟨fun _ => ⟨rfl, rfl, x, _, v6, v7, rfl, ⟨rfl, c6, c7⟩, fun p hp => ?_⟩, fun z => (by cases z)⟩
          · simp only [f_mkF, w_sI, w_sR, w_sL, w_sC, w_sk, w_sbr, w_sco, w_rV, w_rI, w_rR, w_rL, w_dI, w_sO, w_sq, w_si, w_pI, w_pZ, w_pR, w_pU, w_qI, w_qB, w_qZ, w_qU, w_qR, w_kV, q_icst, q_lcst, q_xR, q_ldI, q_ldR, q_ldL, q_bn, q_un, q_dv, q_fI, q_fR, q_aI, q_aR, q_aN, q_tn, q_cmp, q_cmz, q_cnt, q_ctt, q_cand, q_cor, q_vn, q_vI, q_vR, q_vL, q_kI, q_kR, q_kL, q_ckI, envN, argE, List.flatMap_cons, List.flatMap_nil, Value.category, junk, oadd, osub, omul, oand, oor, oxor, odiv, orem, oshl, oshr, oushr, omax, omin]
            simp (disch := first | omega | simp) [rk_i, rk_b, rk_o, st1, kill, Value.category, rcv, nog, inI_b, nI_clamp, nI_ltI, nI_leI, nI_eq, nI_9, nI_6, nI_22, nI_12, nI_180, nI_add, nI_1, hn, ly166, ly205, hm 54, mp, t1, U9, t3 U (Nat.le_refl _)]
          · rw [hx p hp]
            constructor
            · rintro (⟨z1, z2, z3, z4⟩ | ⟨rfl, c', z2, z3⟩)
              · exact ⟨z1, z2, by omega, z4⟩
              · exact ⟨i1, i2, by omega, hgi.mpr ⟨i2, c', z2, z3⟩⟩
            · rintro ⟨z1, z2, z3, z4⟩
              by_cases e : uns (W_R w) p = u
              · have : p = i := uns_inj w z2 i2 (e.trans i3.symm)
                subst this
                exact Or.inr ⟨rfl, (hgi.mp z4).2⟩
              · exact Or.inl ⟨z1, z2, by omega, z4⟩
      · rintro o v E1 h3 ⟨rfl, rfl, x, v5, v6, v7, rfl, ⟨c5, c6, c7⟩, hx⟩
        refine ⟨fun _ => ?_, (fun z => by cases z), fun z => absurd rfl z⟩
        refine w_sCe (nI u) (nI (u + 1)) rfl (nI_1 _) (by simp [st1, kill, Value.category]) ⟨rfl, U - (u + 1), by omega, rfl, u + 1, x, v5, v6, v7, rfl, by omega, rfl, ⟨c5, c6, c7⟩, hx⟩
    · have : u = U := by omega
      subst this
      refine ev_F ?_ ⟨fun _ => ⟨rfl, rfl, x, rfl, fun p hp => ?_⟩, fun z => (by cases z)⟩
      · simp only [f_mkF, w_sI, w_sR, w_sL, w_sC, w_sk, w_sbr, w_sco, w_rV, w_rI, w_rR, w_rL, w_dI, w_sO, w_sq, w_si, w_pI, w_pZ, w_pR, w_pU, w_qI, w_qB, w_qZ, w_qU, w_qR, w_kV, q_icst, q_lcst, q_xR, q_ldI, q_ldR, q_ldL, q_bn, q_un, q_dv, q_fI, q_fR, q_aI, q_aR, q_aN, q_tn, q_cmp, q_cmz, q_cnt, q_ctt, q_cand, q_cor, q_vn, q_vI, q_vR, q_vL, q_kI, q_kR, q_kL, q_ckI, envN, argE, List.flatMap_cons, List.flatMap_nil, Value.category, junk, oadd, osub, omul, oand, oor, oxor, odiv, orem, oshl, oshr, oushr, omax, omin]
        simp (disch := first | omega | simp) [rk_i, rk_b, rk_o, st1, kill, Value.category, rcv, nog, inI_b, nI_clamp, nI_ltI, nI_leI, nI_eq, nI_9, nI_6, nI_22, nI_12, nI_180, nI_add, nI_1, hn, ly166, t1]
      · rw [hx p hp]
        constructor
        · rintro ⟨z1, z2, z3, z4⟩; exact ⟨z1, z4⟩
        · rintro ⟨z1, z2⟩
          have z3 := ((hgc p z1).mp z2).1
          exact ⟨z1, z3, uLt p z1 z3, z2⟩
  · rintro o v E1 h2 ⟨rfl, rfl, x, e2, hx⟩
    refine ⟨fun _ => ?_, fun z => absurd rfl z⟩
    rw [w_rI, q_ldI]
    exact ⟨x, e2, rfl, rfl, x, rfl, hx⟩
