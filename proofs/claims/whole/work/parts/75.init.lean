/-! the constructors: where the run begins -/
theorem LG_q : ∀ e ∈ LG, e.1 = 166 → e.2.1 < 62 := by decide +kernel
theorem LG_p : ∀ q ∈ spl, RTb LG q.1 q.2.1 = some q.2.2 := by decide +kernel
theorem LG_m : ∀ k, k < 62 → RTb LG 166 k = mp k := by decide +kernel
theorem LG_r : ∀ t, t < 4 → ∀ i, i < 20 → RTb LG (29 + 22 * t) i = some (30 + 22 * t + i) := by decide +kernel
theorem LG_l : ∀ l, l < 6 → RTb LG 4 l = some (116 + 5 * l) := by decide +kernel
def d0 : LDt := (0, fun _ => 0, fun _ => 0, fun _ => 0, fun _ => 0, fun _ => 0, fun _ => 0, fun _ => 0, fun _ => 0, fun _ => false)
theorem d0_n : lCn d0 = 0 := rfl
theorem hC : ∀ E E', ∃ h1 h2, nwO 10 F_X10_init vn E h00 = some (0, h1) ∧ nwO 11 F_X11_init vn E' h1 = some (166, h2) ∧ INV LWc 0 h2 := by
  intro E E'
  have s0 : HS 0 [] h00 := ⟨rfl, rfl, fun e he => by simp at he, fun x k _ => rfl⟩
  have A : ev (nwO 10 F_X10_init vn) E h00 fun a h1 => a = 0 ∧ HS 166 LF h1 ∧ NR 6 h1.2.1 := by
    refine q_nwO (vs := []) s0 (by omega) rfl (fun h1 _ => by simp only [f_mkF, w_sI, w_sR, w_sL, w_sC, w_sk, w_sbr, w_sco, w_rV, w_rI, w_rR, w_rL, w_dI, w_sO, w_sq, w_si, w_pI, w_pZ, w_pR, w_pU, w_qI, w_qB, w_qZ, w_qU, w_qR, w_kV, q_icst, q_lcst, q_xR, q_ldI, q_ldR, q_ldL, q_bn, q_un, q_dv, q_fI, q_fR, q_aI, q_aR, q_aN, q_tn, q_cmp, q_cmz, q_cnt, q_ctt, q_cand, q_cor, q_vn, q_vI, q_vR, q_vL, q_kI, q_kR, q_kL, q_ckI, envN, argE, List.flatMap_cons, List.flatMap_nil, Value.category, junk, oadd, osub, omul, oand, oor, oxor, odiv, orem, oshl, oshr, oushr, omax, omin]; simp) fun h1 q1 e1 => ?_
    refine fq_mono (n_class q1 fun x k => by rw [e1]; rfl) ?_
    rintro r h2 ⟨rfl, z⟩
    exact ⟨rfl, rfl, z⟩
  obtain ⟨a, h1, e1, rfl, q1, n1⟩ := A
  have B : ev (nwO 11 F_X11_init vn) E' h1 fun a h2 => a = 166 ∧ HS 212 LG h2 ∧ (∀ k, k < 54 → h2.2.1 181 k = 1) ∧ (∀ k, k < 36 → h2.2.1 182 k = -1) ∧ ∀ x k, x ≠ 181 → x ≠ 182 → h2.2.1 x k = h1.2.1 x k := by
    refine q_nwO (vs := []) q1 (by omega) rfl (fun h1 _ => by simp only [f_mkF, w_sI, w_sR, w_sL, w_sC, w_sk, w_sbr, w_sco, w_rV, w_rI, w_rR, w_rL, w_dI, w_sO, w_sq, w_si, w_pI, w_pZ, w_pR, w_pU, w_qI, w_qB, w_qZ, w_qU, w_qR, w_kV, q_icst, q_lcst, q_xR, q_ldI, q_ldR, q_ldL, q_bn, q_un, q_dv, q_fI, q_fR, q_aI, q_aR, q_aN, q_tn, q_cmp, q_cmz, q_cnt, q_ctt, q_cand, q_cor, q_vn, q_vI, q_vR, q_vL, q_kI, q_kR, q_kL, q_ckI, envN, argE, List.flatMap_cons, List.flatMap_nil, Value.category, junk, oadd, osub, omul, oand, oor, oxor, odiv, orem, oshl, oshr, oushr, omax, omin]; simp) fun h2 q2 e2 => ?_
    refine fq_mono (n_ref q2 (by rw [e2]; exact n1)) ?_
    rintro r h3 ⟨rfl, z1, z2, z3, z4⟩
    exact ⟨rfl, rfl, z1, z2, z3, fun x k y1 y2 => by rw [z4 x k y1 y2, e2]⟩
  obtain ⟨a, h2, e2, rfl, q2, m1, m2, m3⟩ := B
  refine ⟨h1, h2, e1, e2, ?_⟩
  obtain ⟨n1, n2, n3⟩ := n1
  obtain ⟨r0, r1, -, -⟩ := q2
  have Z : ∀ x k, x < 6 ∨ (12 ≤ x ∧ x < 16) ∨ (21 < x ∧ x < 181) ∨ 182 < x → h2.2.1 x k = 0 := fun x k z => by rw [m3 x k (by omega) (by omega)]; exact n3 x k (by omega)
  have Z0 : (0 : Int32).toInt = 0 := rfl
  refine ⟨⟨r0, ?_, ?_⟩, ?_, ?_, ?_, ?_, ?_, ?_, ?_, ?_, ⟨?_, ?_⟩, ?_⟩
  · rw [r1]; exact LG_p
  · rw [r1]
    intro k
    by_cases hk : k < 62
    · exact LG_m k hk
    · rw [RTb_n fun e he z => hk (by have := LG_q e he z.1; omega)]
      unfold mp
      split <;> first | omega | rfl
  · refine ⟨?_, ?_, ?_⟩
    · rw [Z _ _ (by omega), Z _ _ (by omega)]
    · rw [Z _ _ (by omega), Z0]; omega
    · rw [Z _ _ (by omega), Z0]; omega
  · refine ⟨?_, ?_, fun i => ?_, fun i => ?_, fun i => ?_, fun i => ?_⟩
    · rw [Z _ _ (by omega), Z _ _ (by omega)]
    · rw [Z _ _ (by omega), Z0]; omega
    · rw [Z _ _ (by omega), Z _ _ (by omega)]
    · rw [Z _ _ (by omega), Z _ _ (by omega)]
    · rw [Z _ _ (by omega), Z0]; omega
    · rw [Z _ _ (by omega), Z0]; omega
  · intro l k hl hk
    rw [m1 _ (by omega), m3 _ _ (by omega) (by omega), n2 l k hl hk]
    exact ⟨rfl, by decide, by decide⟩
  · intro a b ha hb
    rw [m2 _ (by omega), m3 _ _ (by omega) (by omega), n1 a b ha hb]
    exact ⟨rfl, by decide, by decide⟩
  · refine ⟨?_, ?_, fun i => ?_⟩
    · rw [Z _ _ (by omega), Z _ _ (by omega)]
    · rw [Z _ _ (by omega), Z0]; omega
    · rw [Z _ _ (by omega), Z _ _ (by omega)]
  · refine ⟨?_, ?_, fun t ht => ?_⟩
    · rw [Z _ _ (by omega), Z _ _ (by omega)]
    · rw [Z _ _ (by omega), Z0]; omega
    · rw [Z (28 + 22 * t) _ (by omega), Z (28 + 22 * t) _ (by omega), Z (28 + 22 * t) _ (by omega), Z (28 + 22 * t) _ (by omega), Z 166 _ (by omega), Z 172 _ (by omega), Z 169 _ (by omega), Z 170 _ (by omega), Z 171 _ (by omega), Z0]
      exact ⟨⟨rfl, rfl, rfl, rfl⟩, ⟨by omega, by omega⟩, fun _ => rfl, fun z => by omega⟩
  · intro t ht
    refine ⟨fun i => 30 + 22 * t + i, fun i hi => ⟨by rw [r1]; exact LG_r t ht i hi, by show 30 + 22 * t ≤ 30 + 22 * t + i; omega, by show 30 + 22 * t + i < 50 + 22 * t; omega⟩, fun i j _ _ z => by have z : 30 + 22 * t + i = 30 + 22 * t + j := z; omega, fun i hi z => ?_⟩
    rw [Z 172 _ (by omega), Z0] at z
    omega
  · refine ⟨⟨23, by rw [r1]; decide +kernel, Or.inl rfl, fun l hl => ?_⟩, fun l hl => ⟨116 + 5 * l, by rw [r1]; exact LG_l l hl, by unfold lawA; omega, ?_, ?_, ?_⟩, fun l m hl hm z => ?_⟩
    · rw [r1, LG_l l hl]
      intro z
      have := Option.some.inj z
      omega
    · rw [Z _ _ (by omega), Z _ _ (by omega)]
    · rw [Z _ _ (by omega), Z0]; omega
    · rw [Z _ _ (by omega), Z0]; omega
    · rw [r1, LG_l l hl, LG_l m hm] at z
      have := Option.some.inj z
      omega
  · refine ⟨fun _ => d0, fun l hl => ⟨⟨by rw [d0_n]; omega, fun c hc => by rw [d0_n] at hc; omega⟩, ⟨116 + 5 * l, by rw [r1]; exact LG_l l hl, by unfold lawA; omega, ?_, ⟨0, ?_, by omega, fun c hc => by rw [d0_n] at hc; omega⟩, fun c hc => by rw [d0_n] at hc; omega⟩, ?_, fun c hc => by rw [d0_n] at hc; omega⟩⟩
    · rw [Z _ _ (by omega), d0_n]; rfl
    · rw [Z _ _ (by omega)]; rfl
    · rw [Z _ _ (by omega), d0_n]; rfl
  · exact Or.inl ⟨by rw [r1]; decide +kernel, by rw [r1]; decide +kernel⟩
  · refine ⟨?_, fun k => ?_⟩
    · rw [Z _ _ (by omega), Z0]; omega
    · rw [Z _ _ (by omega), Z _ _ (by omega)]; exact Int.le_refl _
