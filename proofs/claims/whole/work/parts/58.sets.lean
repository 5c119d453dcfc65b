/-! sets of lands -/
/-- bit s of a long -/
def BT (x : Int64) (s : Nat) : Bool := x.toBitVec.getLsbD s
theorem BT_shl : ∀ s, s < 64 → ∀ s', s' < 64 → BT (olshl 1 (nI s)) s' = decide (s' = s) ∧ BT (olxor (olshl 1 (nI s)) (-1)) s' = !decide (s' = s) := by decide +kernel
theorem BT_or {x : Int64} {s s' : Nat} (hs : s < 64) (hs' : s' < 64) : BT (olor x (olshl 1 (nI s))) s' = (BT x s' || decide (s' = s)) := by
  rw [← (BT_shl s hs s' hs').1]
  unfold BT
  simp only [olor, Int64.toBitVec_or, BitVec.getLsbD_or]
theorem BT_clr {x : Int64} {s s' : Nat} (hs : s < 64) (hs' : s' < 64) : BT (oland x (olxor (olshl 1 (nI s)) (-1))) s' = (BT x s' && !decide (s' = s)) := by
  rw [← (BT_shl s hs s' hs').2]
  unfold BT
  simp only [oland, Int64.toBitVec_and, BitVec.getLsbD_and]
theorem sh_k : ∀ s, s < 64 → ((nI s).toInt64.toUInt64 &&& Int64.toUInt64 63).toNat = s := by decide +kernel
theorem BT_0 (s : Nat) : BT 0 s = false := by
  unfold BT
  simp
theorem BT_t {x : Int64} {s : Nat} (hs : s < 64) : lg_cmp (oland (olushr x (nI s)) 1) 0 = 0 ↔ BT x s = false := by
  have h1 : lg_cmp (oland (olushr x (nI s)) 1) 0 = 0 ↔ oland (olushr x (nI s)) 1 = 0 := by
    unfold lg_cmp
    by_cases z : oland (olushr x (nI s)) 1 = 0
    · rw [z]; simp
    · by_cases y : oland (olushr x (nI s)) 1 > 0
      · simp [y, z]
      · simp [y, z]
  rw [h1]
  have h2 : oland (olushr x (nI s)) 1 = 0 ↔ (oland (olushr x (nI s)) 1).toBitVec = 0 := by
    constructor
    · intro z; rw [z]; rfl
    · intro z; exact Int64.toBitVec_inj.mp (z.trans rfl)
  rw [h2]
  have h3 : (olushr x (nI s)).toBitVec = x.toBitVec >>> s := by
    have hk := sh_k s hs
    unfold olushr
    show (x.toUInt64 >>> ((nI s).toInt64.toUInt64 &&& Int64.toUInt64 63)).toBitVec = _
    rw [UInt64.toBitVec_shiftRight]
    show x.toBitVec >>> (((nI s).toInt64.toUInt64 &&& Int64.toUInt64 63).toBitVec % 64) = _
    rw [BitVec.ushiftRight_eq']
    congr 1
    rw [BitVec.toNat_umod]
    show ((nI s).toInt64.toUInt64 &&& Int64.toUInt64 63).toNat % 64 = s
    rw [hk]
    omega
  have h4 : (oland (olushr x (nI s)) 1).toBitVec = (x.toBitVec >>> s) &&& 1#64 := by
    show (olushr x (nI s)).toBitVec &&& (1 : Int64).toBitVec = _
    rw [h3]
    rfl
  rw [h4]
  unfold BT
  constructor
  · intro z
    have := congrArg (fun v => v.getLsbD 0) z
    simp at this
    exact this
  · intro z
    apply BitVec.eq_of_getLsbD_eq
    intro k hk
    rw [BitVec.getLsbD_and, BitVec.getLsbD_ushiftRight]
    by_cases k0 : k = 0
    · subst k0
      simp [z]
    · have : (1#64).getLsbD k = false := by
        rw [BitVec.getLsbD_one]
        simp [k0]
      rw [this]
      simp
def pcn (s : Nat) : Nat → Nat
  | 0 => 0
  | j + 1 => pcn s j + (if s.testBit j = true then 1 else 0)
def pc (s : Nat) : Nat := pcn s 6
theorem pc_le : ∀ s, s < 64 → pc s ≤ 6 := by decide +kernel
theorem x_bits {s : Nat} (hs : s < 64) (h : Hp) : F_J6_bitCount_0f7a4 [.int (nI s)] h = some (some (.int (nI (pc s))), h) := by
  have key : ∀ s, s < 64 → (fun x : Int32 => (fun x : Int32 => (fun x : Int32 => (fun x : Int32 => (fun x : Int32 => oand x 63) (oadd x (oushr x 16))) (oadd x (oushr x 8))) (oand (oadd x (oushr x 4)) 252645135)) (oadd (oand x 858993459) (oand (oushr x 2) 858993459))) (osub (nI s) (oand (oushr (nI s) 1) 1431655765)) = nI (pc s) := by decide +kernel
  have k := key s hs
  rw [← k, ← fq_eq]
  unfold F_J6_bitCount_0f7a4
  refine f_mkE [.int (nI s)] rfl (by simp [argE, Value.category]) ?_
  generalize nI s = x
  refine w_sqI (E' := [.int (osub x (oand (oushr x 1) 1431655765))]) (osub x (oand (oushr x 1) 1431655765)) (by simp only [q_bn, q_ldI, q_icst]; simp) rfl ?_
  generalize osub x (oand (oushr x 1) 1431655765) = x
  refine w_sqI (E' := [.int (oadd (oand x 858993459) (oand (oushr x 2) 858993459))]) (oadd (oand x 858993459) (oand (oushr x 2) 858993459)) (by simp only [q_bn, q_ldI, q_icst]; simp) rfl ?_
  dsimp only
  generalize oadd (oand x 858993459) (oand (oushr x 2) 858993459) = x
  refine w_sqI (E' := [.int (oand (oadd x (oushr x 4)) 252645135)]) (oand (oadd x (oushr x 4)) 252645135) (by simp only [q_bn, q_ldI, q_icst]; simp) rfl ?_
  generalize oand (oadd x (oushr x 4)) 252645135 = x
  refine w_sqI (E' := [.int (oadd x (oushr x 8))]) (oadd x (oushr x 8)) (by simp only [q_bn, q_ldI, q_icst]; simp) rfl ?_
  generalize oadd x (oushr x 8) = x
  refine w_sqI (E' := [.int (oadd x (oushr x 16))]) (oadd x (oushr x 16)) (by simp only [q_bn, q_ldI, q_icst]; simp) rfl ?_
  generalize oadd x (oushr x 16) = x
  rw [w_rI, q_bn, q_ldI]
  refine ⟨x, rfl, ?_⟩
  rw [q_icst]
  exact Or.inr ⟨rfl, rfl, rfl, rfl⟩
theorem m_bits {s : Nat} (hs : s < 64) (h : Hp) : F_X11_bits [.int (nI s)] h = some (some (.int (nI (pc s))), h) := by
  have k6 : (6 : Int32) = nI 6 := rfl
  rw [← fq_eq]
  unfold F_X11_bits
  refine f_mkE [.int (nI s), junk, junk] rfl (by simp [argE, Value.category]) ?_
  refine w_sqI (E' := [.int (nI s), .int (nI 0), junk]) (nI 0) (by simp only [f_mkF, w_sI, w_sR, w_sL, w_sC, w_sk, w_sbr, w_sco, w_rV, w_rI, w_rR, w_rL, w_dI, w_sO, w_sq, w_si, w_pI, w_pZ, w_pR, w_pU, w_qI, w_qB, w_qZ, w_qU, w_qR, w_kV, q_icst, q_lcst, q_xR, q_ldI, q_ldR, q_ldL, q_bn, q_un, q_dv, q_fI, q_fR, q_aI, q_aR, q_aN, q_tn, q_cmp, q_cmz, q_cnt, q_ctt, q_cand, q_cor, q_vn, q_vI, q_vR, q_vL, q_kI, q_kR, q_kL, q_ckI, envN, argE, List.flatMap_cons, List.flatMap_nil, Value.category, junk, oadd, osub, omul, oand, oor, oxor, odiv, orem, oshl, oshr, oushr, omax, omin]; simp [nI_0]) rfl ?_
  refine w_sq.mpr ?_
  refine w_sqI (E' := [.int (nI s), .int (nI 0), .int (nI 0)]) (nI 0) (by simp only [f_mkF, w_sI, w_sR, w_sL, w_sC, w_sk, w_sbr, w_sco, w_rV, w_rI, w_rR, w_rL, w_dI, w_sO, w_sq, w_si, w_pI, w_pZ, w_pR, w_pU, w_qI, w_qB, w_qZ, w_qU, w_qR, w_kV, q_icst, q_lcst, q_xR, q_ldI, q_ldR, q_ldL, q_bn, q_un, q_dv, q_fI, q_fR, q_aI, q_aR, q_aN, q_tn, q_cmp, q_cmz, q_cnt, q_ctt, q_cand, q_cor, q_vn, q_vI, q_vR, q_vL, q_kI, q_kR, q_kL, q_ckI, envN, argE, List.flatMap_cons, List.flatMap_nil, Value.category, junk, oadd, osub, omul, oand, oor, oxor, odiv, orem, oshl, oshr, oushr, omax, omin]; simp [nI_0]) rfl ?_
  refine wp_mono (w_lp (Q := fun o _ E1 h' => o = 0 ∧ h' = h ∧ E1[1]? = some (.int (nI (pc s)))) (fun k E h' => h' = h ∧ ∃ j, k = 6 - j ∧ j ≤ 6 ∧ E = [.int (nI s), .int (nI (pcn s j)), .int (nI j)]) ?_ 6 _ _ ⟨rfl, 0, rfl, by omega, rfl⟩) ?_
  · rintro k E h' ⟨rfl, j, rfl, hj, rfl⟩
    by_cases hj6 : j < 6
    · refine ev_T ?_ ⟨fun z => (by cases z), fun _ => ?_⟩
      · simp only [f_mkF, w_sI, w_sR, w_sL, w_sC, w_sk, w_sbr, w_sco, w_rV, w_rI, w_rR, w_rL, w_dI, w_sO, w_sq, w_si, w_pI, w_pZ, w_pR, w_pU, w_qI, w_qB, w_qZ, w_qU, w_qR, w_kV, q_icst, q_lcst, q_xR, q_ldI, q_ldR, q_ldL, q_bn, q_un, q_dv, q_fI, q_fR, q_aI, q_aR, q_aN, q_tn, q_cmp, q_cmz, q_cnt, q_ctt, q_cand, q_cor, q_vn, q_vI, q_vR, q_vL, q_kI, q_kR, q_kL, q_ckI, envN, argE, List.flatMap_cons, List.flatMap_nil, Value.category, junk, oadd, osub, omul, oand, oor, oxor, odiv, orem, oshl, oshr, oushr, omax, omin]
        simp (disch := first | omega | simp) [rk_i, rk_b, rk_o, st1, kill, Value.category, rcv, nog, inI_b, nI_clamp, nI_ltI, nI_leI, nI_eq, nI_9, nI_6, nI_22, nI_12, nI_180, nI_add, nI_1, k6, hj6]
      have ms := (mskA s hs j hj6).2.1
      refine w_sIe (E' := [.int (nI s), .int (nI (pcn s (j + 1))), .int (nI j)]) (nI (pcn s (j + 1))) ?_ rfl ⟨fun _ => ?_, (fun z => by cases z), fun z => absurd rfl z⟩
      · simp only [q_bn, q_ldI, q_icst]
        refine ⟨_, rfl, _, rfl, _, rfl, ?_⟩
        rw [ms]
        refine ⟨?_, by first | rfl | trivial⟩
        rw [pcn]
        cases s.testBit j
        · simp
        · simp [nI_1]
      · refine w_sCe (nI j) (nI (j + 1)) rfl (nI_1 _) rfl ⟨rfl, 6 - (j + 1), by omega, rfl, j + 1, rfl, by omega, rfl⟩
    · have : j = 6 := by omega
      subst this
      refine ev_F ?_ ⟨fun _ => ⟨rfl, rfl, rfl⟩, fun z => (by cases z)⟩
      simp only [f_mkF, w_sI, w_sR, w_sL, w_sC, w_sk, w_sbr, w_sco, w_rV, w_rI, w_rR, w_rL, w_dI, w_sO, w_sq, w_si, w_pI, w_pZ, w_pR, w_pU, w_qI, w_qB, w_qZ, w_qU, w_qR, w_kV, q_icst, q_lcst, q_xR, q_ldI, q_ldR, q_ldL, q_bn, q_un, q_dv, q_fI, q_fR, q_aI, q_aR, q_aN, q_tn, q_cmp, q_cmz, q_cnt, q_ctt, q_cand, q_cor, q_vn, q_vI, q_vR, q_vL, q_kI, q_kR, q_kL, q_ckI, envN, argE, List.flatMap_cons, List.flatMap_nil, Value.category, junk, oadd, osub, omul, oand, oor, oxor, odiv, orem, oshl, oshr, oushr, omax, omin]
      simp (disch := first | omega | simp) [rk_i, rk_b, rk_o, st1, kill, Value.category, rcv, nog, inI_b, nI_clamp, nI_ltI, nI_leI, nI_eq, nI_9, nI_6, nI_22, nI_12, nI_180, nI_add, nI_1, k6]
  · rintro o v E1 h1 ⟨rfl, rfl, e2⟩
    refine ⟨fun _ => ?_, fun z => absurd rfl z⟩
    simp only [f_mkF, w_sI, w_sR, w_sL, w_sC, w_sk, w_sbr, w_sco, w_rV, w_rI, w_rR, w_rL, w_dI, w_sO, w_sq, w_si, w_pI, w_pZ, w_pR, w_pU, w_qI, w_qB, w_qZ, w_qU, w_qR, w_kV, q_icst, q_lcst, q_xR, q_ldI, q_ldR, q_ldL, q_bn, q_un, q_dv, q_fI, q_fR, q_aI, q_aR, q_aN, q_tn, q_cmp, q_cmz, q_cnt, q_ctt, q_cand, q_cor, q_vn, q_vI, q_vR, q_vL, q_kI, q_kR, q_kL, q_ckI, envN, argE, List.flatMap_cons, List.flatMap_nil, Value.category, junk, oadd, osub, omul, oand, oor, oxor, odiv, orem, oshl, oshr, oushr, omax, omin]
    simp [rk_i, rk_b, rk_o, st1, kill, Value.category, rcv, nog, e2]
/-- the least set of which p holds -/
def LSp (p : Nat → Bool) (r : Int32) : Prop := (r = -2 ∧ ∀ s, s < 64 → p s = false) ∨ ∃ s, s < 64 ∧ r = nI s ∧ p s = true ∧ ∀ s', s' < 64 → p s' = true → pc s < pc s' ∨ (pc s = pc s' ∧ s ≤ s')
theorem sub_pc : ∀ A, A < 64 → ∀ s, s < 64 → s &&& A = s ∨ pc (s &&& A) < pc s := by decide +kernel
theorem and_64 : ∀ A, A < 64 → ∀ s, s < 64 → s &&& A < 64 ∧ (s &&& A) &&& A = s &&& A := by decide +kernel
theorem LSp_eq {A : Nat} (hA : A < 64) {p p' : Nat → Bool} (h1 : ∀ s, s < 64 → p s = (decide (s &&& A = s) && p' s)) (h2 : ∀ s, s < 64 → p' s = p' (s &&& A)) {r r' : Int32} (a : LSp p r) (b : LSp p' r') : r = r' := by
  have hp : ∀ s, s < 64 → p s = true → p' s = true := fun s hs z => by rw [h1 s hs] at z; simp at z; exact z.2
  rcases b with ⟨rfl, b⟩ | ⟨s, s1, rfl, s2, s3⟩
  · rcases a with ⟨rfl, -⟩ | ⟨s, s1, rfl, s2, -⟩
    · rfl
    · have := hp s s1 s2
      rw [b s s1] at this
      cases this
  · have q1 := and_64 A hA s s1
    have q2 : p' (s &&& A) = true := by rw [← h2 s s1]; exact s2
    have q3 := s3 _ q1.1 q2
    have q4 : s &&& A = s := by
      rcases sub_pc A hA s s1 with z | z
      · exact z
      · omega
    have q5 : p s = true := by rw [h1 s s1, s2]; simp [q4]
    rcases a with ⟨rfl, a⟩ | ⟨u, u1, rfl, u2, u3⟩
    · rw [a s s1] at q5; cases q5
    · have v1 := u3 s s1 q5
      have v2 := s3 u u1 (hp u u1 u2)
      rw [show u = s by omega]
/-- the lands that have an s -/
def slm (D : Nat → LDt) : Nat → Nat
  | 0 => 0
  | l + 1 => if hasN (D l) 0 (lCn (D l)) = true then slm D l ||| 2 ^ l else slm D l
theorem slm_ok (D : Nat → LDt) : ∀ n, n ≤ 6 → slm D n < 64 ∧ ∀ l, l < 6 → (slm D n).testBit l = (decide (l < n) && hasN (D l) 0 (lCn (D l))) := by
  intro n
  induction n with
  | zero => intro _; exact ⟨by show 0 < 64; omega, fun l _ => by show (0 : Nat).testBit l = _; simp⟩
  | succ n ih =>
    intro hn
    obtain ⟨i1, i2⟩ := ih (by omega)
    unfold slm
    by_cases c : hasN (D n) 0 (lCn (D n)) = true
    · rw [if_pos c]
      refine ⟨(mskA _ i1 n (by omega)).2.2.2, fun l hl => ?_⟩
      rw [bit_o _ i1 n (by omega) l hl, i2 l hl]
      by_cases z : l = n
      · subst z; simp [c]
      · by_cases z2 : l < n
        · have : l < n + 1 := by omega
          simp [z, z2, this]
        · have : ¬ l < n + 1 := by omega
          simp [z, z2, this]
    · rw [if_neg c]
      refine ⟨i1, fun l hl => ?_⟩
      rw [i2 l hl]
      by_cases z : l = n
      · subst z
        simp at c
        simp [c]
      · by_cases z2 : l < n
        · have : l < n + 1 := by omega
          simp [z2, this]
        · have : ¬ l < n + 1 := by omega
          simp [z2, this]
theorem gvs_A {w : Wd} (hw : WV w) {sp : Nat} {i left : Nat} {mind : Int32} {kind lt : Nat} (hi : i < W_n w) : gvs w sp i left mind kind lt = gvs w (sp &&& slm (W_D w) 6) i left mind kind lt := by
  have hl := askd_lt hw (kind := kind) (ow := frm (W_R w) (W_fo w) left) hi
  unfold gvs
  generalize askd w i kind (frm (W_R w) (W_fo w) left) = l at *
  by_cases c : lt = 0
  · subst c
    have := (slm_ok (W_D w) 6 (by omega)).2 l hl
    rw [Nat.testBit_and, this]
    cases hy : hasN (W_D w l) 0 (lCn (W_D w l)) with
    | true => simp [hl]
    | false =>
      rw [show hs (W_D w l) 0 _ = false from hsN_no hy]
      simp
  · simp [c]
theorem hnd_A {w : Wd} (hw : WV w) {sp i s : Nat} {mind : Int32} (hi : i < W_n w) : hnd w sp i s mind = hnd w (sp &&& slm (W_D w) 6) i s mind := by
  unfold hnd
  rw [gvs_A hw hi]
theorem stt_A {w : Wd} (hw : WV w) {sp : Nat} {md : Nat → Int32} : ∀ i, i ≤ W_n w → stt w sp md i = stt w (sp &&& slm (W_D w) 6) md i := by
  intro i
  induction i with
  | zero => intro _; rfl
  | succ i ih =>
    intro hi
    unfold stt nxt
    rw [ih (by omega), hnd_A hw (by omega)]
theorem whz_A {w : Wd} (hw : WV w) (sp : Nat) : whz w sp = whz w (sp &&& slm (W_D w) 6) := by
  unfold whz
  rw [stt_A hw _ (Nat.le_refl _)]
