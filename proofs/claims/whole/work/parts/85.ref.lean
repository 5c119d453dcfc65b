/-! the reference reads: sums -/
section SUMS
variable {s : Nat → Nat} {e : Nat} {h0 : Hp} {Q : Value → Hp → Prop}
/-- readsFactor reads what F reads, and goes on -/
def FCT (s : Nat → Nat) (e : Nat) (h0 : Hp) (Q : Value → Hp → Prop) (β : List Pr2) (o : Nat) (F : Nat → Rd) : Prop := ∀ (σ L : List Pr2) (p : Nat) (h : Hp), GD s e h0 h p o (β ++ σ) L → (∀ f, F p = .error f → EF Q h0 f) → (∀ p' C h', F p = .ok (p', C) → GD s e h0 h' p' o (β ++ σ) (L ++ C.map rfc) → Wr Q β.length h') → RK Q β.length h
def PRD (s : Nat → Nat) (e : Nat) (h0 : Hp) (Q : Value → Hp → Prop) (β : List Pr2) (o : Nat) (all : Bool) (F : Nat → Rd) : Prop := ∀ (σ L : List Pr2) (p : Nat) (h : Hp), GD s e h0 h p o (β ++ σ) L → stopM (cloM all) (β ++ σ) → (∀ f, F p = .error f → EF Q h0 f) → (∀ p' C h' pend L', F p = .ok (p', C) → GD s e h0 h' p' o (β ++ σ ++ pend) L' → (∀ x, x ∈ pend → cloM all x.1 = true) → L' ++ ops pend = L ++ C.map rfc → isMul (s p') = false → (all = true → isAdd (s p') = false) → Wr Q β.length h') → RK Q β.length h
theorem rfc_op {O : Nat} (h : 2 ≤ O ∧ O ≤ 10) : rfc (O, 0, 0, 0) = (O, 0) := by
  unfold rfc
  simp only
  rw [if_neg (by omega), if_neg (by omega)]
theorem op_d : ∀ c, c < 256 → (isMul c = true → 4 ≤ opP c ∧ opP c ≤ 6) ∧ (isAdd c = true → opP c = 2 ∨ opP c = 3) ∧ (isMul c = false → isAdd c = false → opP c = 0) := by decide +kernel
theorem K_prd {β : List Pr2} {o : Nat} {F : Nat → Rd} (hG : GO e F) (hF : FCT s e h0 Q β o F) : PRD s e h0 Q β o false (chainP s isMul F) := by
  intro σ L p h g hst hE hK
  have TL : ∀ n p1 Ca h' pend L', 200 ≤ n + p1 → chainP s isMul F p = tailP s isMul F n p1 Ca → GD s e h0 h' p1 o (β ++ σ ++ pend) L' → (∀ x, x ∈ pend → cloM false x.1 = true) → L' ++ ops pend = L ++ Ca.map rfc → L.length + Ca.length ≤ p1 → Wr Q β.length h' := by
    intro n
    induction n with
    | zero =>
      intro p1 Ca h' pend L' h1 _ g1
      have := g1.2.2.2.1
      have := g1.1.2.2.2.1
      omega
    | succ n ih =>
      intro p1 Ca h' pend L' h1 h2 g1 h3 h4 h5
      have hs := g1.1.2.2.2.2.2.1
      obtain ⟨d1, d2, d3⟩ := op_d (s p1) (hs p1)
      rw [tailP] at h2
      have ll : L'.length + pend.length = L.length + Ca.length := by
        have := congrArg List.length h4
        simpa [ops_l] using this
      by_cases c : isMul (s p1) = true
      · rw [if_pos c] at h2
        obtain ⟨d4, d5⟩ := d1 c
        have d6 : decide (opP (s p1) < 4) = false := by simp; omega
        refine W_op g1 (by omega) (by rw [d6]; exact h3) (by rw [d6]; exact hst) (by omega) fun h2' g2 => ?_
        rw [h4] at g2
        rw [List.append_assoc β] at g2
        refine hF _ _ _ _ g2 (fun f hf => ?_) fun p2 C2 h3' hf g3 => ?_
        · rw [hf] at h2
          exact hE f h2
        · rw [hf] at h2
          obtain ⟨b1, b2, b3⟩ := hG _ _ _ hf
          refine ih p2 _ h3' [(opP (s p1), 0)] _ (by omega) h2 (by rw [List.append_assoc β]; exact g3) (fun x hx => ?_) ?_ ?_
          · simp at hx
            subst hx
            unfold cloM
            simp
            omega
          · simp only [List.map_append, List.map_cons, List.map_nil, rfc_op (show 2 ≤ opP (s p1) ∧ opP (s p1) ≤ 10 by omega), List.append_assoc]
            rfl
          · simp only [List.length_append, List.length_singleton]
            omega
      · rw [if_neg c] at h2
        have c' : isMul (s p1) = false := by simpa using c
        exact hK p1 Ca h' pend L' h2 g1 h3 h4 c' (fun z => by cases z)
  refine hF σ L p h g (fun f hf => hE f (by unfold chainP; rw [hf])) fun p1 C1 h1 hf g1 => ?_
  have b := hG _ _ _ hf
  have := g.2.2.2.2.2
  refine TL 200 p1 C1 h1 [] _ (by omega) (by unfold chainP; rw [hf]) (by rw [List.append_nil]; exact g1) (fun x hx => by simp at hx) (by unfold ops; simp) (by omega)
theorem K_sum {β : List Pr2} {o : Nat} {F : Nat → Rd} (hG : GO e F) (hF : PRD s e h0 Q β o false F) : PRD s e h0 Q β o true (chainP s isAdd F) := by
  intro σ L p h g hst hE hK
  have cf : ∀ x, cloM false x = true → cloM true x = true := by
    intro x z
    unfold cloM at *
    simp at z ⊢
    exact Or.inl z
  have TL : ∀ n p1 Ca h' pend L', 200 ≤ n + p1 → chainP s isAdd F p = tailP s isAdd F n p1 Ca → GD s e h0 h' p1 o (β ++ σ ++ pend) L' → (∀ x, x ∈ pend → cloM true x.1 = true) → L' ++ ops pend = L ++ Ca.map rfc → L.length + Ca.length ≤ p1 → isMul (s p1) = false → Wr Q β.length h' := by
    intro n
    induction n with
    | zero =>
      intro p1 Ca h' pend L' h1 _ g1
      have := g1.2.2.2.1
      have := g1.1.2.2.2.1
      omega
    | succ n ih =>
      intro p1 Ca h' pend L' h1 h2 g1 h3 h4 h5 h6
      have hs := g1.1.2.2.2.2.2.1
      obtain ⟨d1, d2, d3⟩ := op_d (s p1) (hs p1)
      rw [tailP] at h2
      have ll : L'.length + pend.length = L.length + Ca.length := by
        have := congrArg List.length h4
        simpa [ops_l] using this
      by_cases c : isAdd (s p1) = true
      · rw [if_pos c] at h2
        have d4 := d2 c
        have d6 : decide (opP (s p1) < 4) = true := by simp; omega
        refine W_op g1 (by omega) (by rw [d6]; exact h3) (by rw [d6]; exact hst) (by omega) fun h2' g2 => ?_
        rw [h4] at g2
        rw [List.append_assoc β] at g2
        refine hF _ _ _ _ g2 ?_ (fun f hf => ?_) fun p2 C2 h3' pend2 L2 hf g3 k3 k4 k5 _ => ?_
        · intro l x z
          rw [← List.append_assoc] at z
          have := List.append_inj' z rfl
          have hx : (opP (s p1), 0) = x := by simpa using this.2
          rw [← hx]
          unfold cloM
          simp
          omega
        · rw [hf] at h2
          exact hE f h2
        · rw [hf] at h2
          obtain ⟨b1, b2, b3⟩ := hG _ _ _ hf
          refine ih p2 _ h3' ((opP (s p1), 0) :: pend2) L2 (by omega) h2 ?_ (fun x hx => ?_) ?_ ?_ k5
          · rw [show β ++ σ ++ (opP (s p1), 0) :: pend2 = β ++ (σ ++ [(opP (s p1), 0)]) ++ pend2 from by simp]; exact g3
          · rcases List.mem_cons.mp hx with rfl | hx
            · unfold cloM
              simp
              omega
            · exact cf _ (k3 x hx)
          · rw [show (opP (s p1), 0) :: pend2 = [] ++ (opP (s p1), 0) :: pend2 from rfl, ops_app, ← List.append_assoc, k4]
            simp only [List.map_append, List.map_cons, List.map_nil, rfc_op (show 2 ≤ opP (s p1) ∧ opP (s p1) ≤ 10 by omega), List.append_assoc]
            rfl
          · simp only [List.length_append, List.length_singleton]
            omega
      · rw [if_neg c] at h2
        have c' : isAdd (s p1) = false := by simpa using c
        exact hK p1 Ca h' pend L' h2 g1 h3 h4 h6 (fun _ => c')
  have hst2 : stopM (cloM false) (β ++ σ) := fun l x z => by
    have := hst l x z
    cases hc : cloM false x.1 with
    | false => rfl
    | true => rw [cf _ hc] at this; cases this
  refine hF σ L p h g hst2 (fun f hf => hE f (by unfold chainP; rw [hf])) fun p1 C1 h1 pend L' hf g1 k1 k2 k3 _ => ?_
  have b := hG _ _ _ hf
  have := g.2.2.2.2.2
  exact TL 200 p1 C1 h1 pend L' (by omega) (by unfold chainP; rw [hf]) g1 (fun x hx => cf _ (k1 x hx)) k2 (by omega) k3
def IrP (s : Nat → Nat) : Nat → Nat → Rd
  | 0 => fun p => .error (5000 + p)
  | r + 1 => fun p => sumP s r (p + 1)
theorem sumP_I (s : Nat → Nat) (r : Nat) : sumP s r = chainP s isAdd (chainP s isMul (fctP s (IrP s r))) := by
  cases r with
  | zero => rfl
  | succ r => rfl
theorem fct_b {s : Nat → Nat} {I : Nat → Rd} {p : Nat} (h : ¬ s p = 91) : fctP s I p = (match bfP s p with
    | .error f => .error f
    | .ok (p', op, v) => .ok (p', [(op, v, 0, 0)])) := by
  unfold fctP bfP
  rw [if_neg h]
  by_cases c1 : isD (s p) = true
  · rw [if_pos c1, if_pos c1]
    by_cases c2 : isD (s (numP s 6 p 0).1) = true
    · rw [if_pos c2, if_pos c2]
    · rw [if_neg c2, if_neg c2]
  · rw [if_neg c1, if_neg c1]
    by_cases c3 : ltrP (s p) < 13
    · rw [if_pos c3, if_pos c3]
    · rw [if_neg c3, if_neg c3]
theorem bfP_b {s : Nat → Nat} {e p : Nat} (hz : ∀ p, e ≤ p → s p = 0) (h91 : ¬ s p = 91) {p' op v : Nat} (h : bfP s p = .ok (p', op, v)) : p < p' ∧ p' ≤ e ∧ op ≤ 1 := by
  have h2 : fctP s (fun p => .error p) p = .ok (p', [(op, v, 0, 0)]) := by rw [fct_b h91, h]
  have := GO_fct hz (I := fun p => .error p) (fun p p' C h => by cases h) _ _ _ h2
  refine ⟨this.1, this.2.1, ?_⟩
  unfold bfP at h
  by_cases c1 : isD (s p) = true
  · rw [if_pos c1] at h
    by_cases c2 : isD (s (numP s 6 p 0).1) = true
    · rw [if_pos c2] at h; cases h
    · rw [if_neg c2] at h; cases h; omega
  · rw [if_neg c1] at h
    by_cases c3 : ltrP (s p) < 13
    · rw [if_pos c3] at h; cases h; omega
    · rw [if_neg c3] at h; cases h
theorem K_base {β : List Pr2} {o : Nat} {I : Nat → Rd} {σ L : List Pr2} {p : Nat} {h : Hp} (g : GD s e h0 h p o (β ++ σ) L) (h91 : ¬ s p = 91) (hE : ∀ f, fctP s I p = .error f → EF Q h0 f) (hK : ∀ p' C h', fctP s I p = .ok (p', C) → GD s e h0 h' p' o (β ++ σ) (L ++ C.map rfc) → Wr Q β.length h') : RK Q β.length h := by
  obtain ⟨q, m, fr, hpe, hst, hL⟩ := g
  have h160 := q.2.2.2.1
  refine fq_mono (m_rf_base q m hpe h91 (by omega)) ?_
  rintro r h1 ⟨f1, z⟩
  have fb := fct_b (I := I) h91
  cases hb : bfP s p with
  | error f =>
    rw [hb] at z fb
    obtain ⟨rfl, z2⟩ := z
    exact Or.inr ⟨rfl, hE f fb _ (fr.trans f1) z2⟩
  | ok x =>
    obtain ⟨p', op, v⟩ := x
    have bb := bfP_b q.2.2.2.2.2.2 h91 hb
    rw [hb] at z fb
    obtain ⟨rfl, z2⟩ := z
    refine Or.inl ⟨rfl, hK _ _ _ fb ⟨q.c f1, ?_, fr.trans f1, bb.2.1, by omega, by simp; omega⟩⟩
    rw [show ([(op, v, 0, 0)] : List Cd).map rfc = [(op, v)] from by simp [rfc, bb.2.2]]
    exact z2
theorem K_all {β : List Pr2} : ∀ r, r ≤ 6 → PRD s e h0 Q β (6 - r) true (sumP s r) := by
  intro r
  have fin : ∀ r, r ≤ 6 → (∀ p, e ≤ p → s p = 0) → FCT s e h0 Q β (6 - r) (fctP s (IrP s r)) → PRD s e h0 Q β (6 - r) true (sumP s r) := by
    intro r hr hz hf
    rw [sumP_I]
    have g0 : GO e (fctP s (IrP s r)) := by
      refine GO_fct hz fun p p' C h => ?_
      cases r with
      | zero => cases h
      | succ r => have := GO_sum hz r _ _ _ h; omega
    exact K_sum (GO_chain g0) (K_prd g0 hf)
  induction r with
  | zero =>
    intro _ σ L p h g
    refine fin 0 (by omega) g.1.2.2.2.2.2.2 ?_ σ L p h g
    intro σ L p h g hE hK
    by_cases h91 : s p = 91
    · obtain ⟨q, m, fr, hpe, hst, hL⟩ := g
      have h160 := q.2.2.2.1
      have e1 := m_rf_deep q m hpe h91 (by omega)
      refine (fq_of e1).mpr (Or.inr ⟨rfl, hE (5000 + p) ?_ _ (fr.w (by unfold SMr; omega)) (by rw [wI_i, if_pos ⟨rfl, rfl⟩])⟩)
      unfold fctP
      rw [if_pos h91]
      rfl
    · exact K_base g h91 hE hK
  | succ r ih =>
    intro hr σ L p h g
    refine fin (r + 1) hr g.1.2.2.2.2.2.2 ?_ σ L p h g
    clear g p L σ h
    intro σ L p h g hE hK
    have hz := g.1.2.2.2.2.2.2
    by_cases h91 : s p = 91
    · have g' := g
      obtain ⟨q, m, fr, hpe, hst, hL⟩ := g'
      have h160 := q.2.2.2.1
      have hlt : p < e := lt_e hz (by omega)
      obtain ⟨h1, f1, m1, e1⟩ := m_rf_open q m hpe h91 (by omega) (by omega)
      have fe : fctP s (IrP s (r + 1)) p = expP s 93 (sumP s r (p + 1)) := by
        unfold fctP
        rw [if_pos h91]
        rfl
      unfold RK fq
      rw [e1]
      rw [show 6 - (r + 1) + 1 = 6 - r from by omega, List.append_assoc] at m1
      refine ih (by omega) (σ ++ [(14, 0)]) L (p + 1) h1 ⟨q.c f1, m1, fr.trans f1, by omega, by simp at hst ⊢; omega, by omega⟩ ?_ (fun f hf => hE f (by rw [fe, hf]; rfl)) fun p' C h' pend L' hf g2 k1 k2 k3 k4 => ?_
      · intro l x z
        rw [← List.append_assoc] at z
        have := List.append_inj' z rfl
        have hx : (14, 0) = x := by simpa using this.2
        rw [← hx]; rfl
      · have hs := g2.1.2.2.2.2.2.1
        have b := GO_sum hz r _ _ _ hf
        have op0 := (op_d (s p') (hs p')).2.2 k3 (k4 rfl)
        have ll : L'.length + pend.length = L.length + C.length := by
          have := congrArg List.length k2
          simpa [ops_l] using this
        have any1 : (σ ++ [(14, 0)] ++ pend).any (fun x => x.1 == 14) = true := by simp
        have g2' : GD s e h0 h' p' (6 - r) (β ++ (σ ++ [(14, 0)] ++ pend)) L' := by rw [← List.append_assoc]; exact g2
        refine W_end g2' op0 (fun c93 _ => ⟨β ++ σ, pend, by simp, k1, by omega, by omega, fun h3 g3 => ?_⟩) (fun c93 _ => ?_) fun z => ?_
        · rw [k2] at g3
          exact hK (p' + 1) C h3 (by rw [fe, hf]; unfold expP; simp [c93]) g3
        · exact hE (1000 + p') (by rw [fe, hf]; unfold expP; simp [c93])
        · rw [any1] at z; cases z
    · exact K_base g h91 hE hK
end SUMS
/-- readsSum -/
def OS (s : Nat → Nat) (e : Nat) (h0 : Hp) (o : Nat) (st L : List Pr2) (R : Rd) (r : Option Value) (h' : Hp) : Prop := Fr SMr h0 h' ∧ match R with
  | .error f => r = some (.int 0) ∧ h'.2.1 166 23 = -(nI f)
  | .ok (p', C) => r = some (.int 1) ∧ GD s e h0 h' p' o st (L ++ C.map rfc)
theorem m_sum {s : Nat → Nat} {e : Nat} {h : Hp} {p r : Nat} {st L : List Pr2} (q : MR s e h) (m : MS h p (6 - r) st L) (hpe : p ≤ e) (hst : st.length ≤ p) (hL : L.length ≤ p) (hr : r ≤ 6) (hs : stopM (cloM true) st) : fq F_X11_readsSum [.ref 166] h fun v h' => OS s e h (6 - r) st L (sumP s r p) v h' := by
  have hn := q.1
  have hz := q.2.2.2.2.2.2
  have g0 : GD s e h h p (6 - r) (st ++ []) L := by rw [List.append_nil]; exact ⟨q, m, Fr.refl h, hpe, hst, hL⟩
  have k := K_all (s := s) (e := e) (h0 := h) (Q := fun v h' => OS s e h (6 - r) st L (sumP s r p) (some v) h' ∧ rok (some FieldType.boolean) v = true) (β := st) r hr [] L p h g0 (by rw [List.append_nil]; exact hs) (fun f hf h' f1 z => by rw [hf]; exact ⟨⟨f1, rfl, z⟩, rfl⟩) ?_
  · rw [RS_eq]
    refine f_mkE [.ref 166, junk, junk] rfl (by simp [argE, Value.category]) ?_
    refine w_sqI (E' := [.ref 166, .int (nI st.length), junk]) (nI st.length) (ev_fM hn rfl m.2.2.1) rfl ?_
    obtain ⟨v, h3, e3, z⟩ := k
    rcases z with ⟨rfl, z⟩ | ⟨rfl, z⟩
    · refine w_sq.mpr (w_siC false h3 (by simp only [f_mkF, w_sI, w_sR, w_sL, w_sC, w_sk, w_sbr, w_sco, w_rV, w_rI, w_rR, w_rL, w_dI, w_sO, w_sq, w_si, w_pI, w_pZ, w_pR, w_pU, w_qI, w_qB, w_qZ, w_qU, w_qR, w_kV, q_icst, q_lcst, q_xR, q_ldI, q_ldR, q_ldL, q_bn, q_un, q_dv, q_fI, q_fR, q_aI, q_aR, q_aN, q_tn, q_cmp, q_cmz, q_cnt, q_ctt, q_cand, q_cor, q_vn, q_vI, q_vR, q_vL, q_kI, q_kR, q_kL, q_ckI, envN, argE, List.flatMap_cons, List.flatMap_nil, Value.category, junk, oadd, osub, omul, oand, oor, oxor, odiv, orem, oshl, oshr, oushr, omax, omin]; simp (disch := first | omega | simp) [rk_i, rk_b, rk_o, st1, kill, Value.category, rcv, nog, hn, ly166, fq_of e3]) (fun z => by cases z) fun _ => w_sk2.mpr ?_)
      refine wp_mono (z junk rfl) ?_
      rintro o v E h' ⟨rfl, y1, y2⟩
      exact Or.inr ⟨rfl, y2, y1⟩
    · refine w_sq.mpr (w_siC true h3 (by simp only [f_mkF, w_sI, w_sR, w_sL, w_sC, w_sk, w_sbr, w_sco, w_rV, w_rI, w_rR, w_rL, w_dI, w_sO, w_sq, w_si, w_pI, w_pZ, w_pR, w_pU, w_qI, w_qB, w_qZ, w_qU, w_qR, w_kV, q_icst, q_lcst, q_xR, q_ldI, q_ldR, q_ldL, q_bn, q_un, q_dv, q_fI, q_fR, q_aI, q_aR, q_aN, q_tn, q_cmp, q_cmz, q_cnt, q_ctt, q_cand, q_cor, q_vn, q_vI, q_vR, q_vL, q_kI, q_kR, q_kL, q_ckI, envN, argE, List.flatMap_cons, List.flatMap_nil, Value.category, junk, oadd, osub, omul, oand, oor, oxor, odiv, orem, oshl, oshr, oushr, omax, omin]; simp (disch := first | omega | simp) [rk_i, rk_b, rk_o, st1, kill, Value.category, rcv, nog, hn, ly166, fq_of e3]) (fun _ => ?_) fun z => by cases z)
      rw [w_rI, q_icst]
      exact ⟨(fun y => by cases y), fun _ => Or.inr ⟨rfl, z.2, z.1⟩⟩
  · intro p' C h' pend L' hf g2 k1 k2 k3 k4
    rw [List.append_nil] at g2
    have hs2 := g2.1.2.2.2.2.2.1
    have b := GO_sum hz r _ _ _ hf
    have op0 := (op_d (s p') (hs2 p')).2.2 k3 (k4 rfl)
    have ll : L'.length + pend.length = L.length + C.length := by
      have := congrArg List.length k2
      simpa [ops_l] using this
    have any0 : pend.any (fun x => x.1 == 14) = false := by
      rw [Bool.eq_false_iff]
      intro z
      obtain ⟨x, hx, hx2⟩ := List.any_eq_true.mp z
      have := k1 x hx
      have h14 : x.1 = 14 := by simpa using hx2
      rw [h14] at this
      exact absurd this (by decide)
    refine W_end g2 op0 (fun _ z => by rw [any0] at z; cases z) (fun _ z => by rw [any0] at z; cases z) fun _ => ⟨k1, hs, by omega, fun h1 g1 => ?_⟩
    rw [hf]
    rw [k2] at g1
    exact ⟨⟨g1.2.2.1, rfl, g1⟩, rfl⟩
