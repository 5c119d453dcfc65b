/-! the reference reads: conditions -/
def ptx (L pend : List Pr2) (x : Nat) : List Pr2 := pend.foldr (fun y l => l.set y.2 ((l.getD y.2 (0, 0)).1, x)) L
def PNd (op : Nat) (pend L : List Pr2) : Prop := pend = [] ∨ ∃ q, pend = [(op, q)] ∧ q < L.length
theorem ptl_x {op : Nat} {pend L M : List Pr2} (h : PNd op pend L) : ptl (L ++ M) pend = ptx L pend (L.length + M.length) ++ M := by
  rcases h with rfl | ⟨q, rfl, hq⟩
  · rfl
  · show ptM (L ++ M) q = L.set q ((L.getD q (0, 0)).1, L.length + M.length) ++ M
    unfold ptM
    rw [List.set_append_left _ _ hq, List.length_append, List.getD_eq_getElem?_getD, List.getElem?_append_left hq, ← List.getD_eq_getElem?_getD]
theorem ptl_app (L a b : List Pr2) : ptl L (a ++ b) = ptl (ptl L b) a := by unfold ptl; rw [List.foldr_append]
theorem ptx_one (X : List Pr2) (op x : Nat) : ptx (X ++ [(op, 0)]) [(op, X.length)] x = X ++ [(op, x)] := by
  show (X ++ [(op, 0)]).set X.length (((X ++ [(op, 0)]).getD X.length (0, 0)).1, x) = _
  rw [List.set_append_right _ _ (by omega)]
  simp
section CONDS
variable {s : Nat → Nat} {e : Nat} {h0 : Hp} {Q : Value → Hp → Prop}
def TOP (lv : Nat) (st : List Pr2) : Prop := stopM (fun x => decide (x = 10 ∨ (x = 11 ∧ 1 ≤ lv) ∨ (x = 12 ∧ 2 ≤ lv))) st
def LN (lv : Nat) (pn L : List Pr2) : Prop := ∀ x, x ∈ pn → ((x.1 = 11 ∧ 1 ≤ lv) ∨ (x.1 = 12 ∧ 2 ≤ lv)) ∧ x.2 < L.length
def PX (s : Nat → Nat) (e : Nat) (h0 : Hp) (Q : Value → Hp → Prop) (lv o : Nat) (F : Nat → Nat → Rd) : Prop := ∀ (st L : List Pr2) (p : Nat) (h : Hp), GN s e h0 h p o st L → hiM st → st ≠ [] → TOP lv st → (∀ f, F p L.length = .error f → EF Q h0 f) → (∀ p' C h' pn L', F p L.length = .ok (p', C) → GN s e h0 h' p' o (st ++ pn) L' → LN lv pn L' → ptl L' pn = L ++ C.map rfc → (1 ≤ lv → ¬ s p' = 38) → (2 ≤ lv → ¬ s p' = 124) → WBc Q h') → WAc Q h
theorem TOP.le {lv lv' : Nat} {st : List Pr2} (h : TOP lv st) (hl : lv' ≤ lv) : TOP lv' st := fun l x z => by
  have := h l x z
  simp at this ⊢
  omega
theorem TOP.snoc {lv : Nat} {st : List Pr2} {x : Pr2} (h : ¬ (x.1 = 10 ∨ (x.1 = 11 ∧ 1 ≤ lv) ∨ (x.1 = 12 ∧ 2 ≤ lv))) : TOP lv (st ++ [x]) := fun l y z => by
  have := List.append_inj' z rfl
  have hx : x = y := by simpa using this.2
  rw [← hx]
  simpa using h
theorem hiM.app {a b : List Pr2} (x : hiM a) (y : hiM b) : hiM (a ++ b) := fun z hz => (List.mem_append.mp hz).elim (x z) (y z)
theorem hiM.one {x : Pr2} (h : 10 ≤ x.1) : hiM [x] := fun z hz => by simp at hz; subst hz; exact h
theorem hiM.pre {a b : List Pr2} (x : hiM (a ++ b)) : hiM a := fun z hz => x z (by simp [hz])
theorem K_join {o lv : Nat} {F : Nat → Nat → Rd} (hlv : lv < 2) (hG : GO2 e F) (hF : PX s e h0 Q lv o F) : PX s e h0 Q (lv + 1) o (joinR s (if lv = 1 then 124 else 38) (if lv = 1 then 12 else 11) F) := by
  intro st L p h g hhi hne htop hE hK
  have hO : ∃ O, O = (if lv = 1 then 12 else 11) := ⟨_, rfl⟩
  obtain ⟨O, hO⟩ := hO
  have hS : ∃ S, S = (if lv = 1 then 124 else 38) := ⟨_, rfl⟩
  obtain ⟨S, hS⟩ := hS
  rw [← hO, ← hS] at hE hK
  have hO2 : (lv = 0 ∧ O = 11 ∧ S = 38) ∨ (lv = 1 ∧ O = 12 ∧ S = 124) := by
    rcases (show lv = 0 ∨ lv = 1 by omega) with z | z
    · subst z; exact Or.inl ⟨rfl, hO, hS⟩
    · subst z; exact Or.inr ⟨rfl, hO, hS⟩
  have JN : ∀ n p1 L1 pend0 h1, 200 ≤ n + p1 → PNd O pend0 L1 → GN s e h0 h1 p1 o (st ++ pend0) L1 → (∀ f, joinP s S O F n p1 L1.length = .error f → EF Q h0 f) → (∀ p' l C h' pend' L', joinP s S O F n p1 L1.length = .ok (p', l, C) → GN s e h0 h' p' o (st ++ pend') L' → LN (lv + 1) pend' L' → ptl L' pend' = ptx L1 pend0 (L1.length + l) ++ C.map rfc → ¬ s p' = 38 → (2 ≤ lv + 1 → ¬ s p' = 124) → WBc Q h') → WAc Q h1 := by
    intro n
    induction n with
    | zero =>
      intro p1 L1 pend0 h1 z _ g1
      have := g1.2.2.2.1
      have := g1.1.2.2.2.1
      omega
    | succ n ih =>
      intro p1 L1 pend0 h1 hf hp0 g1 hE1 hK1
      have hhi0 : hiM (st ++ pend0) := by
        refine hhi.app ?_
        rcases hp0 with rfl | ⟨q, rfl, -⟩
        · intro x hx; simp at hx
        · exact hiM.one (by show 10 ≤ O; omega)
      have htop0 : TOP lv (st ++ pend0) := by
        rcases hp0 with rfl | ⟨q, rfl, -⟩
        · rw [List.append_nil]; exact htop.le (by omega)
        · exact TOP.snoc (by show ¬ (O = 10 ∨ (O = 11 ∧ 1 ≤ lv) ∨ (O = 12 ∧ 2 ≤ lv)); omega)
      refine hF (st ++ pend0) L1 p1 h1 g1 hhi0 (by simp [hne]) htop0 (fun f z => hE1 f (by rw [joinP, z])) fun p2 C1 h2 pn L2 z g2 hln hpt n38 n124 => ?_
      have l2 : L2.length = L1.length + C1.length := by
        rw [← ptl_l L2 pn, hpt]; simp
      have key : ptl L2 (pend0 ++ pn) = ptx L1 pend0 (L1.length + C1.length) ++ C1.map rfc := by
        rw [ptl_app, hpt, ptl_x hp0]
        simp
      have g2' : GN s e h0 h2 p2 o (st ++ (pend0 ++ pn)) L2 := by rw [← List.append_assoc]; exact g2
      have hjn : joinP s S O F (n + 1) p1 L1.length = (if s p2 = S then (match joinP s S O F n (p2 + 1) (L1.length + C1.length + 1) with
          | .error f => .error f
          | .ok (p2', l2, C2) => .ok (p2', C1.length, C1 ++ (O, 0, L1.length + C1.length + 1 + C2.length, L1.length + C1.length + 1 + l2) :: C2)) else .ok (p2, C1.length, C1)) := by
        rw [joinP, z]
        rfl
      by_cases c : s p2 = S
      · rw [if_pos c] at hjn
        have al : (if decide (lv = 1) = true then 12 else 11) = O := by rcases hO2 with ⟨z, z2, -⟩ | ⟨z, z2, -⟩ <;> simp [z, z2]
        refine B_join (decide (lv = 1)) g2' ?_ (fun x hx => ?_) (fun l x zz => ?_) fun h3 g3 => ?_
        · rw [c]; rcases hO2 with ⟨z, -, z2⟩ | ⟨z, -, z2⟩ <;> simp [z, z2]
        · rcases List.mem_append.mp hx with hx | hx
          · rcases hp0 with rfl | ⟨q, rfl, hq⟩
            · simp at hx
            · simp at hx
              subst hx
              refine ⟨?_, by show q < _; omega⟩
              rcases hO2 with ⟨z, z2, -⟩ | ⟨z, z2, -⟩ <;> simp [z, z2, lanM]
          · obtain ⟨y1, y2⟩ := hln x hx
            refine ⟨?_, y2⟩
            have l1 : lv = 1 := by omega
            rcases y1 with ⟨y1, -⟩ | ⟨y1, -⟩ <;> simp [y1, l1, lanM]
        · have := htop l x zz
          simp at this
          unfold lanM
          simp
          omega
        · rw [al, key] at g3
          have lX : (ptx L1 pend0 (L1.length + C1.length) ++ C1.map rfc).length = L2.length := by rw [← key, ptl_l]
          have l3 : (ptx L1 pend0 (L1.length + C1.length) ++ C1.map rfc ++ [(O, 0)]).length = L1.length + C1.length + 1 := by rw [List.length_append, lX, l2]; rfl
          have pe := g2.2.2.2.1
          refine ih (p2 + 1) _ [(O, L2.length)] h3 (by have := (hG _ _ _ _ z).1; omega) (Or.inr ⟨L2.length, rfl, by omega⟩) g3 (fun f zf => ?_) fun p' l' C2 h' pend' L' zf g4 hln4 hpt4 a38 a124 => ?_
          · rw [l3] at zf
            rw [zf] at hjn
            exact hE1 f hjn
          · rw [l3] at zf hpt4
            rw [zf] at hjn
            refine hK1 p' C1.length _ h' pend' L' hjn g4 hln4 ?_ a38 a124
            rw [hpt4, ← lX, ptx_one]
            simp only [List.map_append, List.map_cons, List.append_assoc, List.cons_append, List.nil_append]
            have : rfc (O, 0, L1.length + C1.length + 1 + C2.length, L1.length + C1.length + 1 + l') = (O, L1.length + C1.length + 1 + l') := by
              unfold rfc
              simp only
              rw [if_neg (by omega), if_pos (by omega)]
            rw [this]
      · rw [if_neg c] at hjn
        refine hK1 p2 C1.length C1 h2 (pend0 ++ pn) L2 hjn g2' (fun x hx => ?_) key ?_ ?_
        · rcases List.mem_append.mp hx with hx | hx
          · rcases hp0 with rfl | ⟨q, rfl, hq⟩
            · simp at hx
            · simp at hx
              subst hx
              refine ⟨?_, by show q < _; omega⟩
              show (O = 11 ∧ 1 ≤ lv + 1) ∨ (O = 12 ∧ 2 ≤ lv + 1)
              omega
          · obtain ⟨y1, y2⟩ := hln x hx
            exact ⟨by omega, y2⟩
        · rcases hO2 with ⟨z, -, z2⟩ | ⟨z, -, z2⟩
          · rw [← z2]; exact c
          · exact n38 (by omega)
        · intro zz
          rcases hO2 with ⟨z, -, z2⟩ | ⟨z, -, z2⟩
          · omega
          · rw [← z2]; exact c
  refine JN 200 p L [] h (by omega) (Or.inl rfl) (by rw [List.append_nil]; exact g) (fun f zf => hE f (by unfold joinR; rw [zf])) fun p' l C h' pend' L' zf g' h1 h2 h3 h4 => ?_
  exact hK p' C h' pend' L' (by unfold joinR; rw [zf]) g' h1 h2 (fun _ => h3) h4
/-- a piece, with NOTs before it -/
def PCEc (s : Nat → Nat) (e : Nat) (h0 : Hp) (Q : Value → Hp → Prop) (r : Nat) : Prop := ∀ (j : Nat) (σ L : List Pr2) (p : Nat) (h : Hp), GN s e h0 h p (6 - r) (σ ++ nts j) L → j ≤ 6 - r → hiM (σ ++ nts j) → stopM (fun x => decide (x = 10)) σ → σ ≠ [] → (∀ f, pceP s r p L.length = .error f → EF Q h0 f) → (∀ p' C h', pceP s r p L.length = .ok (p', C) → GN s e h0 h' p' (6 - r - j) σ (L ++ C.map rfc ++ nts j) → WBc Q h') → WAc Q h
theorem PCEc.px {r : Nat} (h : PCEc s e h0 Q r) : PX s e h0 Q 0 (6 - r) (pceP s r) := by
  intro st L p h1 g hhi hne htop hE hK
  have n0 : nts 0 = [] := rfl
  refine h 0 st L p h1 (by rw [n0, List.append_nil]; exact g) (by omega) (by rw [n0, List.append_nil]; exact hhi) (fun l x z => ?_) hne hE fun p' C h' z g' => ?_
  · have := htop l x z
    simp at this ⊢
    omega
  · rw [n0, List.append_nil] at g'
    exact hK p' C h' [] _ z (by rw [List.append_nil]; exact g') (fun x hx => by simp at hx) rfl (fun y => by omega) (fun y => by omega)
theorem K_cnd {r : Nat} (hz : ∀ p, e ≤ p → s p = 0) (h : PCEc s e h0 Q r) : PX s e h0 Q 2 (6 - r) (cndP s (pceP s r)) :=
  K_join (lv := 1) (by omega) (GO_join (GO_pce hz r)) (K_join (lv := 0) (by omega) (GO_pce hz r) h.px)
theorem K_pce (hz : ∀ p, e ≤ p → s p = 0) : ∀ r, r ≤ 6 → PCEc s e h0 Q r := by
  intro r
  induction r with
  | zero =>
    intro _ j σ L p h g hj hhi h10 hne hE hK
    by_cases c : s p = 33 ∨ s p = 40
    · exact A_deep g c (hE _ (by rw [pceP, if_pos c]))
    · refine A_cmp g (by omega) hj hhi h10 c (fun f z => hE f (by rw [pceP, if_neg c]; exact z)) fun p' C h' z g' => hK p' C h' (by rw [pceP, if_neg c]; exact z) g'
  | succ r ih =>
    intro hr j σ L p h g hj hhi h10 hne hE hK
    have ih := ih (by omega)
    by_cases c1 : s p = 33
    · obtain ⟨h1, g1, w⟩ := A_open (Q := Q) g (Or.inl c1) (by omega)
      rw [if_pos c1, show 6 - (r + 1) + 1 = 6 - r from by omega, List.append_assoc, ← nts_s] at g1
      refine w (ih (j + 1) σ L (p + 1) h1 g1 (by omega) ?_ h10 hne (fun f z => hE f (by rw [pceP, if_pos c1, z])) fun p' C h' z g' => hK p' (C ++ [(10, 0, 0, 0)]) h' (by rw [pceP, if_pos c1, z]) ?_)
      · rw [nts_s, ← List.append_assoc]; exact hhi.app (hiM.one (by show 10 ≤ 10; omega))
      · rw [show 6 - r - (j + 1) = 6 - (r + 1) - j from by omega] at g'
        have eqn : L ++ List.map rfc (C ++ [((10, 0, 0, 0) : Cd)]) ++ nts j = L ++ List.map rfc C ++ nts (j + 1) := by
          rw [List.map_append, show List.map rfc [((10, 0, 0, 0) : Cd)] = [(10, 0)] from by simp [rfc], show nts (j + 1) = (10, 0) :: nts j from List.replicate_succ]
          simp
        rw [eqn]
        exact g'
    · by_cases c2 : s p = 40
      · obtain ⟨h1, g1, w⟩ := A_open (Q := Q) g (Or.inr c2) (by omega)
        rw [if_neg c1, show 6 - (r + 1) + 1 = 6 - r from by omega] at g1
        have ep : pceP s (r + 1) p L.length = expP s 41 (cndP s (pceP s r) (p + 1) L.length) := by
          rw [pceP, if_neg c1, if_pos c2]
          rfl
        refine w (K_cnd hz ih (σ ++ nts j ++ [(13, 0)]) L (p + 1) h1 g1 (hhi.app (hiM.one (by show 10 ≤ 13; omega))) (by simp) (TOP.snoc (by simp)) (fun f z => hE f (by rw [ep, z]; rfl)) fun p' C h' pn L' z g' hln hpt n38 n124 => ?_)
        by_cases c41 : s p' = 41
        · rw [show 6 - r = 6 - (r + 1) - j + j + 1 from by omega] at g'
          refine B_close g' c41 (by omega) (fun x hx => ?_) h10 (fun zz => ?_) fun _ h2 g2 => ?_
          · obtain ⟨y1, y2⟩ := hln x hx
            refine ⟨?_, y2⟩
            unfold lanM
            simp
            omega
          · exact absurd (List.append_eq_nil_iff.mp zz).1 hne
          · rw [hpt] at g2
            exact hK (p' + 1) C h2 (by rw [ep, z]; unfold expP; simp [c41]) g2
        · exact B_bad g' c41 (n38 (by omega)) (n124 (by omega)) (hE _ (by rw [ep, z]; unfold expP; simp [c41]))
      · have c : ¬ (s p = 33 ∨ s p = 40) := by omega
        have ep : pceP s (r + 1) p L.length = cprP s (r + 1) p := by rw [pceP, if_neg c1, if_neg c2]
        exact A_cmp g hr hj hhi h10 c (fun f z => hE f (by rw [ep]; exact z)) fun p' C h' z g' => hK p' C h' (by rw [ep]; exact z) g'
end CONDS
/-- readsCondition -/
def OSc (s : Nat → Nat) (e : Nat) (h0 : Hp) (L : List Pr2) (R : Rd) (r : Option Value) (h' : Hp) : Prop := Fr SMr h0 h' ∧ match R with
  | .error f => r = some (.int 0) ∧ h'.2.1 166 23 = -(nI f)
  | .ok (p', C) => r = some (.int 1) ∧ GN s e h0 h' p' 0 [] (L ++ C.map rfc)
theorem m_cond {s : Nat → Nat} {e : Nat} {h : Hp} {p : Nat} {L : List Pr2} (q : MR s e h) (h1 : h.2.1 166 21 = nI p) (h2 : h.2.1 166 25 = nI L.length) (h3 : ARr (h.2.1 184) L) (h4 : inr L) (hpe : p ≤ e) (hL : L.length ≤ p) : fq F_X11_readsCondition [.ref 166] h fun v h' => OSc s e h L (expP s 41 (if s p = 40 then cndP s (pceP s 5) (p + 1) L.length else .error (1000 + p))) v h' := by
  have hn := q.1
  have hm := q.2.1
  have hs := q.2.2.2.2.2.1
  have hz := q.2.2.2.2.2.2
  have h160 := q.2.2.2.1
  have hh := m_here q h1 hpe
  have a1 : hvM s e p = 40 ↔ s p = 40 := hvM_e (c := 40) hs hz (by omega)
  have k1 := ev_k0 (E := [.ref 166]) hn rfl hh
  generalize hV : expP s 41 (if s p = 40 then cndP s (pceP s 5) (p + 1) L.length else .error (1000 + p)) = V
  rw [RC_eq]
  refine f_mkE [.ref 166] rfl (by simp [argE, Value.category]) ?_
  by_cases c : s p = 40
  · rw [if_pos c] at hV
    have hlt : p < e := lt_e hz (by omega)
    refine w_sq.mpr ((w_siF (ev_eqt (ev_not (ev_cmpc k1)) (by simp [oeq, a1, c]))).mpr (w_sk2.mpr ?_))
    refine w_sqN (w_pMe 0 hn rfl (by rw [q_icst]; exact ⟨rfl, rfl⟩) ⟨rfl, ?_⟩)
    refine w_sqN (w_pMe 0 hn rfl (by rw [q_icst]; exact ⟨rfl, rfl⟩) ⟨rfl, ?_⟩)
    have f1 : Fr SMr h (wI (wI h 166 24 0) 166 26 0) := ((Fr.refl h).w (by unfold SMr; omega)).w (by unfold SMr; omega)
    have m1 : MS (wI (wI h 166 24 0) 166 26 0) p 0 [] L := ⟨by simp [wI_i, h1], by simp [wI_i]; rfl, by simp [wI_i]; rfl, by simp [wI_i, h2], (fun i x z => by simp at z), h3.c (fun i _ => by simp [wI_i]), (fun x hx => by simp at hx), h4⟩
    generalize wI (wI h 166 24 0) 166 26 0 = h5 at *
    have q1 := q.c f1
    have hn1 := q1.1
    obtain ⟨r, h6, e2, z⟩ := m_opens hn1 q1.2.1 m1 (w := 13) (by omega) (by simp) (by omega)
    rw [if_neg (by omega)] at z
    obtain ⟨rfl, f2, m2⟩ := z
    have e2' : F_X11_opens [.ref 166, .int 13] h5 = _ := e2
    refine w_sq.mpr (w_siC false h6 (by simp only [f_mkF, w_sI, w_sR, w_sL, w_sC, w_sk, w_sbr, w_sco, w_rV, w_rI, w_rR, w_rL, w_dI, w_sO, w_sq, w_si, w_pI, w_pZ, w_pR, w_pU, w_qI, w_qB, w_qZ, w_qU, w_qR, w_kV, q_icst, q_lcst, q_xR, q_ldI, q_ldR, q_ldL, q_bn, q_un, q_dv, q_fI, q_fR, q_aI, q_aR, q_aN, q_tn, q_cmp, q_cmz, q_cnt, q_ctt, q_cand, q_cor, q_vn, q_vI, q_vR, q_vL, q_kI, q_kR, q_kL, q_ckI, envN, argE, List.flatMap_cons, List.flatMap_nil, Value.category, junk, oadd, osub, omul, oand, oor, oxor, odiv, orem, oshl, oshr, oushr, omax, omin]; simp (disch := first | omega | simp) [rk_i, rk_b, rk_o, st1, kill, Value.category, rcv, nog, hn1, ly166, fq_of e2']) (fun z => by cases z) fun _ => w_sk2.mpr ?_)
    have g6 : GN s e h h6 (p + 1) (6 - 5) ([] ++ nts 0 ++ [(13, 0)]) L := ⟨q1.c f2, m2, f1.trans f2, by omega, by simp [nts_l], by simp [nn, nts]; omega⟩
    have wa : WAc (fun v h' => OSc s e h L V (some v) h' ∧ rok (some FieldType.boolean) v = true) h6 := by
      refine K_cnd hz (K_pce hz 5 (by omega)) _ L (p + 1) h6 g6 (hiM.one (by show 10 ≤ 13; omega)) (by simp) (TOP.snoc (by simp)) (fun f zf h' f3 z3 => ?_) fun p' C h' pn L' zf g' hln hpt n38 n124 => ?_
      · rw [zf] at hV
        rw [← hV]
        exact ⟨⟨f3, rfl, z3⟩, rfl⟩
      · rw [zf] at hV
        unfold expP at hV
        simp only at hV
        by_cases c41 : s p' = 41
        · rw [if_pos c41] at hV
          refine B_close (o := 0) (j := 0) g' c41 (by omega) (fun x hx => ?_) (fun l x z => by simp at z) (fun _ h7 g7 => ?_) fun zz => ?_
          · obtain ⟨y1, y2⟩ := hln x hx
            refine ⟨?_, y2⟩
            unfold lanM
            simp
            omega
          · rw [hpt] at g7
            rw [← hV]
            exact ⟨⟨g7.2.2.1, rfl, g7⟩, rfl⟩
          · exact absurd rfl zz
        · rw [if_neg c41] at hV
          refine B_bad g' c41 (n38 (by omega)) (n124 (by omega)) fun h' f3 z3 => ?_
          rw [← hV]
          exact ⟨⟨f3, rfl, z3⟩, rfl⟩
    refine wp_mono wa ?_
    rintro o v E h' ⟨rfl, y1, y2⟩
    exact Or.inr ⟨rfl, y2, y1⟩
  · rw [if_neg c] at hV
    have hV2 : V = .error (1000 + p) := hV.symm
    subst hV2
    refine w_sq.mpr ((w_siT (ev_eqt (ev_not (ev_cmpc k1)) (by simp [oeq, a1, c]))).mpr ?_)
    have e5 : F_X11_wrong [.ref 166, .int 1, .int (nI p)] h = _ := m_wrong hn 1 p
    simp only [f_mkF, w_sI, w_sR, w_sL, w_sC, w_sk, w_sbr, w_sco, w_rV, w_rI, w_rR, w_rL, w_dI, w_sO, w_sq, w_si, w_pI, w_pZ, w_pR, w_pU, w_qI, w_qB, w_qZ, w_qU, w_qR, w_kV, q_icst, q_lcst, q_xR, q_ldI, q_ldR, q_ldL, q_bn, q_un, q_dv, q_fI, q_fR, q_aI, q_aR, q_aN, q_tn, q_cmp, q_cmz, q_cnt, q_ctt, q_cand, q_cor, q_vn, q_vI, q_vR, q_vL, q_kI, q_kR, q_kL, q_ckI, envN, argE, List.flatMap_cons, List.flatMap_nil, Value.category, junk, oadd, osub, omul, oand, oor, oxor, odiv, orem, oshl, oshr, oushr, omax, omin]
    simp (disch := first | omega | simp) [rk_i, rk_b, rk_o, st1, kill, Value.category, rcv, nog, hn, ly166, h1, fq_of e5]
    exact ⟨(Fr.refl h).w (by unfold SMr; omega), rfl, by rw [wI_i, if_pos ⟨rfl, rfl⟩]⟩
