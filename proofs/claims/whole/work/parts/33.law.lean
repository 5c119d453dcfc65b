/-! PURE out of an invariant: what is left is a lemma a method -/
theorem q_sA {G : GG} {E : En} {h : Hp} {a : DR} {b : DI} {P : Int32 → Hp → Prop} : ev (sA G a b) E h P ↔ ev a E h fun x h1 => ev b E h1 fun y h2 => (x = 1001 ∧ inI y G.2.2.2.2.1 = true) ∧ P (G.2.2.2.2.2 y.toNatClampNeg) h2 := by
  constructor
  · rintro ⟨v, h', e, p⟩
    obtain ⟨⟨x, h1⟩, e1, e⟩ := bind_some2 e
    obtain ⟨⟨y, h2⟩, e2, e⟩ := bind_some2 e
    split at e
    · rename_i hc
      cases e
      exact ⟨x, h1, e1, y, h2, e2, hc, p⟩
    · cases e
  · rintro ⟨x, h1, e1, y, h2, e2, hc, p⟩
    exact ⟨_, h2, by simp [sA, e1, e2, hc], p⟩
theorem q_sN {G : GG} {E : En} {h : Hp} {a : DR} {P : Int32 → Hp → Prop} : ev (sN G a) E h P ↔ ev a E h fun x h1 => x = 1001 ∧ P (Int32.ofNat G.2.2.2.2.1) h1 := by
  constructor
  · rintro ⟨v, h', e, p⟩
    obtain ⟨⟨x, h1⟩, e1, e⟩ := bind_some2 e
    split at e
    · rename_i hc
      cases e
      exact ⟨x, h1, e1, hc, p⟩
    · cases e
  · rintro ⟨x, h1, e1, hc, p⟩
    exact ⟨_, h1, by simp [sN, e1, hc], p⟩
/-- the two methods answer alike, and the invariant goes on -/
def AG (INV : Nat → Hp → Prop) (Fx Fm : FN) (k : Nat) : Prop := ∀ (n : Nat) (h : Hp) (vs : List Int32), vs.length = k → n < 512 → INV n h → ∃ (r : Int32) (h1 h2 : Hp), Fx (.ref 0 :: vs.map Value.int) h = some (some (.int r), h1) ∧ h1.1 = 212 ∧ Fm (.ref 166 :: vs.map Value.int) h1 = some (some (.int r), h2) ∧ INV (n + 1) h2
def argL (G : GG) (r : Nat) : Nat → DA
  | 0 => vR vn (ldR r)
  | k + 1 => vI (argL G r k) (sA G (ldR 0) (bn oadd (ldI 3) (icst (Int32.ofNat (k + 1)))))
def armL (G : GG) (Fx Fm : FN) (k : Nat) : Sm := sq (si (cnt (cmp oeq (kI (rcv 10) Fx (argL G 1 k)) (kI (rcv 11) Fm (argL G 2 k)))) (rI (icst 0)) sk) sbr
abbrev lawE (j : Nat) : En := [.ref 1001, .ref 0, .ref 166, .int (nI (10 * j))]
theorem inI_nI {a n : Nat} (h : a < n) (hn : n < 2 ^ 31) : inI (nI a) n = true := by
  unfold inI
  rw [nI_toInt (by omega)]
  simp
  omega
theorem argL_ok {G : GG} {r a j : Nat} (hr : (lawE j)[r]? = some (.ref a)) (hL : G.2.2.2.2.1 ≤ 5120) (hj : 10 * j + 10 ≤ G.2.2.2.2.1) (h : Hp) : ∀ k, k ≤ 9 → argL G r k (lawE j) h = some (.ref a :: ((List.range k).map fun q => G.2.2.2.2.2 (10 * j + (q + 1))).map Value.int, h) := by
  intro k
  induction k with
  | zero => intro _; simp [argL, vR, vn, ldR, hr]
  | succ k ih =>
    intro hk
    have e1 := ih (by omega)
    have e2 : nI (10 * j) + Int32.ofNat (k + 1) = nI (10 * j + (k + 1)) := nI_add _ _
    have e3 : inI (nI (10 * j + (k + 1))) G.2.2.2.2.1 = true := inI_nI (by omega) (by omega)
    have e4 : (nI (10 * j + (k + 1))).toNatClampNeg = 10 * j + (k + 1) := nI_clamp (by omega)
    have e5 : sA G (ldR 0) (bn oadd (ldI 3) (icst (Int32.ofNat (k + 1)))) (lawE j) h = some (G.2.2.2.2.2 (10 * j + (k + 1)), h) := by
      have e6 : bn oadd (ldI 3) (icst (Int32.ofNat (k + 1))) (lawE j) h = some (nI (10 * j + (k + 1)), h) := by rw [← e2]; rfl
      have e7 : ldR 0 (lawE j) h = some (1001, h) := rfl
      generalize bn oadd (ldI 3) (icst (Int32.ofNat (k + 1))) = B at e6 ⊢
      simp [sA, e7, e6, e3, e4]
    simp only [argL, vI, e1, e5, Option.bind_some]
    rw [List.range_succ]
    simp
theorem arm_ok {INV : Nat → Hp → Prop} (hI2 : ∀ n h, INV n h → h.1 = 212) {Fx Fm : FN} {k : Nat} (hk : k ≤ 9) (g : AG INV Fx Fm k) {G : GG} {j : Nat} {h : Hp} (hL : G.2.2.2.2.1 ≤ 5120) (hj : 10 * j + 10 ≤ G.2.2.2.2.1) (hI : INV j h) : wp (armL G Fx Fm k) (lawE j) h fun o _ E1 h2 => o = 3 ∧ E1 = lawE j ∧ INV (j + 1) h2 := by
  obtain ⟨r, h1, h2, e1, e2, e3, e4⟩ := g j h ((List.range k).map fun q => G.2.2.2.2.2 (10 * j + (q + 1))) (by simp) (by omega) hI
  have a1 := argL_ok (r := 1) (a := 0) rfl hL hj h k hk
  have a2 := argL_ok (r := 2) (a := 166) rfl hL hj h1 k hk
  have k1 : kI (rcv 10) Fx (argL G 1 k) (lawE j) h = some (r, h1) := by
    unfold kI
    rw [a1]
    have : rcv 10 (Value.ref 0 :: ((List.range k).map fun q => G.2.2.2.2.2 (10 * j + (q + 1))).map Value.int) h = true := by
      simp [rcv, hI2 _ _ hI, ly0]
    simp only [Option.bind_some, this, if_true, e1]
  have k2 : kI (rcv 11) Fm (argL G 2 k) (lawE j) h1 = some (r, h2) := by
    unfold kI
    rw [a2]
    have : rcv 11 (Value.ref 166 :: ((List.range k).map fun q => G.2.2.2.2.2 (10 * j + (q + 1))).map Value.int) h1 = true := by
      simp [rcv, e2, ly166]
    simp only [Option.bind_some, this, if_true, e3]
  refine ⟨3, .null, lawE j, h2, ?_, rfl, rfl, e4⟩
  simp [armL, sq, si, cnt, cmp, k1, k2, sk, sbr, oeq]
set_option maxRecDepth 10000 in
theorem law_arms (G : GG) : F_law G = sq (sR 1 (nwO 10 F_X10_init vn)) (sq (sR 2 (nwO 11 F_X11_init vn)) (sq (sq (sI 3 (icst 0)) (lp (cnt (cmp ogt (ldI 3) (bn osub (sN G (ldR 0)) (icst 10)))) (sw (bn oand (sA G (ldR 0) (ldI 3)) (icst 31)) 0 [armL G F_X10_now F_X11_now 1, armL G F_X10_person F_X11_person 2, armL G F_X10_thing F_X11_thing 3, armL G F_X10_passing F_X11_passing 9, armL G F_X10_mind F_X11_mind 4, armL G F_X10_feed F_X11_feed 5, armL G F_X10_law F_X11_law 2, armL G F_X10_sends F_X11_sends 3, armL G F_X10_rules F_X11_rules 4, armL G F_X10_whose F_X11_whose 2, armL G F_X10_title F_X11_title 3, armL G F_X10_when F_X11_when 4, armL G F_X10_holds F_X11_holds 1, armL G F_X10_register F_X11_register 1, armL G F_X10_may F_X11_may 2, armL G F_X10_hangs F_X11_hangs 2, armL G F_X10_asked F_X11_asked 4, armL G F_X10_back F_X11_back 2, armL G F_X10_out F_X11_out 3, armL G F_X10_joined F_X11_joined 4, armL G F_X10_road F_X11_road 3, armL G F_X10_cheapest F_X11_cheapest 6, armL G F_X10_stopped F_X11_stopped 6, armL G F_X10_check F_X11_check 3, armL G F_X10_look F_X11_look 3, armL G F_X10_count F_X11_count 1] sbr) (sC 3 10))) (rI (icst 1)))) := rfl
theorem pure_of {INV : Nat → Hp → Prop} (hI2 : ∀ n h, INV n h → h.1 = 212) (hC : ∀ E E', ∃ h1 h2, nwO 10 F_X10_init vn E h00 = some (0, h1) ∧ nwO 11 F_X11_init vn E' h1 = some (166, h2) ∧ INV 0 h2) (g0 : AG INV F_X10_now F_X11_now 1) (g1 : AG INV F_X10_person F_X11_person 2) (g2 : AG INV F_X10_thing F_X11_thing 3) (g3 : AG INV F_X10_passing F_X11_passing 9) (g4 : AG INV F_X10_mind F_X11_mind 4) (g5 : AG INV F_X10_feed F_X11_feed 5) (g6 : AG INV F_X10_law F_X11_law 2) (g7 : AG INV F_X10_sends F_X11_sends 3) (g8 : AG INV F_X10_rules F_X11_rules 4) (g9 : AG INV F_X10_whose F_X11_whose 2) (g10 : AG INV F_X10_title F_X11_title 3) (g11 : AG INV F_X10_when F_X11_when 4) (g12 : AG INV F_X10_holds F_X11_holds 1) (g13 : AG INV F_X10_register F_X11_register 1) (g14 : AG INV F_X10_may F_X11_may 2) (g15 : AG INV F_X10_hangs F_X11_hangs 2) (g16 : AG INV F_X10_asked F_X11_asked 4) (g17 : AG INV F_X10_back F_X11_back 2) (g18 : AG INV F_X10_out F_X11_out 3) (g19 : AG INV F_X10_joined F_X11_joined 4) (g20 : AG INV F_X10_road F_X11_road 3) (g21 : AG INV F_X10_cheapest F_X11_cheapest 6) (g22 : AG INV F_X10_stopped F_X11_stopped 6) (g23 : AG INV F_X10_check F_X11_check 3) (g24 : AG INV F_X10_look F_X11_look 3) (g25 : AG INV F_X10_count F_X11_count 1) (hup : ∀ n h, INV n h → INV (n + 1) h) : PURE := by
  intro G hL
  obtain ⟨h1, h2, c1, c2, c3⟩ := hC (envN 4 [.ref 1001]) [.ref 1001, .ref 0, junk, junk]
  have main : wp (F_law G) (envN 4 [.ref 1001]) h00 fun o v _ h' => o = 2 ∧ v = .int 1 ∧ h'.1 = 212 := by
    rw [law_arms]
    rw [w_sq, w_sR]
    refine ⟨0, h1, c1, fun _ => ?_, fun z => absurd rfl z⟩
    rw [w_sq, w_sR]
    refine ⟨166, h2, c2, fun _ => ?_, fun z => absurd rfl z⟩
    rw [w_sq, w_sq, w_sI, q_icst]
    refine ⟨fun _ => ?_, fun z => absurd rfl z⟩
    have hE : st1 (st1 (st1 (envN 4 [.ref 1001]) 1 (.ref 0)) 2 (.ref 166)) 3 (.int 0) = lawE 0 := rfl
    show wp _ (st1 (st1 (st1 (envN 4 [.ref 1001]) 1 (.ref 0)) 2 (.ref 166)) 3 (.int 0)) h2 _
    rw [hE]
    refine w_lp (fun k E h => ∃ j, k + j = 513 ∧ E = lawE j ∧ INV j h) ?_ 513 (lawE 0) h2 ⟨0, rfl, rfl, c3⟩
    rintro k E h ⟨j, hk, rfl, hI⟩
    have hcond : ogt (nI (10 * j)) (Int32.ofNat G.2.2.2.2.1 - 10) = decide (G.2.2.2.2.1 < 10 * j + 10) := by
      show decide (Int32.ofNat G.2.2.2.2.1 - 10 < nI (10 * j)) = _
      have e1 : (Int32.ofNat G.2.2.2.2.1 - 10).toInt = (G.2.2.2.2.1 : Int) - 10 := pk_sub_toInt (a := G.2.2.2.2.1) (b := 10) (by omega) (by omega)
      have e2 : (nI (10 * j)).toInt = ((10 * j : Nat) : Int) := nI_toInt (by omega)
      rw [decide_eq_decide, Int32.lt_iff_toInt_lt, e1, e2]
      omega
    rw [q_cnt, q_cmp, q_ldI]
    refine ⟨nI (10 * j), rfl, ?_⟩
    rw [q_bn, q_sN, q_ldR]
    refine ⟨1001, rfl, rfl, ?_⟩
    rw [q_icst]
    show ((!(ogt (nI (10 * j)) (Int32.ofNat G.2.2.2.2.1 - 10))) = false → _) ∧ ((!(ogt (nI (10 * j)) (Int32.ofNat G.2.2.2.2.1 - 10))) = true → _)
    rw [hcond]
    constructor
    · intro _
      refine ⟨fun _ => ?_, fun z => absurd rfl z⟩
      rw [w_rI, q_icst]
      exact ⟨rfl, rfl, hI2 _ _ hI⟩
    · intro hc
      have hj : 10 * j + 10 ≤ G.2.2.2.2.1 := by
        simp only [Bool.not_eq_true', decide_eq_false_iff_not] at hc
        omega
      have harm : ∀ s ∈ [armL G F_X10_now F_X11_now 1, armL G F_X10_person F_X11_person 2, armL G F_X10_thing F_X11_thing 3, armL G F_X10_passing F_X11_passing 9, armL G F_X10_mind F_X11_mind 4, armL G F_X10_feed F_X11_feed 5, armL G F_X10_law F_X11_law 2, armL G F_X10_sends F_X11_sends 3, armL G F_X10_rules F_X11_rules 4, armL G F_X10_whose F_X11_whose 2, armL G F_X10_title F_X11_title 3, armL G F_X10_when F_X11_when 4, armL G F_X10_holds F_X11_holds 1, armL G F_X10_register F_X11_register 1, armL G F_X10_may F_X11_may 2, armL G F_X10_hangs F_X11_hangs 2, armL G F_X10_asked F_X11_asked 4, armL G F_X10_back F_X11_back 2, armL G F_X10_out F_X11_out 3, armL G F_X10_joined F_X11_joined 4, armL G F_X10_road F_X11_road 3, armL G F_X10_cheapest F_X11_cheapest 6, armL G F_X10_stopped F_X11_stopped 6, armL G F_X10_check F_X11_check 3, armL G F_X10_look F_X11_look 3, armL G F_X10_count F_X11_count 1], wp s (lawE j) h fun o _ E1 h2 => o = 3 ∧ E1 = lawE j ∧ INV (j + 1) h2 := by
        simp only [List.forall_mem_cons, List.not_mem_nil, false_implies, implies_true, and_true]
        exact ⟨arm_ok hI2 (by decide) g0 hL hj hI, arm_ok hI2 (by decide) g1 hL hj hI, arm_ok hI2 (by decide) g2 hL hj hI, arm_ok hI2 (by decide) g3 hL hj hI, arm_ok hI2 (by decide) g4 hL hj hI, arm_ok hI2 (by decide) g5 hL hj hI, arm_ok hI2 (by decide) g6 hL hj hI, arm_ok hI2 (by decide) g7 hL hj hI, arm_ok hI2 (by decide) g8 hL hj hI, arm_ok hI2 (by decide) g9 hL hj hI, arm_ok hI2 (by decide) g10 hL hj hI, arm_ok hI2 (by decide) g11 hL hj hI, arm_ok hI2 (by decide) g12 hL hj hI, arm_ok hI2 (by decide) g13 hL hj hI, arm_ok hI2 (by decide) g14 hL hj hI, arm_ok hI2 (by decide) g15 hL hj hI, arm_ok hI2 (by decide) g16 hL hj hI, arm_ok hI2 (by decide) g17 hL hj hI, arm_ok hI2 (by decide) g18 hL hj hI, arm_ok hI2 (by decide) g19 hL hj hI, arm_ok hI2 (by decide) g20 hL hj hI, arm_ok hI2 (by decide) g21 hL hj hI, arm_ok hI2 (by decide) g22 hL hj hI, arm_ok hI2 (by decide) g23 hL hj hI, arm_ok hI2 (by decide) g24 hL hj hI, arm_ok hI2 (by decide) g25 hL hj hI⟩
      rw [w_sw, q_bn, q_sA, q_ldR]
      refine ⟨1001, rfl, ?_⟩
      rw [q_ldI]
      refine ⟨nI (10 * j), rfl, ⟨rfl, inI_nI (by omega) (by omega)⟩, ?_⟩
      rw [q_icst]
      have hbr : wp sbr (lawE j) h fun o _ E1 h2 => o = 3 ∧ E1 = lawE j ∧ (INV (j + 1) h2 ∨ INV j h2) := by
        rw [w_sbr]
        exact ⟨rfl, rfl, Or.inr hI⟩
      have hall : ∀ f : Sm, (f = sbr ∨ f ∈ [armL G F_X10_now F_X11_now 1, armL G F_X10_person F_X11_person 2, armL G F_X10_thing F_X11_thing 3, armL G F_X10_passing F_X11_passing 9, armL G F_X10_mind F_X11_mind 4, armL G F_X10_feed F_X11_feed 5, armL G F_X10_law F_X11_law 2, armL G F_X10_sends F_X11_sends 3, armL G F_X10_rules F_X11_rules 4, armL G F_X10_whose F_X11_whose 2, armL G F_X10_title F_X11_title 3, armL G F_X10_when F_X11_when 4, armL G F_X10_holds F_X11_holds 1, armL G F_X10_register F_X11_register 1, armL G F_X10_may F_X11_may 2, armL G F_X10_hangs F_X11_hangs 2, armL G F_X10_asked F_X11_asked 4, armL G F_X10_back F_X11_back 2, armL G F_X10_out F_X11_out 3, armL G F_X10_joined F_X11_joined 4, armL G F_X10_road F_X11_road 3, armL G F_X10_cheapest F_X11_cheapest 6, armL G F_X10_stopped F_X11_stopped 6, armL G F_X10_check F_X11_check 3, armL G F_X10_look F_X11_look 3, armL G F_X10_count F_X11_count 1]) → wp f (lawE j) h fun o _ E1 h2 => o = 3 ∧ E1 = lawE j ∧ (INV (j + 1) h2 ∨ INV j h2) := by
        rintro f (rfl | hf)
        · exact hbr
        · exact wp_mono (harm f hf) fun o v E1 h2 q => ⟨q.1, q.2.1, Or.inl q.2.2⟩
      refine wp_mono (hall _ ?_) ?_
      · split
        · exact Or.inl rfl
        · cases hq : ([armL G F_X10_now F_X11_now 1, armL G F_X10_person F_X11_person 2, armL G F_X10_thing F_X11_thing 3, armL G F_X10_passing F_X11_passing 9, armL G F_X10_mind F_X11_mind 4, armL G F_X10_feed F_X11_feed 5, armL G F_X10_law F_X11_law 2, armL G F_X10_sends F_X11_sends 3, armL G F_X10_rules F_X11_rules 4, armL G F_X10_whose F_X11_whose 2, armL G F_X10_title F_X11_title 3, armL G F_X10_when F_X11_when 4, armL G F_X10_holds F_X11_holds 1, armL G F_X10_register F_X11_register 1, armL G F_X10_may F_X11_may 2, armL G F_X10_hangs F_X11_hangs 2, armL G F_X10_asked F_X11_asked 4, armL G F_X10_back F_X11_back 2, armL G F_X10_out F_X11_out 3, armL G F_X10_joined F_X11_joined 4, armL G F_X10_road F_X11_road 3, armL G F_X10_cheapest F_X11_cheapest 6, armL G F_X10_stopped F_X11_stopped 6, armL G F_X10_check F_X11_check 3, armL G F_X10_look F_X11_look 3, armL G F_X10_count F_X11_count 1])[((oand (G.2.2.2.2.2 (nI (10 * j)).toNatClampNeg) 31).toInt - 0).toNat]? with
          | none => exact Or.inl rfl
          | some f => exact Or.inr (List.mem_of_getElem? hq)
      · rintro o v E1 h3 ⟨rfl, rfl, hI3⟩
        refine ⟨fun _ => ?_, fun z => by simp at z, fun z => absurd rfl z⟩
        rw [w_sC]
        refine ⟨nI (10 * j), rfl, rfl, k - 1, by omega, j + 1, by omega, ?_, ?_⟩
        · show [Value.ref 1001, .ref 0, .ref 166, .int (nI (10 * j) + 10)] = _
          rw [show nI (10 * j) + 10 = nI (10 * (j + 1)) from nI_add (10 * j) 10]
        · rcases hI3 with q | q
          · exact q
          · exact hup j h3 q
  obtain ⟨o, v, E', h', e, rfl, rfl, q⟩ := main
  exact ⟨E', h', e, by omega⟩
