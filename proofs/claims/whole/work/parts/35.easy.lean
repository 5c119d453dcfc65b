/-! the methods that hold one number: the two answer alike -/
theorem same_0 {S : Nat → Nat → Prop} {h : Hp} : same S h h := fun _ _ _ => rfl
theorem same_w {S : Nat → Nat → Prop} {h h' : Hp} {a k : Nat} {v : Int32} (hs : same S h h') (hn : ¬ S a k) : same S h (wI h' a k v) := fun x j s => by
  rw [wI_i, if_neg (by rintro ⟨rfl, rfl⟩; exact hn s)]
  exact hs x j s
theorem g_now {LW : Hp → Prop} (hW : LWok LW) : AG (INV LW) F_X10_now F_X11_now 1 := by
  intro n h vs hl hn q
  match vs, hl with
  | [v], _ =>
    have q' := q
    obtain ⟨q0, q1, q2, q3, q4, q5, q6, q7, q8, q9, q10⟩ := q
    have e1 := e_x_now v h q0.1
    rw [q1.1] at e1
    by_cases hc : h.2.1 166 0 ≤ v ∧ v ≤ 599
    · rw [if_pos hc] at e1
      have e2 := e_m_now v (wI h 0 12 v) q0.1
      rw [show (wI h 0 12 v).2.1 166 0 = h.2.1 166 0 from rfl, if_pos hc] at e2
      have c1 : (h.2.1 166 0).toInt ≤ v.toInt := Int32.le_iff_toInt_le.mp hc.1
      have c2 : v.toInt ≤ 599 := Int32.le_iff_toInt_le.mp hc.2
      refine ⟨1, _, _, e1, q0.1, e2, Ip_c rfl rfl q0, ⟨rfl, ?_, ?_⟩, Iper_c (same_w (same_w same_0 ?_) ?_) q2, Isen_c (same_w (same_w same_0 ?_) ?_) q3, Iroa_c (same_w (same_w same_0 ?_) ?_) q4, Itap_c (same_w (same_w same_0 ?_) ?_) q5, Ithi_c (same_w (same_w same_0 ?_) ?_) (Int.le_refl _) q6, Irow_c (same_w (same_w same_0 ?_) ?_) (sameR_of rfl) (Int.le_refl _) c1 q7, Icla_c (same_w (same_w same_0 ?_) ?_) (sameR_of rfl) q8, hW _ _ (same_w (same_w same_0 ?_) ?_) (sameR_of rfl) q9, Icou_c (same_w (same_w same_0 ?_) ?_) q10⟩
      · show 0 ≤ v.toInt
        have := q1.2.1
        omega
      · exact c2
      all_goals (simp [Sper, Ssen, Sroa, Stap, Sthi, Srow, Slaw, Scou])
    · rw [if_neg hc] at e1
      have e2 := e_m_now v h q0.1
      rw [if_neg hc] at e2
      exact ⟨0, _, _, e1, q0.1, e2, INV_up q'⟩
theorem inc_toInt {x : Int32} {n : Nat} (h0 : 0 ≤ x.toInt) (h1 : x.toInt < n) (hn : n < 2 ^ 31) : (x + 1).toInt = x.toInt + 1 := by
  rw [Int32.toInt_add]
  show (x.toInt + 1).bmod (2 ^ 32) = _
  exact Int.bmod_eq_of_le (by omega) (by omega)
theorem g_person {LW : Hp → Prop} (hW : LWok LW) : AG (INV LW) F_X10_person F_X11_person 2 := by
  intro n h vs hl hn q
  match vs, hl with
  | [a, b], _ =>
    have q' := q
    obtain ⟨q0, q1, ⟨p1, p2, p3, p4, p5, p6⟩, q3, q4, q5, q6, q7, q8, q9, q10⟩ := q
    have e1 := e_x_person a b h q0 (by rw [p1]; exact p2.1) (by rw [p1]; exact p2.2)
    rw [p1] at e1
    by_cases hc : (0 ≤ a ∧ a ≤ 5) ∧ (0 ≤ b ∧ b ≤ 1000000) ∧ h.2.1 166 1 ≠ 12
    · rw [if_pos hc] at e1
      have c0 : h.2.1 166 1 ≠ 12 → (h.2.1 166 1).toInt ≠ 12 := fun z z2 => z (Int32.toInt_inj.mp z2)
      have c1 : (h.2.1 166 1).toInt < 12 := by have := c0 hc.2.2; omega
      have c2 := inc_toInt (n := 12) p2.1 c1 (by decide)
      have c3 : 0 ≤ a.toInt := Int32.le_iff_toInt_le.mp hc.1.1
      have c4 : a.toInt ≤ 5 := Int32.le_iff_toInt_le.mp hc.1.2
      have c5 : 0 ≤ b.toInt := Int32.le_iff_toInt_le.mp hc.2.1.1
      have c6 : b.toInt ≤ 1000000 := Int32.le_iff_toInt_le.mp hc.2.1.2
      have e2 := e_m_person a b (wI (wI (wI h 1 (h.2.1 166 1).toNatClampNeg a) 2 (h.2.1 166 1).toNatClampNeg b) 0 13 (h.2.1 166 1 + 1)) (Ip_c rfl rfl q0) p2.1 p2.2
      rw [show (wI (wI (wI h 1 (h.2.1 166 1).toNatClampNeg a) 2 (h.2.1 166 1).toNatClampNeg b) 0 13 (h.2.1 166 1 + 1)).2.1 166 1 = h.2.1 166 1 from rfl, if_pos hc] at e2
      refine ⟨_, _, _, e1, q0.1, e2, Ip_c rfl rfl q0, Iclk_c (same_w (same_w (same_w (same_w (same_w (same_w same_0 ?_) ?_) ?_) ?_) ?_) ?_) q1, ⟨?_, ?_, ?_, ?_, ?_, ?_⟩, Isen_c (same_w (same_w (same_w (same_w (same_w (same_w same_0 ?_) ?_) ?_) ?_) ?_) ?_) q3, Iroa_c (same_w (same_w (same_w (same_w (same_w (same_w same_0 ?_) ?_) ?_) ?_) ?_) ?_) q4, Itap_c (same_w (same_w (same_w (same_w (same_w (same_w same_0 ?_) ?_) ?_) ?_) ?_) ?_) q5, Ithi_c (same_w (same_w (same_w (same_w (same_w (same_w same_0 ?_) ?_) ?_) ?_) ?_) ?_) ?_ q6, Irow_c (same_w (same_w (same_w (same_w (same_w (same_w same_0 ?_) ?_) ?_) ?_) ?_) ?_) (sameR_of rfl) ?_ (Int.le_refl _) q7, Icla_c (same_w (same_w (same_w (same_w (same_w (same_w same_0 ?_) ?_) ?_) ?_) ?_) ?_) (sameR_of rfl) q8, hW _ _ (same_w (same_w (same_w (same_w (same_w (same_w same_0 ?_) ?_) ?_) ?_) ?_) ?_) (sameR_of rfl) q9, Icou_c (same_w (same_w (same_w (same_w (same_w (same_w same_0 ?_) ?_) ?_) ?_) ?_) ?_) q10⟩
      case refine_7 => rfl
      case refine_8 => show 0 ≤ (h.2.1 166 1 + 1).toInt ∧ (h.2.1 166 1 + 1).toInt ≤ 12; omega
      case refine_9 => intro i; simp [wI_i, p3]
      case refine_10 => intro i; simp [wI_i, p4]
      case refine_11 =>
        intro i
        simp only [wI_i]
        simp
        split
        · exact ⟨c3, c4⟩
        · exact p5 i
      case refine_12 =>
        intro i
        simp only [wI_i]
        simp
        split
        · exact ⟨c5, c6⟩
        · exact p6 i
      all_goals first | (show (h.2.1 166 1).toInt ≤ (h.2.1 166 1 + 1).toInt; omega) | (simp [Sclk, Sper, Ssen, Sroa, Stap, Sthi, Srow, Slaw, Scou])
    · rw [if_neg hc] at e1
      have e2 := e_m_person a b h q0 p2.1 p2.2
      rw [if_neg hc] at e2
      exact ⟨_, _, _, e1, q0.1, e2, INV_up q'⟩
theorem dec_toInt {x : Int32} {n : Nat} (h0 : 0 ≤ x.toInt) (h1 : x.toInt ≤ n) (hn : n < 2 ^ 31) : (x - 1).toInt = x.toInt - 1 := by
  rw [Int32.toInt_sub]
  show (x.toInt - 1).bmod (2 ^ 32) = _
  exact Int.bmod_eq_of_le (by omega) (by omega)
theorem le_pred {b x : Int32} {n : Nat} (h0 : 0 ≤ x.toInt) (h1 : x.toInt ≤ n) (hn : n < 2 ^ 31) : b ≤ x - 1 ↔ b < x := by
  rw [Int32.le_iff_toInt_le, Int32.lt_iff_toInt_lt, dec_toInt h0 h1 hn]
  omega
theorem g_thing {LW : Hp → Prop} (hW : LWok LW) : AG (INV LW) F_X10_thing F_X11_thing 3 := by
  intro n h vs hl hn q
  match vs, hl with
  | [a, b, c], _ =>
    have q' := q
    obtain ⟨q0, q1, q2, q3, q4, q5, ⟨t1, t2, t3⟩, q7, q8, q9, q10⟩ := q
    have e1 := e_x_thing a b c h q0 (by rw [t1]; exact t2.1) (by rw [t1]; exact t2.2)
    rw [t1, q2.1] at e1
    simp only [le_pred q2.2.1.1 (n := 12) q2.2.1.2 (by decide)] at e1
    by_cases hc : (1 ≤ a ∧ a ≤ 1000000) ∧ (0 ≤ b ∧ b < h.2.1 166 1) ∧ (0 ≤ c ∧ c ≤ 5) ∧ h.2.1 166 2 ≠ 4
    · rw [if_pos hc] at e1
      have c0 : h.2.1 166 2 ≠ 4 → (h.2.1 166 2).toInt ≠ 4 := fun z z2 => z (Int32.toInt_inj.mp z2)
      have c1 : (h.2.1 166 2).toInt < 4 := by have := c0 hc.2.2.2; omega
      have c2 := inc_toInt (n := 4) t2.1 c1 (by decide)
      have c3 : 1 ≤ a.toInt := Int32.le_iff_toInt_le.mp hc.1.1
      have c4 : a.toInt ≤ 1000000 := Int32.le_iff_toInt_le.mp hc.1.2
      have c5 : 0 ≤ b.toInt := Int32.le_iff_toInt_le.mp hc.2.1.1
      have c6 : b.toInt < (h.2.1 166 1).toInt := Int32.lt_iff_toInt_lt.mp hc.2.1.2
      have c7 : 0 ≤ c.toInt := Int32.le_iff_toInt_le.mp hc.2.2.1.1
      have c8 : c.toInt ≤ 5 := Int32.le_iff_toInt_le.mp hc.2.2.1.2
      have c9 := clampI t2.1
      generalize hi : (h.2.1 166 2).toNatClampNeg = i at *
      have ci : i < 4 := by omega
      generalize hh1 : wI (wI (wI (wI h (28 + 22 * i) 2 a) (28 + 22 * i) 3 b) (28 + 22 * i) 4 c) 0 14 (h.2.1 166 2 + 1) = h1 at e1
      have m2 : h1.2.1 166 2 = h.2.1 166 2 := by
        rw [← hh1]
        simp only [wI_i]
        rw [if_neg (by omega), if_neg (by omega), if_neg (by omega), if_neg (by omega)]
      have m1 : h1.2.1 166 1 = h.2.1 166 1 := by
        rw [← hh1]
        simp only [wI_i]
        rw [if_neg (by omega), if_neg (by omega), if_neg (by omega), if_neg (by omega)]
      have p0 : Ip h1 := by rw [← hh1]; exact Ip_c rfl rfl q0
      have e2 := e_m_thing a b c h1 p0 (by rw [m2]; exact t2.1) (by rw [m2]; exact t2.2)
      rw [m2, m1, if_pos hc, hi] at e2
      have sm : ∀ S : Nat → Nat → Prop, ¬ S (28 + 22 * i) 2 → ¬ S (28 + 22 * i) 3 → ¬ S (28 + 22 * i) 4 → ¬ S 0 14 → ¬ S 169 i → ¬ S 170 i → ¬ S 171 i → ¬ S 172 i → ¬ S 166 2 → same S h (wI (wI (wI (wI (wI h1 169 i a) 170 i b) 171 i c) 172 i 0) 166 2 (h.2.1 166 2 + 1)) := by
        intro S x1 x2 x3 x4 x5 x6 x7 x8 x9
        rw [← hh1]
        exact same_w (same_w (same_w (same_w (same_w (same_w (same_w (same_w (same_w same_0 x1) x2) x3) x4) x5) x6) x7) x8) x9
      have rr : (wI (wI (wI (wI (wI h1 169 i a) 170 i b) 171 i c) 172 i 0) 166 2 (h.2.1 166 2 + 1)).2.2 = h.2.2 := by rw [← hh1]; rfl
      refine ⟨_, _, _, e1, p0.1, e2, Ip_c rfl rfl p0, Iclk_c (sm _ ?_ ?_ ?_ ?_ ?_ ?_ ?_ ?_ ?_) q1, Iper_c (sm _ ?_ ?_ ?_ ?_ ?_ ?_ ?_ ?_ ?_) q2, Isen_c (sm _ ?_ ?_ ?_ ?_ ?_ ?_ ?_ ?_ ?_) q3, Iroa_c (sm _ ?_ ?_ ?_ ?_ ?_ ?_ ?_ ?_ ?_) q4, Itap_c (sm _ ?_ ?_ ?_ ?_ ?_ ?_ ?_ ?_ ?_) q5, ?ithi, ?irow, Icla_c (sm _ ?_ ?_ ?_ ?_ ?_ ?_ ?_ ?_ ?_) (sameR_of rr) q8, hW _ _ (sm _ ?_ ?_ ?_ ?_ ?_ ?_ ?_ ?_ ?_) (sameR_of rr) q9, Icou_c (sm _ ?_ ?_ ?_ ?_ ?_ ?_ ?_ ?_ ?_) q10⟩
      case ithi =>
        refine ⟨?_, ?_, fun t ht => ?_⟩
        · rw [← hh1]
          rfl
        · show 0 ≤ (h.2.1 166 2 + 1).toInt ∧ (h.2.1 166 2 + 1).toInt ≤ 4
          omega
        · have z := t3 t ht
          by_cases hti : t = i
          · subst hti
            rw [← hh1]
            simp only [wI_i]
            simp
            have z1 : (28 + 22 * t = 172) = False := by simp; omega
            have z2 : (28 + 22 * t = 171) = False := by simp; omega
            have z3 : (28 + 22 * t = 170) = False := by simp; omega
            have z4 : (28 + 22 * t = 169) = False := by simp; omega
            have z5 : (28 + 22 * t = 166) = False := by simp; omega
            have z6 : (166 = 28 + 22 * t) = False := by simp; omega
            simp only [z1, z2, z3, z4, z5, z6, false_and, if_false]
            have z7 : (h.2.1 172 t).toInt = 0 := z.2.2.1 (by omega)
            have z8 : h.2.1 172 t = 0 := Int32.toInt_inj.mp z7
            refine ⟨by rw [z.1.1, z8]; simp, fun _ => ⟨⟨c3, c4⟩, ⟨c5, c6⟩, c7, c8⟩⟩
          · have e : ∀ x k, ((x = 169 ∨ x = 170 ∨ x = 171 ∨ x = 172) ∧ k = t) ∨ x = 28 + 22 * t ∨ (x = 166 ∧ k = 1) → (wI (wI (wI (wI (wI h1 169 i a) 170 i b) 171 i c) 172 i 0) 166 2 (h.2.1 166 2 + 1)).2.1 x k = h.2.1 x k := by
              intro x k hx
              refine sm (fun u w => u = x ∧ w = k) ?_ ?_ ?_ ?_ ?_ ?_ ?_ ?_ ?_ x k ⟨rfl, rfl⟩ <;> (rintro ⟨rfl, rfl⟩; omega)
            rw [e 169 t (by omega), e 170 t (by omega), e 171 t (by omega), e 172 t (by omega), e (28 + 22 * t) 1 (by omega), e (28 + 22 * t) 2 (by omega), e (28 + 22 * t) 3 (by omega), e (28 + 22 * t) 4 (by omega), e 166 1 (by omega)]
            rw [show (wI (wI (wI (wI (wI h1 169 i a) 170 i b) 171 i c) 172 i 0) 166 2 (h.2.1 166 2 + 1)).2.1 166 2 = h.2.1 166 2 + 1 from rfl, c2]
            exact ⟨z.1, z.2.1, fun y => z.2.2.1 (by omega), fun y => z.2.2.2 (by omega)⟩
      case irow =>
        intro t ht
        obtain ⟨ra, r1, r2, r3⟩ := q7 t ht
        refine ⟨ra, fun j hj => by rw [rr]; exact r1 j hj, r2, fun j hj hm => ?_⟩
        by_cases hti : t = i
        · subst hti
          exfalso
          revert hm
          simp [wI_i]
        · have e : ∀ x k, (x = 172 ∧ k = t) ∨ (x = 166 ∧ k = 1) ∨ (x = 166 ∧ k = 0) ∨ (30 + 22 * t ≤ x ∧ x < 50 + 22 * t) ∨ (173 ≤ x ∧ x ≤ 180) → (wI (wI (wI (wI (wI h1 169 i a) 170 i b) 171 i c) 172 i 0) 166 2 (h.2.1 166 2 + 1)).2.1 x k = h.2.1 x k := by
            intro x k hx
            refine sm (fun u w => u = x ∧ w = k) ?_ ?_ ?_ ?_ ?_ ?_ ?_ ?_ ?_ x k ⟨rfl, rfl⟩ <;> (rintro ⟨rfl, rfl⟩; omega)
          rw [e 172 t (by omega)] at hm ⊢
          rw [e 166 1 (by omega), e 166 0 (by omega)]
          obtain ⟨s1, s2, s3⟩ := r3 j hj hm
          have me : ∀ j k, k < 8 → mrow (wI (wI (wI (wI (wI h1 169 i a) 170 i b) 171 i c) 172 i 0) 166 2 (h.2.1 166 2 + 1)) t j k = mrow h t j k := fun j k hk => e _ _ (by omega)
          refine ⟨fun k hk => ?_, rowV_c (fun k hk => me j k hk) s2, fun hm2 => ?_⟩
          · rw [me j k hk, e _ _ (by have := r1 j hj; omega)]
            exact s1 k hk
          · rw [me j 3 (by omega), me (j + 1) 3 (by omega)]
            exact s3 hm2
      all_goals (simp only [Sclk, Sper, Ssen, Sroa, Stap, Sthi, Srow, Slaw, Scou]; omega)
    · rw [if_neg hc] at e1
      have e2 := e_m_thing a b c h q0 t2.1 t2.2
      rw [if_neg hc] at e2
      exact ⟨_, _, _, e1, q0.1, e2, INV_up q'⟩
