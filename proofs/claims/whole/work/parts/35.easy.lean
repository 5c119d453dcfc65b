/-! the methods that hold one number: the two answer alike -/
theorem same_0 {S : Nat → Nat → Prop} {h : Hp} : same S h h := fun _ _ _ => rfl
theorem same_w {S : Nat → Nat → Prop} {h h' : Hp} {a k : Nat} {v : Int32} (hs : same S h h') (hn : ¬ S a k) : same S h (wI h' a k v) := fun x j s => by
  rw [wI_i, if_neg (by rintro ⟨rfl, rfl⟩; exact hn s)]
  exact hs x j s
theorem g_now {LW : Hp → Prop} (hW : LWok LW) : AG (INV LW) F_X10_now F_X11_now 1 := by
  intro n h vs hl hn q
  match vs, hl with
  | [v], _ =>
    have q' := q
    obtain ⟨q0, q1, q2, q3, q4, q5, q6, q7, q8, q9, q10⟩ := q
    have e1 := e_x_now v h q0.1
    rw [q1.1] at e1
    by_cases hc : h.2.1 166 0 ≤ v ∧ v ≤ 599
    · rw [if_pos hc] at e1
      have e2 := e_m_now v (wI h 0 12 v) q0.1
      rw [show (wI h 0 12 v).2.1 166 0 = h.2.1 166 0 from rfl, if_pos hc] at e2
      have c1 : (h.2.1 166 0).toInt ≤ v.toInt := Int32.le_iff_toInt_le.mp hc.1
      have c2 : v.toInt ≤ 599 := Int32.le_iff_toInt_le.mp hc.2
      refine ⟨1, _, _, e1, q0.1, e2, Ip_c rfl rfl q0, ⟨rfl, ?_, ?_⟩, Iper_c (same_w (same_w same_0 ?_) ?_) q2, Isen_c (same_w (same_w same_0 ?_) ?_) q3, Iroa_c (same_w (same_w same_0 ?_) ?_) q4, Itap_c (same_w (same_w same_0 ?_) ?_) q5, Ithi_c (same_w (same_w same_0 ?_) ?_) (Int.le_refl _) q6, Irow_c (same_w (same_w same_0 ?_) ?_) (sameR_of rfl) (Int.le_refl _) c1 q7, Icla_c (same_w (same_w same_0 ?_) ?_) (sameR_of rfl) q8, hW _ _ (same_w (same_w same_0 ?_) ?_) (sameR_of rfl) q9, Icou_c (same_w (same_w same_0 ?_) ?_) q10⟩
      · show 0 ≤ v.toInt
        have := q1.2.1
        omega
      · exact c2
      all_goals (simp [Sper, Ssen, Sroa, Stap, Sthi, Srow, Slaw, Scou])
    · rw [if_neg hc] at e1
      have e2 := e_m_now v h q0.1
      rw [if_neg hc] at e2
      exact ⟨0, _, _, e1, q0.1, e2, INV_up q'⟩
theorem inc_toInt {x : Int32} {n : Nat} (h0 : 0 ≤ x.toInt) (h1 : x.toInt < n) (hn : n < 2 ^ 31) : (x + 1).toInt = x.toInt + 1 := by
  rw [Int32.toInt_add]
  show (x.toInt + 1).bmod (2 ^ 32) = _
  exact Int.bmod_eq_of_le (by omega) (by omega)
theorem g_person {LW : Hp → Prop} (hW : LWok LW) : AG (INV LW) F_X10_person F_X11_person 2 := by
  intro n h vs hl hn q
  match vs, hl with
  | [a, b], _ =>
    have q' := q
    obtain ⟨q0, q1, ⟨p1, p2, p3, p4, p5, p6⟩, q3, q4, q5, q6, q7, q8, q9, q10⟩ := q
    have e1 := e_x_person a b h q0 (by rw [p1]; exact p2.1) (by rw [p1]; exact p2.2)
    rw [p1] at e1
    by_cases hc : (0 ≤ a ∧ a ≤ 5) ∧ (0 ≤ b ∧ b ≤ 1000000) ∧ h.2.1 166 1 ≠ 12
    · rw [if_pos hc] at e1
      have c0 : h.2.1 166 1 ≠ 12 → (h.2.1 166 1).toInt ≠ 12 := fun z z2 => z (Int32.toInt_inj.mp z2)
      have c1 : (h.2.1 166 1).toInt < 12 := by have := c0 hc.2.2; omega
      have c2 := inc_toInt (n := 12) p2.1 c1 (by decide)
      have c3 : 0 ≤ a.toInt := Int32.le_iff_toInt_le.mp hc.1.1
      have c4 : a.toInt ≤ 5 := Int32.le_iff_toInt_le.mp hc.1.2
      have c5 : 0 ≤ b.toInt := Int32.le_iff_toInt_le.mp hc.2.1.1
      have c6 : b.toInt ≤ 1000000 := Int32.le_iff_toInt_le.mp hc.2.1.2
      have e2 := e_m_person a b (wI (wI (wI h 1 (h.2.1 166 1).toNatClampNeg a) 2 (h.2.1 166 1).toNatClampNeg b) 0 13 (h.2.1 166 1 + 1)) (Ip_c rfl rfl q0) p2.1 p2.2
      rw [show (wI (wI (wI h 1 (h.2.1 166 1).toNatClampNeg a) 2 (h.2.1 166 1).toNatClampNeg b) 0 13 (h.2.1 166 1 + 1)).2.1 166 1 = h.2.1 166 1 from rfl, if_pos hc] at e2
      refine ⟨_, _, _, e1, q0.1, e2, Ip_c rfl rfl q0, Iclk_c (same_w (same_w (same_w (same_w (same_w (same_w same_0 ?_) ?_) ?_) ?_) ?_) ?_) q1, ⟨?_, ?_, ?_, ?_, ?_, ?_⟩, Isen_c (same_w (same_w (same_w (same_w (same_w (same_w same_0 ?_) ?_) ?_) ?_) ?_) ?_) q3, Iroa_c (same_w (same_w (same_w (same_w (same_w (same_w same_0 ?_) ?_) ?_) ?_) ?_) ?_) q4, Itap_c (same_w (same_w (same_w (same_w (same_w (same_w same_0 ?_) ?_) ?_) ?_) ?_) ?_) q5, Ithi_c (same_w (same_w (same_w (same_w (same_w (same_w same_0 ?_) ?_) ?_) ?_) ?_) ?_) ?_ q6, Irow_c (same_w (same_w (same_w (same_w (same_w (same_w same_0 ?_) ?_) ?_) ?_) ?_) ?_) (sameR_of rfl) ?_ (Int.le_refl _) q7, Icla_c (same_w (same_w (same_w (same_w (same_w (same_w same_0 ?_) ?_) ?_) ?_) ?_) ?_) (sameR_of rfl) q8, hW _ _ (same_w (same_w (same_w (same_w (same_w (same_w same_0 ?_) ?_) ?_) ?_) ?_) ?_) (sameR_of rfl) q9, Icou_c (same_w (same_w (same_w (same_w (same_w (same_w same_0 ?_) ?_) ?_) ?_) ?_) ?_) q10⟩
      case refine_7 => rfl
      case refine_8 => show 0 ≤ (h.2.1 166 1 + 1).toInt ∧ (h.2.1 166 1 + 1).toInt ≤ 12; omega
      case refine_9 => intro i; simp [wI_i, p3]
      case refine_10 => intro i; simp [wI_i, p4]
      case refine_11 =>
        intro i
        simp only [wI_i]
        simp
        split
        · exact ⟨c3, c4⟩
        · exact p5 i
      case refine_12 =>
        intro i
        simp only [wI_i]
        simp
        split
        · exact ⟨c5, c6⟩
        · exact p6 i
      all_goals first | (show (h.2.1 166 1).toInt ≤ (h.2.1 166 1 + 1).toInt; omega) | (simp [Sclk, Sper, Ssen, Sroa, Stap, Sthi, Srow, Slaw, Scou])
    · rw [if_neg hc] at e1
      have e2 := e_m_person a b h q0 p2.1 p2.2
      rw [if_neg hc] at e2
      exact ⟨_, _, _, e1, q0.1, e2, INV_up q'⟩
