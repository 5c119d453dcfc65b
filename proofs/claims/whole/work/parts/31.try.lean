theorem fq_eq {F : FN} {vs : List Value} {h H : Hp} {R : Option Value} : fq F vs h (fun r h' => r = R ∧ h' = H) ↔ F vs h = some (R, H) := by
  constructor
  · rintro ⟨r, h', e, rfl, rfl⟩
    exact e
  · intro e
    exact ⟨R, H, e, rfl, rfl⟩
theorem t_in (v lo hi : Int32) (h : Hp) : F_X11_in [.int v, .int lo, .int hi] h = some (some (.int (if lo ≤ v ∧ v ≤ hi then 1 else 0)), h) := by
  rw [← fq_eq]
  unfold F_X11_in
  simp only [f_mkF, w_rI, q_tn, q_cand, q_cnt, q_cmp, q_ldI, q_icst, envN, argE, List.flatMap_cons, List.flatMap_nil, Value.category, junk]
  simp
  trace_state
  sorry
