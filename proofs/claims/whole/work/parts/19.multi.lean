/-! a row of rows -/
def mkm (h : Hp) (n : Nat) : Hp := (h.1 + 1 + n, fun x j => if h.1 ≤ x then 0 else h.2.1 x j, fun x j => if x = h.1 then (if j < n then some (h.1 + 1 + j) else none) else if h.1 ≤ x then none else h.2.2 x j)
def nwM (n k : Nat) (a b : DI) : DR := fun E h => (a E h).bind fun x => (b E x.2).bind fun y => if y.2.1 + n < 1000 ∧ x.1.toInt = n ∧ y.1.toInt = k ∧ n ≤ 100 ∧ k ≤ 100 ∧ LY y.2.1 = (18, n) ∧ (∀ i, i < n → LY (y.2.1 + 1 + i) = (13, k)) then some (y.2.1, mkm y.2 n) else none
theorem SZ_multi {a n k : Nat} (h1 : LY a = (18, n)) (h2 : ∀ i, i < n → LY (a + 1 + i) = (13, k)) : ∀ i, i ≤ n → SZ (a + 1 + i) = SZ a + n + i * k := by
  intro i
  induction i with
  | zero => intro _; have := SZ_succ a; rw [h1] at this; simpa using this
  | succ i ih =>
    intro hi
    have e1 := SZ_succ (a + 1 + i)
    rw [h2 i (by omega), ih (by omega)] at e1
    rw [show a + 1 + (i + 1) = a + 1 + i + 1 by omega, e1, Nat.succ_mul]
    show SZ a + n + i * k + k = _
    omega
section MULTI
variable {G : GG} {own : String} {ini : Bool} {cc : ByteArray} {nL lvl d pc p1 p2 p3 nx br co : Nat}
theorem ev_nwM {n k index : Nat} {a b : DI} (hcl : Cond.classLink own index ("[" ++ (FieldType.array .int).toString) ∈ TWL) (h1 : EV .int G own ini cc nL lvl d pc p1 a) (h2 : EV .int G own ini cc nL lvl (d + 1) p1 p2 b) (hd : decode cc p2 = .ok (.multianewarray index 2, 4)) : EV .ref G own ini cc nL lvl d pc (p2 + 4) (nwM n k a b) := by
  have key : ∀ {E h v h'}, nwM n k a b E h = some (v, h') → ∃ x hx y hy, a E h = some (x, hx) ∧ b E hx = some (y, hy) ∧ (hy.1 + n < 1000 ∧ x.toInt = n ∧ y.toInt = k ∧ n ≤ 100 ∧ k ≤ 100 ∧ LY hy.1 = (18, n) ∧ (∀ i, i < n → LY (hy.1 + 1 + i) = (13, k))) ∧ v = hy.1 ∧ h' = mkm hy n := by
    intro E h v h' ef
    obtain ⟨⟨x, hx⟩, e1, ef⟩ := bind_some2 ef
    obtain ⟨⟨y, hy⟩, e2, ef⟩ := bind_some2 ef
    split at ef
    · rename_i hc
      cases ef
      exact ⟨x, hx, y, hy, e1, e2, hc, rfl, rfl⟩
    · cases ef
  refine ⟨fun E h v h' ef => ?_, fun p e R s m args below meth c Q n0 nm S E st h v h' hst ef hnm kk => ?_⟩
  · obtain ⟨x, hx, y, hy, e1, e2, -, -, rfl⟩ := key ef
    have := h1.1 _ _ _ _ e1
    have := h2.1 _ _ _ _ e2
    show h.1 ≤ hy.1 + 1 + n
    omega
  · obtain ⟨x, hx, y, hy, e1, e2, ⟨c1, c2, c3, c4, c5, c6, c7⟩, rfl, rfl⟩ := key ef
    have hnm : hy.1 + 1 + n ≤ nm := hnm
    have b1 := S.2.2.2.2.2.2.1
    have b2 := S.2.2.2.2.2.2.2.1
    have m2 := h2.1 _ _ _ _ e2
    refine h1.2 p e R s m args below meth c Q n0 nm S E st h x hx hst e1 (by omega) ?_
    refine h2.2 p e R s m args below meth c Q n0 nm S E (.int x :: st) hx y hy (by rw [ct_cons]; show 1 + _ ≤ _; omega) e2 (by omega) ?_
    intro ls H locs hl hr hn0
    have hts := S.2.2.2.2.1.1.all args
    have q2 := SZ_mono hn0
    have q3 := SZ_mono hnm
    have q1 := SZ_multi c6 c7 n (Nat.le_refl _)
    have hK := S.2.2.2.2.1
    have hxn : ¬ x < 0 := by rw [Int32.lt_iff_toInt_lt, Int32.toInt_zero]; omega
    have hyn : ¬ y < 0 := by rw [Int32.lt_iff_toInt_lt, Int32.toInt_zero]; omega
    have hxN : x.toNatClampNeg = n := by rw [← Int32.toNat_toInt]; omega
    have hyN : y.toNatClampNeg = k := by rw [← Int32.toNat_toInt]; omega
    intro T hT Xs
    obtain ⟨vm1, cA, comp, row, fA, fC, hrw, X', step⟩ := mw_multi Xs S.1 S.2.2.2.1 (hts _ hcl) (show (Cond.arrayOver (.array .int)).before args s = true from hK.2.2.1.2.2.2.1) (hK.2.2.1.2.2.2.2 .int (by simp) args) (g := F0 m p2 ls (.int y :: .int x :: st.map (rv G))) rfl (by rw [S.2.1]; exact hd) rfl hxn hyn hxN hyN c4 c5 (by omega) (by omega)
    have hTh : (T.setVm vm1).heap = H := hT
    obtain ⟨f1, f2, hold, hrow⟩ := mws_heap (T.setVm vm1) cA n row n
    generalize mws (T.setVm vm1) cA n row n = Fs at X' step f1 f2 hold hrow
    rw [hTh] at f1 f2 hold hrow
    have hcA : cA = (gD G).1 18 := Option.some.inj (fA.symm.trans (hK.2.1.2 6 _ rfl).2)
    have hcI : comp = (gD G).1 13 := Option.some.inj (fC.symm.trans (hK.2.1.2 1 _ rfl).2)
    subst hcA
    subst hcI
    have hsz := hr.2.2.1
    have hadd : ∀ j, j ≤ n → ad G (hy.1 + j) = H.size + j := fun j hj => by rw [ad_lt G (by omega), hsz]; omega
    have hrel : Rel G (mkm hy n) Fs.heap locs := by
      obtain ⟨r1, r2, r3, r4⟩ := hr
      refine ⟨fun i q hq => ?_, ⟨by rw [f1]; have := r2.1; omega, fun q z1 z2 => (hold q (Nat.lt_of_lt_of_le z1 r2.1)).trans (r2.2.1 q z1 z2), r2.2.2⟩, by rw [f1, r3]; show _ = _ + (hy.1 + 1 + n); omega, by show hy.1 + 1 + n ≤ 1000; omega⟩
      obtain ⟨hli, rfl⟩ := WS_inv G (mkm hy n) hq
      have hli : i < hy.1 + 1 + n := hli
      rcases Nat.lt_trichotomy i hy.1 with hi | hi | hi
      · have e1 : (mkm hy n).2.1 i = hy.2.1 i := funext fun j => by simp [mkm, show ¬ hy.1 ≤ i by omega]
        have e2 : (mkm hy n).2.2 i = hy.2.2 i := funext fun j => by simp [mkm, show ¬ hy.1 ≤ i by omega, show i ≠ hy.1 by omega]
        have e3 : EE G (mkm hy n) i = EE G hy i := by
          have h3 : fE G (mkm hy n) (LY i).1 i = fE G hy (LY i).1 i := funext fun j => by unfold fE; rw [e1, e2]
          unfold EE
          rw [e1, e2, h3]
        rw [e3]
        have hat := r1 i _ (WS_at G hy hi)
        exact hat.kept (hold _ hat.lt)
      · subst hi
        rw [EE_ref (c := 18) (by rw [c6]) (by omega)]
        show Fs.heap[ad G hy.1]? = some (vp_cell _ _)
        rw [show ad G hy.1 = H.size from hadd 0 (by omega), f2, vp_cell_q, c6]
        unfold mwo
        refine congrArg (fun f => some (arrV _ _ f)) (funext fun j => ?_)
        by_cases hj : j < n
        · simp only [mkm, hj, if_true, Option.map_some]
          rw [show hy.1 + 1 + j = hy.1 + (1 + j) by omega, hadd (1 + j) (by omega)]
          rw [show H.size + 1 + j = H.size + (1 + j) by omega]
        · simp [mkm, hj]
      · obtain ⟨j, rfl⟩ : ∃ j, i = hy.1 + 1 + j := ⟨i - hy.1 - 1, by omega⟩
        rw [EE_num (c := 13) (by rw [c7 j (by omega)]) (by omega) (by omega)]
        show Fs.heap[ad G (hy.1 + 1 + j)]? = some (vp_cell _ _)
        rw [show hy.1 + 1 + j = hy.1 + (1 + j) by omega, hadd (1 + j) (by omega), show H.size + (1 + j) = H.size + 1 + j by omega, hrow j (by omega), hrw, vp_cell_i, show hy.1 + (1 + j) = hy.1 + 1 + j by omega, c7 j (by omega)]
        unfold arrV
        simp only [Option.some.injEq]
        congr 1
        apply Array.ext
        · simp
        · intro i h1 h2
          simp [mkm, show hy.1 ≤ hy.1 + 1 + j by omega]
          rfl
    have k1 := kk ls Fs.heap locs hl hrel (by show n0 ≤ hy.1 + 1 + n; omega)
    have z3 : hy.1 - n0 + 1 + n = (mkm hy n).1 - n0 := by show _ = hy.1 + 1 + n - n0; omega
    have z4 : SZ hy.1 - SZ n0 + n + n * k = SZ (mkm hy n).1 - SZ n0 := by show _ = SZ (hy.1 + 1 + n) - SZ n0; omega
    rw [z3, z4] at X'
    obtain ⟨t, a1, b1⟩ := k1 Fs rfl X'
    refine ⟨t, step t ?_, b1⟩
    have k2 : List.map (rv G) (Value.ref hy.1 :: st) = .ref T.heap.size :: st.map (rv G) := by
      show Value.ref (ad G hy.1) :: _ = _
      rw [show ad G hy.1 = H.size from hadd 0 (by omega), hT]
    rw [k2] at a1
    exact a1
end MULTI
