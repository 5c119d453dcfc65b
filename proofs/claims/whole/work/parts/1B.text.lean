section TEXT2
variable {G : GG} {own : String} {ini : Bool} {cc : ByteArray} {nL lvl d pc p1 p2 p3 p4 p5 nx br co : Nat}
theorem xv_of {x : Nat} (h : x = 1004 ∨ x = 1005) : ∃ i, i < 2 ∧ x = 1004 + i ∧ [8, 13].getD i 0 = xL x := by
  rcases h with rfl | rfl
  · exact ⟨0, by decide, rfl, rfl⟩
  · exact ⟨1, by decide, rfl, rfl⟩
theorem ev_xN {a : DR} (h1 : EV .ref G own ini cc nL lvl d pc p1 a) (hd : decode cc p1 = .ok (.arraylength, 1)) : EV .int G own ini cc nL lvl d pc (p1 + 1) (xN a) := by
  have key : ∀ {E h v h'}, xN a E h = some (v, h') → ∃ x, a E h = some (x, h') ∧ (x = 1004 ∨ x = 1005) ∧ v = Int32.ofNat (xL x) := by
    intro E h v h' ef
    obtain ⟨⟨x, hx⟩, e1, ef⟩ := bind_some2 ef
    split at ef
    · rename_i hc
      cases ef
      exact ⟨x, e1, hc, rfl⟩
    · cases ef
  refine ⟨fun E h v h' ef => ?_, fun p e R s m args below meth c Q n0 nm S E st h v h' hst ef hnm kk => ?_⟩
  · obtain ⟨x, e1, -⟩ := key ef
    exact h1.1 _ _ _ _ e1
  · obtain ⟨x, e1, c1, rfl⟩ := key ef
    refine h1.2 p e R s m args below meth c Q n0 nm S E st h x h' hst e1 hnm ?_
    intro ls H locs hl' hr hn'
    obtain ⟨i, hi, rfl, hlen⟩ := xv_of c1
    obtain ⟨cell, z1, z2, z3, z4, z5, z6, z7⟩ := (S.2.2.2.2.1.2.2.2.2.2.2.2.2.1.1 i hi).2.2.2
    have hlt := (Array.getElem?_eq_some_iff.mp z1).1
    have k1 := kk ls H locs hl' hr hn'
    show W p G.1 e R s m args below meth c H locs _ _ Q (F0 m p1 ls (.ref (ad G (1004 + i)) :: st.map (rv G)))
    rw [ad_x (by omega)]
    exact W.alen S.1 S.2.1 (by rw [hr.2.1.2.1 _ hlt z7]; exact z1) z2 (by rw [z5, hlen]) rfl rfl hd k1
theorem ev_xB {a : DR} {b : DI} (h1 : EV .ref G own ini cc nL lvl d pc p1 a) (h2 : EV .int G own ini cc nL lvl (d + 1) p1 p2 b) (hd : decode cc p2 = .ok (.baload, 1)) : EV .int G own ini cc nL lvl d pc (p2 + 1) (xB a b) := by
  have key : ∀ {E h v h'}, xB a b E h = some (v, h') → ∃ x hx y, a E h = some (x, hx) ∧ b E hx = some (y, h') ∧ (x = 1004 ∨ x = 1005) ∧ inI y (xL x) = true ∧ v = (byS.getD (x - 1004) []).getD y.toNatClampNeg 0 := by
    intro E h v h' ef
    obtain ⟨⟨x, hx⟩, e1, ef⟩ := bind_some2 ef
    obtain ⟨⟨y, hy⟩, e2, ef⟩ := bind_some2 ef
    split at ef
    · rename_i hc
      simp only [Option.some.injEq, Prod.mk.injEq] at ef
      obtain ⟨q1, q2⟩ := ef
      subst q2
      exact ⟨x, hx, y, e1, e2, hc.1, hc.2, q1.symm⟩
    · cases ef
  refine ⟨fun E h v h' ef => ?_, fun p e R s m args below meth c Q n0 nm S E st h v h' hst ef hnm kk => ?_⟩
  · obtain ⟨x, hx, y, e1, e2, -⟩ := key ef
    exact Nat.le_trans (h1.1 _ _ _ _ e1) (h2.1 _ _ _ _ e2)
  · obtain ⟨x, hx, y, e1, e2, c1, c3, hv⟩ := key ef
    refine h1.2 p e R s m args below meth c Q n0 nm S E st h x hx hst e1 (Nat.le_trans (h2.1 _ _ _ _ e2) hnm) ?_
    refine h2.2 p e R s m args below meth c Q n0 nm S E (.ref x :: st) hx y h' (by rw [ct_cons]; show 1 + _ ≤ _; omega) e2 hnm ?_
    intro ls H locs hl' hr hn'
    obtain ⟨i, hi, rfl, hlen⟩ := xv_of c1
    obtain ⟨cell, z1, z2, z3, z4, z5, z6, z7⟩ := (S.2.2.2.2.1.2.2.2.2.2.2.2.2.1.1 i hi).2.2.2
    have hlt := (Array.getElem?_eq_some_iff.mp z1).1
    have k1 := kk ls H locs hl' hr hn'
    have hin := inI_vp c3
    have hlt2 : y.toNatClampNeg < xL (1004 + i) := Nat.not_le.mp fun q => hin (Or.inr q)
    show W p G.1 e R s m args below meth c H locs _ _ Q (F0 m p2 ls (.int y :: .ref (ad G (1004 + i)) :: st.map (rv G)))
    rw [ad_x (by omega)]
    refine W.bald (v := .int v) S.1 S.2.1 (by rw [hr.2.1.2.1 _ hlt z7]; exact z1) z2 z3 ?_ ?_ rfl rfl hd k1
    · rintro (q | q)
      · exact hin (Or.inl q)
      · rw [hlen] at z4; omega
    · rw [z6 _ (by rw [hlen]; exact hlt2), hv, Nat.add_sub_cancel_left]
theorem ev_xZ {index : Nat} (hl : Cond.fieldLink own index "java/lang/String" "COMPACT_STRINGS" "Z" ∈ TWL) (hd : decode cc pc = .ok (.getstatic index, 3)) : EV .int G own ini cc nL lvl d pc (pc + 3) xZ := by
  refine ⟨fun E h v h' ef => by cases ef; exact Nat.le_refl _, fun p e R s m args below meth c Q n0 nm S E st h v h' hst ef hnm kk => ?_⟩
  cases ef
  intro ls H locs hl0 hr hn
  have hts := S.2.2.2.2.1.1.all args
  obtain ⟨cf, kf, fi, f, a, cell, z1, z2, z3, z4, z5, z6, z7, z8⟩ := S.2.2.2.2.1.2.2.2.2.2.2.2.2.2
  have hlt : a < (gH G).size := (Array.getElem?_eq_some_iff.mp z5).1
  exact W.gets S.1 S.2.1 S.2.2.2.1 (hts _ hl) z1 z2 z3 z4 (by rw [hr.2.1.2.1 a hlt z8]; exact z5) (fun q => by rw [q] at z6; cases z6) z7 rfl hd (kk ls H locs hl0 hr hn)
/-- a method of one of the two texts is called -/
theorem at_callX {p : Program} {e : Env} {R : Room} {s : State} {m : MethodId} {args : Array Value} {below : List Frame} {meth : Method} {c : Code} {Q : State → Prop} {n0 nm : Nat} {E : En} {st vs : List Value} {h h' : Hp} {r : Option Value} {y : MethodName} {cy : ByteArray} {ny lv n index : Nat} {ret : Option FieldType} {F : FN}
    (S : SU G own ini cc nL lvl p s m meth c R n0 nm) (hC : CT G y cy ny ret lv F) (hlv : lv < lvl) (mv : MVd y cy ny ret n) (ml : Cond.methodLink own index y ∈ TWL) (hyC : y.cls = "java/lang/String") (hd : decode cc pc = .ok (.invokevirtual index, 3)) (hst : ct st ≤ 8) (hF : F vs h = some (r, h')) (hg : rcx vs h = true) (hlen : vs.length = n + 1) (hnm : h'.1 ≤ nm)
    (kk : AT G nL p e R s m args below meth c Q n0 (pc + 3) E (r.toList ++ st) h') : AT G nL p e R s m args below meth c Q n0 pc E (vs.reverse ++ st) h := by
  intro ls H locs hl hr hn
  cases vs with
  | nil => cases hg
  | cons v0 vs =>
    cases v0 with
    | ref x =>
      simp only [rcx, Bool.or_eq_true, decide_eq_true_eq] at hg
      obtain ⟨i, hi, hxi⟩ := xs_of hg
      have m1 := hC.1 _ _ _ _ hF
      have hM := hC.2 _ _ _ _ hF
      have hts := S.2.2.2.2.1.1.all args
      have s1 := SZ_mono hn
      have s2 := SZ_mono m1
      have s3 := SZ_mono hnm
      obtain ⟨mv1, mv2, mv3, mv4, mv5, mv6⟩ := mv
      obtain ⟨cell, z1, z2, z3, z4⟩ := (S.2.2.2.2.1.2.2.2.2.2.2.2.2.1.1 i hi).1
      have hlt := (Array.getElem?_eq_some_iff.mp z1).1
      have hadx : ad G x = G.2.2.2.1 (1002 + i) := by rw [hxi]; exact ad_x (by omega)
      have hp : PreV s H y.cls (ad G x) (PC G (.ref x :: vs) h) (vs.map (rv G)) := ⟨PC_blind G _ h, ⟨cell, by rw [hadx, hr.2.1.2.1 _ hlt z4]; exact z1, z2, by rw [hyC]; exact z3⟩, fun U hU hW => ⟨rfl, S.2.2.2.2.1.moved hW, by rw [hU]; exact hr.less⟩⟩
      have hstk : (F0 m pc ls (List.map (rv G) ((Value.ref x :: vs).reverse ++ st))).stack = (vs.map (rv G)).reverse ++ .ref (ad G x) :: st.map (rv G) := by
        show List.map (rv G) ((Value.ref x :: vs).reverse ++ st) = _
        simp [rv]
      have hW : 2 * (F0 m pc ls (List.map (rv G) ((Value.ref x :: vs).reverse ++ st))).monitorRoom + ((st.map (rv G)).map fun v => v.category).sum ≤ 8 := by
        refine lv_room ?_
        have : (st.map (rv G)).map (fun v => v.category) = st.map (fun v => v.category) := by
          rw [List.map_map]
          exact List.map_congr_left fun v _ => rv_cat v
        rw [this]
        exact hst
      have hf : h.1 - n0 + (h'.1 - h.1) ≤ R.cells ∧ SZ h.1 - SZ n0 + (SZ h'.1 - SZ h.1) ≤ R.slots := by
        have a1 := S.2.2.2.2.2.2.1
        have a2 := S.2.2.2.2.2.2.2.1
        constructor <;> omega
      have hR : (rmd lv (h'.1 - h.1) (SZ h'.1 - SZ h.1)).frames + 1 ≤ R.frames ∧ 8 + (ny + 11) + (rmd lv (h'.1 - h.1) (SZ h'.1 - SZ h.1)).locals ≤ R.locals := by
        obtain ⟨a1, a2⟩ := S.2.2.2.2.2.1
        show lv + 1 ≤ R.frames ∧ 8 + (ny + 11) + 60 * lv ≤ R.locals
        constructor <;> omega
      have hln : (vs.map (rv G)).length = n := by simpa using hlen
      refine w_run (va_runV (As := vs.map (rv G)) (rest := st.map (rv G)) (n := n) (Ts := TWL) ⟨S.1, S.2.1, S.2.2.1, S.2.2.2.1, hts⟩ hM (cwV n hts ?_ rfl rfl rfl ⟨rfl, mv5⟩ hR) hp rfl hln hl.1 hstk hW hd hf) hr m1 hn hl kk
      intro w hw
      simp only [wsV, List.cons_append, List.nil_append, List.mem_cons, List.not_mem_nil, or_false] at hw
      rcases hw with rfl | rfl | rfl | rfl | rfl
      · exact gd1 ml rfl
      · exact gd1 mv1 rfl
      · exact gd1 mv2 rfl
      · exact gd1 mv3 rfl
      · exact gd1 mv4 rfl
    | _ => cases hg
theorem ev_xI {y : MethodName} {cy : ByteArray} {ny lv n index : Nat} {ret : Option FieldType} {F : FN} {a : DA} (hC : CT G y cy ny ret lv F) (hlv : lv < lvl) (mv : MVd y cy ny ret n) (ml : Cond.methodLink own index y ∈ TWL) (hyC : y.cls = "java/lang/String") (h1 : EVs G own ini cc nL lvl d pc p1 a) (hn : ∀ E h v h', a E h = some (v, h') → v.length = n + 1) (h8 : d ≤ 8) (hd : decode cc p1 = .ok (.invokevirtual index, 3)) : EV .int G own ini cc nL lvl d pc (p1 + 3) (kI rcx F a) :=
  ev_call (fun _ _ _ _ e => kI_inv e) hC.1 h1 (fun p e R s m args below meth c Q n0 nm S E st E0 g0 h h' vs r hst e1 hg hF hnm kk => at_callX S hC hlv mv ml hyC hd (Nat.le_trans hst h8) hF hg (hn _ _ _ _ e1) hnm kk)
/-- a row is copied from its beginning into another's -/
theorem s_acp {index : Nat} {a b : DR} {c0 : DI} (ml : Cond.methodLink own index arraycopyName ∈ TWL) (hlv : 1 < lvl) (hw : Cond.native arraycopyName ∈ TWL ∧ Cond.static arraycopyName ∈ TWL ∧ Cond.initialized "java/lang/System" ∈ TWL) (h1 : EV .ref G own ini cc nL lvl 0 pc p1 a) (h2 : EV .int G own ini cc nL lvl 1 p1 p2 (icst 0)) (h3 : EV .ref G own ini cc nL lvl 2 p2 p3 b) (h4 : EV .int G own ini cc nL lvl 3 p3 p4 (icst 0)) (h5 : EV .int G own ini cc nL lvl 4 p4 p5 c0) (hd : decode cc p5 = .ok (.invokestatic index, 3)) : ST G own ini cc nL lvl pc (p5 + 3) br co (acp a b c0) := by
  have key : ∀ {E h o v E' h'}, acp a b c0 E h = some (o, v, E', h') → ∃ x hx y hy n hn, a E h = some (x, hx) ∧ b E hx = some (y, hy) ∧ c0 E hy = some (n, hn) ∧ (x < hn.1 ∧ y < hn.1 ∧ (LY x).1 = 13 ∧ (LY y).1 = 13 ∧ 0 ≤ n.toInt ∧ n.toInt ≤ (LY x).2 ∧ n.toInt ≤ (LY y).2) ∧ o = 0 ∧ E' = E ∧ h' = (hn.1, fun z j => if z = y ∧ j < n.toNatClampNeg then hn.2.1 x j else hn.2.1 z j, hn.2.2) := by
    intro E h o v E' h' ef
    obtain ⟨⟨x, hx⟩, e1, ef⟩ := bind_some2 ef
    obtain ⟨⟨y, hy⟩, e2, ef⟩ := bind_some2 ef
    obtain ⟨⟨n, hn⟩, e3, ef⟩ := bind_some2 ef
    split at ef
    · rename_i hc
      cases ef
      exact ⟨x, hx, y, hy, n, hn, e1, e2, e3, hc, rfl, rfl, rfl⟩
    · cases ef
  refine st_of (fun E h o v E' h' ef => ?_) (fun p e R s m args below meth c Q n0 nm S E h o v E' h' ef hnm kk => ?_)
  · obtain ⟨x, hx, y, hy, n, hn, e1, e2, e3, -, rfl, -, rfl⟩ := key ef
    exact ⟨show h.1 ≤ hn.1 from Nat.le_trans (h1.1 _ _ _ _ e1) (Nat.le_trans (h3.1 _ _ _ _ e2) (h5.1 _ _ _ _ e3)), rfl⟩
  · obtain ⟨x, hx, y, hy, n, hn, e1, e2, e3, ⟨c1, c2, c3, c4, c5, c6, c7⟩, rfl, rfl, rfl⟩ := key ef
    have hnm : hn.1 ≤ nm := hnm
    have m3 := h3.1 _ _ _ _ e2
    have m5 := h5.1 _ _ _ _ e3
    refine h1.2 p e R s m args below meth c Q n0 nm S _ [] h x hx (Nat.le_refl _) e1 (by omega) ?_
    refine h2.2 p e R s m args below meth c Q n0 nm S _ [.ref x] hx 0 hx (Nat.le_refl _) rfl (by omega) ?_
    refine h3.2 p e R s m args below meth c Q n0 nm S _ [.int 0, .ref x] hx y hy (Nat.le_refl _) e2 (by omega) ?_
    refine h4.2 p e R s m args below meth c Q n0 nm S _ [.ref y, .int 0, .ref x] hy 0 hy (Nat.le_refl _) rfl (by omega) ?_
    refine h5.2 p e R s m args below meth c Q n0 nm S _ [.int 0, .ref y, .int 0, .ref x] hy n hn (Nat.le_refl _) e3 hnm ?_
    intro ls H locs hl hr hn0
    have hts := S.2.2.2.2.1.1.all args
    have hK := S.2.2.2.2.1.2.1
    obtain ⟨a1, a2⟩ := S.2.2.2.2.2.1
    have hN : n.toNatClampNeg = n.toInt.toNat := (Int32.toNat_toInt n).symm
    have hnn : ¬ n < 0 := by rw [Int32.lt_iff_toInt_lt, Int32.toInt_zero]; omega
    have ax := hr.1 x _ (WS_at G hn c1)
    have ay := hr.1 y _ (WS_at G hn c2)
    rw [EE_num c3 (by decide) (by decide)] at ax
    rw [EE_num c4 (by decide) (by decide)] at ay
    obtain ⟨-, k0, hk0, cm0, hkk0⟩ := (hK.2 1 _ rfl).1 (LY x).2 (fun j => .int (hn.2.1 x j))
    obtain ⟨-, k1, hk1, cm1, hkk1⟩ := (hK.2 1 _ rfl).1 (LY y).2 (fun j => .int (hn.2.1 y j))
    have hloc : 2 * 0 + 0 + (nativeFrameWords "java/lang/System" "arraycopy" 5 + 11) ≤ R.locals := by
      have : nativeFrameWords "java/lang/System" "arraycopy" 5 + 11 ≤ 60 := by decide
      omega
    intro T hT X
    have ax' : T.heap[ad G x]? = some (arrV ((gD G).1 13) (LY x).2 (fun j => .int (hn.2.1 x j))) := by rw [hT]; exact ax
    have ay' : T.heap[ad G y]? = some (arrV ((gD G).1 13) (LY y).2 (fun j => .int (hn.2.1 y j))) := by rw [hT]; exact ay
    obtain ⟨vm', X', step⟩ := X.arraycopy S.1 S.2.2.2.1 (hts _ ml) (hts _ hw.1) (hts _ hw.2.1) (hts _ hw.2.2) (srcPos := 0) (destPos := 0) (n := n) ax' ay'
      (fun _ h => by cases h) (fun _ h => by cases h) (fun h => by cases h) (fun h => by cases h) hk0 hk1 hkk0 hkk1 (by rfl) (by decide) (by decide) hnn
      (by rw [arrV_size, Int32.toInt_zero]; omega) (by rw [arrV_size, Int32.toInt_zero]; omega)
      (fun vm₁ _ i hi => by
        have e : (arrV ((gD G).1 13) (LY x).2 (fun j => .int (hn.2.1 x j))).slots.getD ((0 : Int32).toNatClampNeg + i) .null = .int (hn.2.1 x i) := by
          rw [Array.getD_eq_getD_getElem?, sb_cl0, Nat.zero_add, arrV_read _ _ (by omega)]
          rfl
        refine ⟨?_, ?_⟩
        · rw [e]; rfl
        · rw [e]; exact trivial)
      (g := F0 m p5 ls (List.map (rv G) [.int n, .int 0, .ref y, .int 0, .ref x])) rfl (by rw [S.2.2.1]; exact hl.1) (rest := []) rfl (by rw [S.2.1]; exact hd) (by omega) hloc
    have ec : copied (arrV ((gD G).1 13) (LY x).2 (fun j => .int (hn.2.1 x j))) (arrV ((gD G).1 13) (LY y).2 (fun j => .int (hn.2.1 y j))) 0 0 n = arrV ((gD G).1 13) (LY y).2 (fun j => .int (va_cpy (hn.2.1 x) (hn.2.1 y) 0 0 n.toNatClampNeg j)) := va_copied (fun z => .int z) ((gD G).1 13) ((gD G).1 13) (hn.2.1 x) (hn.2.1 y) (by rw [sb_cl0]; omega)
    rw [ec] at X' step
    have hyl : ad G y < H.size := (Array.getElem?_eq_some_iff.mp (show H[ad G y]? = some _ from ay)).1
    generalize hnc : arrV ((gD G).1 13) (LY y).2 (fun j => .int (va_cpy (hn.2.1 x) (hn.2.1 y) 0 0 n.toNatClampNeg j)) = nc at X' step
    have hheap : ((T.setVm vm').setCell (ad G y) nc).heap = H.setIfInBounds (ad G y) nc := by rw [← hT]; rfl
    have hrel : Rel G (hn.1, fun z j => if z = y ∧ j < n.toNatClampNeg then hn.2.1 x j else hn.2.1 z j, hn.2.2) (H.setIfInBounds (ad G y) nc) (locs ++ [⟨ad G y, 0⟩]) := by
      refine hr.set c2 ?_ (by simp) (fun q hq => by simp [Array.getElem?_setIfInBounds, Ne.symm hq]) rfl (fun z hz => ?_)
      · rw [EE_num (h := (hn.1, fun z j => if z = y ∧ j < n.toNatClampNeg then hn.2.1 x j else hn.2.1 z j, hn.2.2)) c4 (by decide) (by decide)]
        show (H.setIfInBounds (ad G y) nc)[ad G y]? = some (vp_cell _ _)
        rw [vp_cell_i, ← hnc]
        simp only [Array.getElem?_setIfInBounds, hyl, if_true]
        refine congrArg (fun f => some (arrV _ _ f)) (funext fun j => ?_)
        by_cases hj : j < n.toNatClampNeg
        · rw [pk_cpy_in (by omega) (by omega)]
          simp [hj]
        · rw [pk_cpy_out (by omega)]
          simp [hj]
      · have q1 : (fun z j => if z = y ∧ j < n.toNatClampNeg then hn.2.1 x j else hn.2.1 z j) z = hn.2.1 z := funext fun j => by simp [hz]
        have q3 : fE G (hn.1, fun z j => if z = y ∧ j < n.toNatClampNeg then hn.2.1 x j else hn.2.1 z j, hn.2.2) (LY z).1 z = fE G hn (LY z).1 z := funext fun j => by
          unfold fE
          simp [hz]
        unfold EE
        rw [q3]
        simp only [q1]
    have fin : ∀ L : List Loc, (∀ q ∈ L, q.base = ad G y) → Stand p G.1 e R s m args below meth c ((T.setVm vm').setCell (ad G y) nc) (locs ++ L) (hn.1 - n0) (SZ hn.1 - SZ n0) → ∃ t, Steps p.tables e below (T.setTop (F0 m p5 ls (List.map (rv G) [.int n, .int 0, .ref y, .int 0, .ref x]))) t ∧ Q t := by
      intro L hL XX
      obtain ⟨t, b1, b2⟩ := kk ls _ _ hl (Rel.more hrel.less (locs := locs ++ L) (fun q hq => by
        rcases List.mem_append.mp hq with h | h
        · exact hr.2.1.2.2 q h
        · show (gH G).size ≤ q.base
          rw [hL q h]
          have := hr.2.2.2
          rw [ad_lt G (by omega)]
          omega)) hn0 _ hheap XX
      exact ⟨t, step t b1, b2⟩
    exact fin _ (fun q hq => by
      obtain ⟨z, -, hz⟩ := List.mem_map.mp hq
      rw [← hz]) X'
end TEXT2
