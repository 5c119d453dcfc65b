/-! THE CLAIM OUT OF ONE WALK OF THE LAW'S BODY. Your part is whole_start (and what it stands on); all else here is the same for every law, but numbers. -/
def R_law : String := "StolenCupLaw"
def lw_P (b : Addr) (xs : List Int32) (args : Array Value) (s : State) : Prop := args = #[.ref b] ∧ s.IntsAt b xs ∧ xs.length ≤ 5120 ∧ (Jvm.Cond.and given_1 narrow_1).before args s = true
def lw_Q (_ : Array Value) (s : State) (o : Outcome) (t : State) : Prop := o = .returned (some (.int 1)) ∧ Framed s o t [] 600000 7302250
def lw_Z (below : List Frame) (a : Array Value) (s : State) : State → Prop := fun t => ∃ o, t.status = .running ∧ Ended t below o ∧ lw_Q a s o t
/-- the law's own end, with 1 on the stack, nothing written that was there before, its room as the claim has it -/
theorem lw_ret {p : Program} {l : Launch} {e : Env} {s : State} {m : MethodId} {below : List Frame} {meth : Method} {c : Code} {b : Nat} (hx : p.tables.exec = Jvm.exec) (hb : c.code = code) (hr : meth.sig.returnType = ret) (hlocks : meth.locks = false) {pc : Nat} {H : Heap} {ls : Array Slot} (hdg : decode code pc = .ok (.ireturn, 1)) : W p l e room_1 s m #[Value.ref b] below meth c H [] 600000 7302250 (lw_Z below #[Value.ref b] s) (F0 m pc ls [.int 1]) := by
  intro T hT X
  obtain ⟨fs, hret, hrun, hended, hW, hframe⟩ := X.leave (v := some (.int 1)) (hlocks := hlocks) (fun h => by rw [hr] at h; cases h)
  have hmeth' : T.vm.method? m = some meth := X.method'
  refine ⟨T.setFrames fs, ?_, .returned (some (.int 1)), hrun, hended, rfl, ⟨_, rfl⟩, hW, hframe⟩
  jvm_step X.here [X.here.top, hx, hb, hdg, hmeth', hr, ret, narrow_b1]
  (try refine ⟨rfl, ?_⟩); (try refine ⟨rfl, ?_⟩)
  first | (intro acts; rw [hret _ acts rfl rfl rfl]) | rw [hret _ _ rfl rfl rfl]
  exact Steps.refl _
/-- what holds at the law's entry: the machine, the code, the tables' words (any of lw_tbl by 'hts w (by decide +kernel)'), the script of L ints xs at the cell b, what the Statement gives of the start (any of its parts by flat_of_before) -/
def lw_At (p : Program) (s : State) (m : MethodId) (meth : Method) (c : Code) (b L : Nat) (xs : Nat → Int32) : Prop :=
  p.tables.exec = Jvm.exec ∧ c.code = code ∧ meth.sig.returnType = ret ∧ c.maxLocals = 4 ∧ s.vm.findClass R_law = some m.cls ∧ (∀ w ∈ lw_tbl, w.before #[Value.ref b] s = true) ∧ va_X b L xs s s.heap ∧ b < s.heap.size ∧ meth.locks = false ∧ (Jvm.Cond.and given_1 narrow_1).before #[Value.ref b] s = true
def h00 : Hp := (0, fun _ _ => 0, fun _ _ => none)
/-- what is left to show, of whole numbers alone -/
def PURE : Prop := ∀ G : GG, G.2.2.2.2.1 ≤ 5120 → ∃ E' h', F_law G (envN 4 [.ref 1001]) h00 = some (2, .int 1, E', h') ∧ h'.1 ≤ 212
theorem arrT_of {s : State} {ty : FieldType} {cA comp : ClassId} {kA : Class} (f2 : s.vm.classes[cA]? = some kA) (f3 : kA.kind = .array comp ty) : ArrOfT s cA ty := fun N z => ⟨(fun k h => by cases h), kA, f2, comp, f3⟩
set_option maxRecDepth 20000 in
set_option maxHeartbeats 4000000 in
theorem start_K {s : State} {A : Array Value} (hts : ∀ w ∈ lw_tbl, w.before A s = true) : ∃ D : va_G, va_K D vwCl [(D.1 12, .byte), (D.1 13, .int), (D.1 14, .boolean), (D.1 15, .object RX3), (D.1 16, .object RX5), (D.1 17, .object RX9), (D.1 18, .array .int)] s := by
  have ht : ∀ w ∈ TWL, w.before A s = true := fun w hw => hts w (List.mem_filter.mp hw).1
  obtain ⟨c0, i0, k0⟩ := u_known (C := RX0) (T := TX0) (N := 5) (n := 5) ht ck0.2.2.2.2.1 (ht _ (tb 308 (by decide +kernel) rfl))
  obtain ⟨c1, i1, k1⟩ := u_known (C := RX1) (T := TX1) (N := 16) (n := 16) ht ck1.2.2.2.2.1 (ht _ (tb 211 (by decide +kernel) rfl))
  obtain ⟨c2, i2, k2⟩ := u_known (C := RX2) (T := TX2) (N := 5) (n := 5) ht ck2.2.2.2.2.1 (ht _ (tb 286 (by decide +kernel) rfl))
  obtain ⟨c3, i3, k3⟩ := u_known (C := RX3) (T := TX3) (N := 6) (n := 6) ht ck3.2.2.2.2.1 (ht _ (tb 71 (by decide +kernel) rfl))
  obtain ⟨c4, i4, k4⟩ := u_known (C := RX4) (T := TX4) (N := 5) (n := 5) ht ck4.2.2.2.2.1 (ht _ (tb 189 (by decide +kernel) rfl))
  obtain ⟨c5, i5, k5⟩ := u_known (C := RX5) (T := TX5) (N := 8) (n := 8) ht ck5.2.2.2.2.1 (ht _ (tb 111 (by decide +kernel) rfl))
  obtain ⟨c6, i6, k6⟩ := u_known (C := RX6) (T := TX6) (N := 2) (n := 2) ht ck6.2.2.2.2.1 (ht _ (tb 217 (by decide +kernel) rfl))
  obtain ⟨c7, i7, k7⟩ := u_known (C := RX7) (T := TX7) (N := 2) (n := 2) ht ck7.2.2.2.2.1 (ht _ (tb 54 (by decide +kernel) rfl))
  obtain ⟨c8, i8, k8⟩ := u_known (C := RX8) (T := TX8) (N := 2) (n := 2) ht ck8.2.2.2.2.1 (ht _ (tb 37 (by decide +kernel) rfl))
  obtain ⟨c9, i9, k9⟩ := u_known (C := RX9) (T := TX9) (N := 5) (n := 5) ht ck9.2.2.2.2.1 (ht _ (tb 104 (by decide +kernel) rfl))
  obtain ⟨c10, i10, k10⟩ := u_known (C := RX10) (T := TX10) (N := 15) (n := 15) ht ck10.2.2.2.2.1 (ht _ (tb 23 (by decide +kernel) rfl))
  obtain ⟨c11, i11, k11⟩ := u_known (C := RX11) (T := TX11) (N := 62) (n := 62) ht ck11.2.2.2.2.1 (ht _ (tb 919 (by decide +kernel) rfl))
  obtain ⟨aB, kB, mB, b1, b2, b3⟩ := Cond.arrayClass_spec (hts (.arrayClass .byte) (List.mem_append_right _ (List.mem_of_getElem? (i := 52) (by decide +kernel))))
  obtain ⟨aI, kI, mI, b4, b5, b6⟩ := Cond.arrayClass_spec (hts (.arrayClass .int) (List.mem_append_right _ (List.mem_of_getElem? (i := 51) (by decide +kernel))))
  obtain ⟨aZ, kZ, mZ, b7, b8, b9⟩ := Cond.arrayClass_spec (hts (.arrayClass .boolean) (List.mem_append_right _ (List.mem_of_getElem? (i := 1111) (by decide +kernel))))
  obtain ⟨mL, aL, kL, l1, -, l2, l3, l4⟩ := Cond.arrayOver_spec (hts (.arrayOver (.object RX3)) (List.mem_append_right _ (List.mem_of_getElem? (i := 33) (by decide +kernel))))
  obtain ⟨mP, aP, kP, p1, -, p2, p3, p4⟩ := Cond.arrayOver_spec (hts (.arrayOver (.object RX5)) (List.mem_append_right _ (List.mem_of_getElem? (i := 110) (by decide +kernel))))
  obtain ⟨mT, aT, kT, t1, -, t2, t3, t4⟩ := Cond.arrayOver_spec (hts (.arrayOver (.object RX9)) (List.mem_append_right _ (List.mem_of_getElem? (i := 31) (by decide +kernel))))
  obtain ⟨mM, aM, kM, m1, -, m2, m3, m4⟩ := arrayOverA_spec (hts (.arrayOver (.array .int)) (List.mem_append_right _ (List.mem_of_getElem? (i := 35) (by decide +kernel))))
  refine ⟨(fun k => [c0, c1, c2, c3, c4, c5, c6, c7, c8, c9, c10, c11, aB, aI, aZ, aL, aP, aT, aM].getD k 0, fun k => [i0, i1, i2, i3, i4, i5, i6, i7, i8, i9, i10, i11].getD k (fun j => j)), fun c q hq => ?_, fun k q hq => ?_⟩
  · match c, hq with
    | 0, hq => cases hq; exact k0
    | 1, hq => cases hq; exact k1
    | 2, hq => cases hq; exact k2
    | 3, hq => cases hq; exact k3
    | 4, hq => cases hq; exact k4
    | 5, hq => cases hq; exact k5
    | 6, hq => cases hq; exact k6
    | 7, hq => cases hq; exact k7
    | 8, hq => cases hq; exact k8
    | 9, hq => cases hq; exact k9
    | 10, hq => cases hq; exact k10
    | 11, hq => cases hq; exact k11
    | c + 12, hq => simp [vwCl] at hq
  · match k, hq with
    | 0, hq => cases hq; exact ⟨arrT_of b2 b3, b1⟩
    | 1, hq => cases hq; exact ⟨arrT_of b5 b6, b4⟩
    | 2, hq => cases hq; exact ⟨arrT_of b8 b9, b7⟩
    | 3, hq => cases hq; exact ⟨arrT_of l2 l3, kL, mL, l2, l3, l1, l4⟩
    | 4, hq => cases hq; exact ⟨arrT_of p2 p3, kP, mP, p2, p3, p1, p4⟩
    | 5, hq => cases hq; exact ⟨arrT_of t2 t3, kT, mT, t2, t3, t1, t4⟩
    | 6, hq => cases hq; exact ⟨arrT_of m2 m3, m4⟩
    | k + 7, hq => simp at hq
set_option maxRecDepth 20000 in
set_option maxHeartbeats 4000000 in
theorem start_KK (l : Launch) {s : State} {b L : Nat} {xs : Nat → Int32} (hts : ∀ w ∈ lw_tbl, w.before #[Value.ref b] s = true) (hX : va_X b L xs s s.heap) (hgv : (Jvm.Cond.and given_1 narrow_1).before #[Value.ref b] s = true) : ∃ (D : va_G) (x : Nat → Nat), x 1001 = b ∧ KK (l, D, s.heap, x, L, xs) s := by
  obtain ⟨D, hD⟩ := start_K hts
  have hs := flat_of_before _ hgv
  have hA : ∀ a : Nat, a < s.heap.size → ¬ (fun q => s.heap.size ≤ q) a := fun a h q => by dsimp only at q; omega
  obtain ⟨t, e1, e2⟩ := va_Tof (tm := .static RX10 "CLAUSE_OF_KIND" "[I") (ty := .int) (N := 8) (f := fun j => .int ([0, 1, 2, -1, -1, -1, 3, 4].getD j 0)) (A := fun q => s.heap.size ≤ q) (by decide) (hs (.arrayOf (.static RX10 "CLAUSE_OF_KIND" "[I") .int) (by decide +kernel)) (va_eqt (hs (.eq (.length (.static RX10 "CLAUSE_OF_KIND" "[I")) (.int 8)) (by decide +kernel))) (fun j hj => by
    match j, hj with
    | 0, _ => exact va_eqt (hs (.eq (.elem (.static RX10 "CLAUSE_OF_KIND" "[I") (.int 0)) (.int 0)) (by decide +kernel))
    | 1, _ => exact va_eqt (hs (.eq (.elem (.static RX10 "CLAUSE_OF_KIND" "[I") (.int 1)) (.int 1)) (by decide +kernel))
    | 2, _ => exact va_eqt (hs (.eq (.elem (.static RX10 "CLAUSE_OF_KIND" "[I") (.int 2)) (.int 2)) (by decide +kernel))
    | 3, _ => exact va_eqt (hs (.eq (.elem (.static RX10 "CLAUSE_OF_KIND" "[I") (.int 3)) (.int (-1))) (by decide +kernel))
    | 4, _ => exact va_eqt (hs (.eq (.elem (.static RX10 "CLAUSE_OF_KIND" "[I") (.int 4)) (.int (-1))) (by decide +kernel))
    | 5, _ => exact va_eqt (hs (.eq (.elem (.static RX10 "CLAUSE_OF_KIND" "[I") (.int 5)) (.int (-1))) (by decide +kernel))
    | 6, _ => exact va_eqt (hs (.eq (.elem (.static RX10 "CLAUSE_OF_KIND" "[I") (.int 6)) (.int 3)) (by decide +kernel))
    | 7, _ => exact va_eqt (hs (.eq (.elem (.static RX10 "CLAUSE_OF_KIND" "[I") (.int 7)) (.int 4)) (by decide +kernel))
    | j + 8, hj => omega) hA
  obtain ⟨adK, adV, v1, v2⟩ := vk_Sof (args := #[Value.ref b]) (s := s) (N := 2) (tm := fun i => .string RX4 (if i = 0 then 58 else 104)) (len := [8, 13]) (byt := byS) (A := fun q => s.heap.size ≤ q)
    (fun i hi => by match i, hi with | 0, _ => decide | 1, _ => decide | i + 2, hi => omega)
    (fun i hi => by match i, hi with | 0, _ => exact hs (.exactly (.string RX4 58) "java/lang/String") (by decide +kernel) | 1, _ => exact hs (.exactly (.string RX4 104) "java/lang/String") (by decide +kernel) | i + 2, hi => omega)
    (fun i hi => by match i, hi with | 0, _ => exact hs (.eq (.field (.string RX4 58) "java/lang/String" "coder" "B") (.int 0)) (by decide +kernel) | 1, _ => exact hs (.eq (.field (.string RX4 104) "java/lang/String" "coder" "B") (.int 0)) (by decide +kernel) | i + 2, hi => omega)
    (fun i hi => by match i, hi with | 0, _ => exact hs (.arrayOf (.field (.string RX4 58) "java/lang/String" "value" "[B") .byte) (by decide +kernel) | 1, _ => exact hs (.arrayOf (.field (.string RX4 104) "java/lang/String" "value" "[B") .byte) (by decide +kernel) | i + 2, hi => omega)
    (fun i hi => by match i, hi with | 0, _ => exact hs (.eq (.length (.field (.string RX4 58) "java/lang/String" "value" "[B")) (.int 8)) (by decide +kernel) | 1, _ => exact hs (.eq (.length (.field (.string RX4 104) "java/lang/String" "value" "[B")) (.int 13)) (by decide +kernel) | i + 2, hi => omega)
    (fun i hi => by
      match i, hi with
      | 0, _ =>
        intro j hj
        match j, hj with
        | 0, _ => exact hs (.eq (.elem (.field (.string RX4 58) "java/lang/String" "value" "[B") (.int 0)) (.int 115)) (by decide +kernel)
        | 1, _ => exact hs (.eq (.elem (.field (.string RX4 58) "java/lang/String" "value" "[B") (.int 1)) (.int 103)) (by decide +kernel)
        | 2, _ => exact hs (.eq (.elem (.field (.string RX4 58) "java/lang/String" "value" "[B") (.int 2)) (.int 119)) (by decide +kernel)
        | 3, _ => exact hs (.eq (.elem (.field (.string RX4 58) "java/lang/String" "value" "[B") (.int 3)) (.int 102)) (by decide +kernel)
        | 4, _ => exact hs (.eq (.elem (.field (.string RX4 58) "java/lang/String" "value" "[B") (.int 4)) (.int 122)) (by decide +kernel)
        | 5, _ => exact hs (.eq (.elem (.field (.string RX4 58) "java/lang/String" "value" "[B") (.int 5)) (.int 121)) (by decide +kernel)
        | 6, _ => exact hs (.eq (.elem (.field (.string RX4 58) "java/lang/String" "value" "[B") (.int 6)) (.int 98)) (by decide +kernel)
        | 7, _ => exact hs (.eq (.elem (.field (.string RX4 58) "java/lang/String" "value" "[B") (.int 7)) (.int 97)) (by decide +kernel)
        | j + 8, hj => exact absurd hj (by simp)
      | 1, _ =>
        intro j hj
        match j, hj with
        | 0, _ => exact hs (.eq (.elem (.field (.string RX4 104) "java/lang/String" "value" "[B") (.int 0)) (.int 107)) (by decide +kernel)
        | 1, _ => exact hs (.eq (.elem (.field (.string RX4 104) "java/lang/String" "value" "[B") (.int 1)) (.int 109)) (by decide +kernel)
        | 2, _ => exact hs (.eq (.elem (.field (.string RX4 104) "java/lang/String" "value" "[B") (.int 2)) (.int 110)) (by decide +kernel)
        | 3, _ => exact hs (.eq (.elem (.field (.string RX4 104) "java/lang/String" "value" "[B") (.int 3)) (.int 114)) (by decide +kernel)
        | 4, _ => exact hs (.eq (.elem (.field (.string RX4 104) "java/lang/String" "value" "[B") (.int 4)) (.int 101)) (by decide +kernel)
        | 5, _ => exact hs (.eq (.elem (.field (.string RX4 104) "java/lang/String" "value" "[B") (.int 5)) (.int 120)) (by decide +kernel)
        | 6, _ => exact hs (.eq (.elem (.field (.string RX4 104) "java/lang/String" "value" "[B") (.int 6)) (.int 118)) (by decide +kernel)
        | 7, _ => exact hs (.eq (.elem (.field (.string RX4 104) "java/lang/String" "value" "[B") (.int 7)) (.int 100)) (by decide +kernel)
        | 8, _ => exact hs (.eq (.elem (.field (.string RX4 104) "java/lang/String" "value" "[B") (.int 8)) (.int 106)) (by decide +kernel)
        | 9, _ => exact hs (.eq (.elem (.field (.string RX4 104) "java/lang/String" "value" "[B") (.int 9)) (.int 99)) (by decide +kernel)
        | 10, _ => exact hs (.eq (.elem (.field (.string RX4 104) "java/lang/String" "value" "[B") (.int 10)) (.int 108)) (by decide +kernel)
        | 11, _ => exact hs (.eq (.elem (.field (.string RX4 104) "java/lang/String" "value" "[B") (.int 11)) (.int 104)) (by decide +kernel)
        | 12, _ => exact hs (.eq (.elem (.field (.string RX4 104) "java/lang/String" "value" "[B") (.int 12)) (.int 111)) (by decide +kernel)
        | j + 13, hj => exact absurd hj (by simp)
      | i + 2, hi => omega)
    (fun i j hi hj hij => by
      match i, hi, j, hj with
      | 0, _, 0, _ => exact absurd rfl hij
      | 0, _, 1, _ => first | exact Or.inl (hs (.not (.eq (.string RX4 58) (.string RX4 104))) (by decide +kernel)) | exact Or.inr (hs (.not (.eq (.string RX4 104) (.string RX4 58))) (by decide +kernel))
      | 1, _, 0, _ => first | exact Or.inr (hs (.not (.eq (.string RX4 58) (.string RX4 104))) (by decide +kernel)) | exact Or.inl (hs (.not (.eq (.string RX4 104) (.string RX4 58))) (by decide +kernel))
      | 1, _, 1, _ => exact absurd rfl hij
      | i + 2, hi, _, _ => omega
      | _, _, j + 2, hj => omega) hA
  refine ⟨D, fun k => if k = 1000 then t else if k = 1001 then b else if k = 1002 then adK 0 else if k = 1003 then adK 1 else if k = 1004 then adV 0 else adV 1, rfl, ?_⟩
  refine ⟨fun w hw hg => va_Nw.of (onT_of hg) (hts w hw), hD, ⟨va_AO.of (hts (.arrayOver (.object RX9)) (List.mem_append_right _ (List.mem_of_getElem? (i := 31) (by decide +kernel)))), va_AO.of (hts (.arrayOver (.object RX3)) (List.mem_append_right _ (List.mem_of_getElem? (i := 33) (by decide +kernel)))), va_AO.of (hts (.arrayOver (.object RX5)) (List.mem_append_right _ (List.mem_of_getElem? (i := 110) (by decide +kernel)))), hts (.arrayOver (.array .int)) (List.mem_append_right _ (List.mem_of_getElem? (i := 35) (by decide +kernel))), fun ty hty A => word_at (State.WarmedH.refl s) (Or.inr ⟨_, rfl⟩) (hts (.arrayClass ty) ?_)⟩, ?_, e2, hX, ?_, ?_, ?_, ?_⟩
  · simp only [List.mem_cons, List.not_mem_nil, or_false] at hty
    rcases hty with rfl | rfl | rfl
    · exact (List.mem_append_right _ (List.mem_of_getElem? (i := 52) (by decide +kernel)))
    · exact (List.mem_append_right _ (List.mem_of_getElem? (i := 51) (by decide +kernel)))
    · exact (List.mem_append_right _ (List.mem_of_getElem? (i := 1111) (by decide +kernel)))
  · exact va_Zof (hts (.laysStatic RX10 "CLAUSE_OF_KIND" "[I") (List.mem_append_right _ (List.mem_of_getElem? (i := 654) (by decide +kernel)))) (hts (.initialized RX10) (List.mem_append_right _ (List.mem_of_getElem? (i := 1) (by decide +kernel)))) e1 hA
  · exact vk_R.of (hts (.stringRef RX4 58 "sgwfzyba") (List.mem_append_right _ (List.mem_of_getElem? (i := 471) (by decide +kernel)))) (v2 0 (by decide))
  · exact vk_R.of (hts (.stringRef RX4 104 "kmnrexvdjclho") (List.mem_append_right _ (List.mem_of_getElem? (i := 608) (by decide +kernel)))) (v2 1 (by decide))
  · refine ⟨fun i hi => ?_, fun i j hi hj hij => ?_⟩
    · match i, hi with
      | 0, _ => exact v1.1 0 (by decide)
      | 1, _ => exact v1.1 1 (by decide)
      | i + 2, hi => omega
    · match i, hi, j, hj with
      | 0, _, 0, _ => rfl
      | 0, _, 1, _ => exact v1.2 0 1 (by decide) (by decide) hij
      | 1, _, 0, _ => exact v1.2 1 0 (by decide) (by decide) hij
      | 1, _, 1, _ => rfl
      | i + 2, hi, _, _ => omega
      | _, _, j + 2, hj => omega
  · exact va_Zof (hts (.laysStatic "java/lang/String" "COMPACT_STRINGS" "Z") (List.mem_append_right _ (List.mem_of_getElem? (i := 489) (by decide +kernel)))) (hts (.initialized "java/lang/String") (List.mem_append_right _ (List.mem_of_getElem? (i := 15) (by decide +kernel)))) (va_eqi (hs (.eq (.static "java/lang/String" "COMPACT_STRINGS" "Z") (.int 1)) (by decide +kernel))) hA
theorem h00_rel (G : GG) : Rel G h00 (gH G) [] := ⟨fun k q hq => by simp [WS, h00] at hq, va_S.rf, rfl, Nat.zero_le _⟩
set_option maxRecDepth 20000 in
/-- the walk of the law's body, out of what is left to show -/
theorem whole_open (hP : PURE) {p : Program} {e : Env} {s : State} {m : MethodId} {below : List Frame} {meth : Method} {c : Code} (l : Launch) {b L : Nat} {xs : Nat → Int32} (hL : L ≤ 5120) (C0 : lw_At p s m meth c b L xs) : W p l e room_1 s m #[Value.ref b] below meth c s.heap [] 0 0 (lw_Z below #[Value.ref b] s) (entryFrame m ([Value.ref b] : List Value).toArray 4) := by
  obtain ⟨hx, hb, hr, hml, hown, hts, hX, hbl, hlocks, hgv⟩ := C0
  obtain ⟨D, x, hxb, hKK⟩ := start_KK l hts hX hgv
  generalize hG : ((l, D, s.heap, x, L, xs) : GG) = G at hKK
  have g1 : G.1 = l := by rw [← hG]
  have gh : gH G = s.heap := by rw [← hG]
  have gx : G.2.2.2.1 1001 = b := by rw [← hG]; exact hxb
  obtain ⟨E', h', e1, hle⟩ := hP G (by rw [← hG]; exact hL)
  have hsz : SZ 212 - SZ 0 ≤ 7302250 := by decide +kernel
  have S : SU G RL false cL_law 4 69 p s m meth c room_1 0 212 := ⟨hx, hb, hml, hown, hKK, ⟨by decide, by decide⟩, by decide, hsz, fun h => by cases h⟩
  have s1 := SZ_mono hle
  have rt : RT G cL_law p e room_1 s m #[Value.ref b] below meth c (lw_Z below #[Value.ref b] s) 0 (some (.int 1)) h' := by
    intro pc ins ls H locs hd hins hR hn
    have hins : ins = .ireturn := hins
    subst hins
    rw [g1]
    refine va_forget (fun q hq => by have := hR.2.1.2.2 q hq; rw [← gh]; exact this) ?_
    refine W.widen (k := 600000) (n := 7302250) (by omega) (by omega) ?_
    exact lw_ret hx hb hr hlocks hd
  have main := (c_law G).2 p e room_1 s m #[Value.ref b] below meth c (lw_Z below #[Value.ref b] s) 0 212 S (envN 4 [.ref 1001]) h00 2 (.int 1) E' h' e1 hle (fun z => by omega) (fun z => by omega) (fun z => by omega) (fun z => by omega) (fun _ => rt) (by omega)
  have hmap : [Value.ref 1001].map (rv G) = [.ref b] := by
    show [Value.ref (ad G 1001)] = _
    rw [ad_x (by omega), gx]
  have hle2 := lv_entry [Value.ref b] (n := 4) (Nat.le_of_ble_eq_true rfl)
  rw [lg_entry_eq]
  have k1 := main _ s.heap [] (LR_entry [.ref 1001] (by rw [hmap]; exact hle2)) (by rw [← gh]; exact h00_rel G) (Nat.zero_le _)
  rw [g1] at k1
  exact k1
