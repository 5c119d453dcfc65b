/-! calls: contracts, and the code that calls -/
def rmd (lvl mc ms : Nat) : Room := { frames := lvl, cells := mc, slots := ms, locals := 60 * lvl }
def PC (G : GG) (vs : List Value) (h : Hp) : Array Value → State → Prop := fun a U => a = (vs.map (rv G)).toArray ∧ KK G U ∧ Rel G h U.heap []
def QC (G : GG) (r : Option Value) (h' : Hp) : Array Value → State → Outcome → State → Prop := fun _ _ o t => o = .returned (r.map (rv G)) ∧ Rel G h' t.heap []
/-- the contract of a method: what F says is what it does -/
def CT (G : GG) (y : MethodName) (cc : ByteArray) (nL : Nat) (ret : Option FieldType) (lvl : Nat) (F : FN) : Prop :=
  (∀ vs h r h', F vs h = some (r, h') → h.1 ≤ h'.1) ∧
  ∀ vs h r h', F vs h = some (r, h') → Met G.1 y [Cond.code y cc nL ret] (rmd lvl (h'.1 - h.1) (SZ h'.1 - SZ h.1)) (PC G vs h) (QC G r h') (h'.1 - h.1) (SZ h'.1 - SZ h.1) (gA G)
theorem SZ_mono {a b : Nat} (h : a ≤ b) : SZ a ≤ SZ b := by
  have key : ∀ (l : List Nat) (a b : Nat), a ≤ b → (l.take a).sum ≤ (l.take b).sum := by
    intro l
    induction l with
    | nil => intro a b _; simp
    | cons x l ih =>
      intro a b hab
      cases a with
      | zero => simp
      | succ a =>
        cases b with
        | zero => omega
        | succ b =>
          simp only [List.take_succ_cons, List.sum_cons]
          have := ih a b (by omega)
          omega
  unfold SZ
  rw [List.map_take, List.map_take]
  exact key _ a b h
theorem PC_blind (G : GG) (vs : List Value) (h : Hp) : FrameBlind (PC G vs h) := fun a U g mk q => ⟨q.1, q.2.1.same rfl, q.2.2⟩
theorem Rel.more {G : GG} {h : Hp} {H : Heap} {locs : List Loc} (h1 : Rel G h H []) (h2 : ∀ q ∈ locs, gA G q.base) : Rel G h H locs := ⟨h1.1, ⟨h1.2.1.1, h1.2.1.2.1, h2⟩, h1.2.2⟩
theorem Rel.less {G : GG} {h : Hp} {H : Heap} {locs : List Loc} (h1 : Rel G h H locs) : Rel G h H [] := ⟨h1.1, ⟨h1.2.1.1, h1.2.1.2.1, fun q hq => by cases hq⟩, h1.2.2⟩
/-- what a call of an instance method needs of the tables -/
def MVd (y : MethodName) (cc : ByteArray) (nL : Nat) (ret : Option FieldType) (n : Nat) : Prop := Cond.instanceMethod y ∈ TWL ∧ Cond.selects y.cls y y ∈ TWL ∧ Cond.initialized y.cls ∈ TWL ∧ Cond.code y cc nL ret ∈ TWL ∧ (y.cls ≠ "java/lang/invoke/MethodHandle" ∧ y.cls ≠ "java/lang/invoke/VarHandle" ∧ (parseMethodDescriptor y.desc).map (fun d => d.parameters.length) = some n) ∧ nL ≤ 41
def MSd (y : MethodName) (cc : ByteArray) (nL : Nat) (ret : Option FieldType) (n : Nat) : Prop := Cond.static y ∈ TWL ∧ Cond.initialized y.cls ∈ TWL ∧ Cond.code y cc nL ret ∈ TWL ∧ (y.cls ≠ "java/lang/invoke/MethodHandle" ∧ y.cls ≠ "java/lang/invoke/VarHandle" ∧ (parseMethodDescriptor y.desc).map (fun d => d.parameters.length) = some n) ∧ nL ≤ 41
def MId (y : MethodName) (cc : ByteArray) (nL : Nat) (n : Nat) : Prop := y.name = "<init>" ∧ Cond.instanceMethod y ∈ TWL ∧ Cond.initialized y.cls ∈ TWL ∧ Cond.code y cc nL none ∈ TWL ∧ (y.cls ≠ "java/lang/invoke/MethodHandle" ∧ y.cls ≠ "java/lang/invoke/VarHandle" ∧ (parseMethodDescriptor y.desc).map (fun d => d.parameters.length) = some n) ∧ nL ≤ 41
def MLd (own : String) (index : Nat) (y : MethodName) : Prop := Cond.methodLink own index y ∈ TWL ∨ ∃ host, Cond.methodLinkNest own index y host ∈ TWL
/-- the receiver is there, of its class -/
def rcv (ci : Nat) (vs : List Value) (h : Hp) : Bool := match vs with
  | .ref x :: _ => decide (x < h.1) && decide ((LY x).1 = ci)
  | _ => false
def nog (_ : List Value) (_ : Hp) : Bool := true
def kI (g : List Value → Hp → Bool) (F : FN) (a : DA) : DI := fun E h => (a E h).bind fun x => if g x.1 x.2 = true then match F x.1 x.2 with
  | some (some (.int r), h2) => some (r, h2)
  | _ => none else none
def kR (g : List Value → Hp → Bool) (F : FN) (a : DA) : DR := fun E h => (a E h).bind fun x => if g x.1 x.2 = true then match F x.1 x.2 with
  | some (some (.ref r), h2) => some (r, h2)
  | _ => none else none
def kL (g : List Value → Hp → Bool) (F : FN) (a : DA) : DL := fun E h => (a E h).bind fun x => if g x.1 x.2 = true then match F x.1 x.2 with
  | some (some (.long r), h2) => some (r, h2)
  | _ => none else none
def kV (g : List Value → Hp → Bool) (F : FN) (a : DA) : Sm := fun E h => (a E h).bind fun x => if g x.1 x.2 = true then match F x.1 x.2 with
  | some (none, h2) => some (0, .null, E, h2)
  | _ => none else none
def dI (a : DI) : Sm := fun E h => (a E h).bind fun x => some (0, .null, E, x.2)
section CALL
variable {G : GG} {own : String} {ini : Bool} {cc : ByteArray} {nL lvl d pc p1 p2 p3 nx br co : Nat}
theorem vs_n : EVs G own ini cc nL lvl d pc pc vn := by
  refine ⟨fun E h v h' ef => by cases ef; exact Nat.le_refl _, fun p e R s m args below meth c Q n0 nm S E st h vs h' hst ef hnm kk => ?_⟩
  cases ef
  exact kk
theorem vs_I {a : DA} {b : DI} {k : Nat} (h1 : EVs G own ini cc nL lvl d pc p1 a) (hk : ∀ E h v h', a E h = some (v, h') → ct v ≤ k) (h2 : EV .int G own ini cc nL lvl (d + k) p1 p2 b) : EVs G own ini cc nL lvl d pc p2 (vI a b) := by
  refine ⟨fun E h v h' ef => ?_, fun p e R s m args below meth c Q n0 nm S E st h vs h' hst ef hnm kk => ?_⟩
  · obtain ⟨x, e1, ef⟩ := bind_some2 ef
    obtain ⟨y, e2, ef⟩ := bind_some2 ef
    cases ef
    exact Nat.le_trans (h1.1 _ _ _ _ e1) (h2.1 _ _ _ _ e2)
  · obtain ⟨⟨x, hx⟩, e1, ef⟩ := bind_some2 ef
    obtain ⟨⟨y, hy⟩, e2, ef⟩ := bind_some2 ef
    cases ef
    refine h1.2 p e R s m args below meth c Q n0 nm S E st h x hx hst e1 (Nat.le_trans (h2.1 _ _ _ _ e2) hnm) ?_
    refine h2.2 p e R s m args below meth c Q n0 nm S E (x.reverse ++ st) hx y hy ?_ e2 hnm (by simpa using kk)
    have := hk _ _ _ _ e1
    unfold ct at *
    rw [List.map_append, List.sum_append, List.map_reverse, List.sum_reverse]
    omega
theorem vs_R {a : DA} {b : DR} {k : Nat} (h1 : EVs G own ini cc nL lvl d pc p1 a) (hk : ∀ E h v h', a E h = some (v, h') → ct v ≤ k) (h2 : EV .ref G own ini cc nL lvl (d + k) p1 p2 b) : EVs G own ini cc nL lvl d pc p2 (vR a b) := by
  refine ⟨fun E h v h' ef => ?_, fun p e R s m args below meth c Q n0 nm S E st h vs h' hst ef hnm kk => ?_⟩
  · obtain ⟨x, e1, ef⟩ := bind_some2 ef
    obtain ⟨y, e2, ef⟩ := bind_some2 ef
    cases ef
    exact Nat.le_trans (h1.1 _ _ _ _ e1) (h2.1 _ _ _ _ e2)
  · obtain ⟨⟨x, hx⟩, e1, ef⟩ := bind_some2 ef
    obtain ⟨⟨y, hy⟩, e2, ef⟩ := bind_some2 ef
    cases ef
    refine h1.2 p e R s m args below meth c Q n0 nm S E st h x hx hst e1 (Nat.le_trans (h2.1 _ _ _ _ e2) hnm) ?_
    refine h2.2 p e R s m args below meth c Q n0 nm S E (x.reverse ++ st) hx y hy ?_ e2 hnm (by simpa using kk)
    have := hk _ _ _ _ e1
    unfold ct at *
    rw [List.map_append, List.sum_append, List.map_reverse, List.sum_reverse]
    omega
theorem vs_L {a : DA} {b : DL} {k : Nat} (h1 : EVs G own ini cc nL lvl d pc p1 a) (hk : ∀ E h v h', a E h = some (v, h') → ct v ≤ k) (h2 : EV .long G own ini cc nL lvl (d + k) p1 p2 b) : EVs G own ini cc nL lvl d pc p2 (vL a b) := by
  refine ⟨fun E h v h' ef => ?_, fun p e R s m args below meth c Q n0 nm S E st h vs h' hst ef hnm kk => ?_⟩
  · obtain ⟨x, e1, ef⟩ := bind_some2 ef
    obtain ⟨y, e2, ef⟩ := bind_some2 ef
    cases ef
    exact Nat.le_trans (h1.1 _ _ _ _ e1) (h2.1 _ _ _ _ e2)
  · obtain ⟨⟨x, hx⟩, e1, ef⟩ := bind_some2 ef
    obtain ⟨⟨y, hy⟩, e2, ef⟩ := bind_some2 ef
    cases ef
    refine h1.2 p e R s m args below meth c Q n0 nm S E st h x hx hst e1 (Nat.le_trans (h2.1 _ _ _ _ e2) hnm) ?_
    refine h2.2 p e R s m args below meth c Q n0 nm S E (x.reverse ++ st) hx y hy ?_ e2 hnm (by simpa using kk)
    have := hk _ _ _ _ e1
    unfold ct at *
    rw [List.map_append, List.sum_append, List.map_reverse, List.sum_reverse]
    omega
theorem cn_n : ∀ E h v h', vn E h = some (v, h') → ct v ≤ 0 := fun E h v h' ef => by cases ef; exact Nat.le_refl _
theorem ct_snoc (l : List Value) (v : Value) : ct (l ++ [v]) = ct l + v.category := by unfold ct; simp
theorem cn_I {a : DA} {b : DI} {k : Nat} (hk : ∀ E h v h', a E h = some (v, h') → ct v ≤ k) : ∀ E h v h', vI a b E h = some (v, h') → ct v ≤ k + 1 := fun E h v h' ef => by
  obtain ⟨x, e1, ef⟩ := bind_some2 ef
  obtain ⟨y, e2, ef⟩ := bind_some2 ef
  cases ef
  rw [ct_snoc]
  exact Nat.add_le_add_right (hk _ _ _ _ e1) 1
theorem cn_R {a : DA} {b : DR} {k : Nat} (hk : ∀ E h v h', a E h = some (v, h') → ct v ≤ k) : ∀ E h v h', vR a b E h = some (v, h') → ct v ≤ k + 1 := fun E h v h' ef => by
  obtain ⟨x, e1, ef⟩ := bind_some2 ef
  obtain ⟨y, e2, ef⟩ := bind_some2 ef
  cases ef
  rw [ct_snoc]
  exact Nat.add_le_add_right (hk _ _ _ _ e1) 1
theorem cn_L {a : DA} {b : DL} {k : Nat} (hk : ∀ E h v h', a E h = some (v, h') → ct v ≤ k) : ∀ E h v h', vL a b E h = some (v, h') → ct v ≤ k + 2 := fun E h v h' ef => by
  obtain ⟨x, e1, ef⟩ := bind_some2 ef
  obtain ⟨y, e2, ef⟩ := bind_some2 ef
  cases ef
  rw [ct_snoc]
  exact Nat.add_le_add_right (hk _ _ _ _ e1) 2
/-- behind a call -/
theorem w_run {p : Program} {e : Env} {R : Room} {s : State} {m : MethodId} {args : Array Value} {below : List Frame} {meth : Method} {c : Code} {H : Heap} {locs : List Loc} {Q : State → Prop} {n0 : Nat} {E : En} {st st0 : List Value} {h h' : Hp} {r : Option Value} {a : Array Value} {ls : Array Slot}
    (hrun : va_Run p G.1 e R s m args below meth c H locs (h.1 - n0) (SZ h.1 - SZ n0) (h'.1 - h.1) (SZ h'.1 - SZ h.1) (F0 m pc ls st0) (st.map (rv G)) (QC G r h' a) (gA G)) (hr : Rel G h H locs) (m1 : h.1 ≤ h'.1) (hn : n0 ≤ h.1) (hl : LR G nL E ls) (kk : AT G nL p e R s m args below meth c Q n0 (pc + 3) E (r.toList ++ st) h') : W p G.1 e R s m args below meth c H locs (h.1 - n0) (SZ h.1 - SZ n0) Q (F0 m pc ls st0) := by
  intro T hT X
  obtain ⟨v, st₀, t, T', L, h0, X', hL, e1, e2, ⟨hv, hrel'⟩, stp⟩ := hrun T hT X
  have hv' : v = r.map (rv G) := by cases hv; rfl
  subst hv'
  have z1 : h.1 - n0 + (h'.1 - h.1) = h'.1 - n0 := by omega
  have s1 := SZ_mono hn
  have s2 := SZ_mono m1
  have z2 : SZ h.1 - SZ n0 + (SZ h'.1 - SZ h.1) = SZ h'.1 - SZ n0 := by omega
  rw [z1, z2] at X'
  have k1 := kk ls T'.heap (locs ++ L) hl ((show Rel G h' T'.heap [] by rw [e1]; exact hrel').more fun q hq => by
    rcases List.mem_append.mp hq with hq | hq
    · exact hr.2.1.2.2 q hq
    · exact hL q hq) (Nat.le_trans hn m1)
  obtain ⟨t2, a1, b1⟩ := k1 T' rfl X'
  refine ⟨t2, stp t2 ?_, b1⟩
  have : (r.toList ++ st).map (rv G) = (r.map (rv G)).toList ++ st.map (rv G) := by cases r <;> simp
  rw [this] at a1
  exact a1
theorem gd1 {w : Cond} (h : w ∈ TWL) (hw : (w.onTables && w.keeps) = true) : w ∈ TWL ∧ ((w.onTables && w.keeps) = true ∨ ∃ ty, w = .arrayClass ty) := ⟨h, Or.inl hw⟩
/-- an instance method is called -/
theorem at_callV {p : Program} {e : Env} {R : Room} {s : State} {m : MethodId} {args : Array Value} {below : List Frame} {meth : Method} {c : Code} {Q : State → Prop} {n0 nm : Nat} {E : En} {st vs : List Value} {h h' : Hp} {r : Option Value} {y : MethodName} {cy : ByteArray} {ny lv n ci index : Nat} {ret : Option FieldType} {F : FN} {C : String} {T : u_T} {N : Nat} {ty : Nat → FieldType}
    (S : SU G own ini cc nL lvl p s m meth c R n0 nm) (hC : CT G y cy ny ret lv F) (hlv : lv < lvl) (mv : MVd y cy ny ret n) (ml : MLd own index y) (ck : CKd ci C T N ty) (hyC : y.cls = C) (hd : decode cc pc = .ok (.invokevirtual index, 3)) (hst : ct st ≤ 8) (hF : F vs h = some (r, h')) (hg : rcv ci vs h = true) (hlen : vs.length = n + 1) (hnm : h'.1 ≤ nm)
    (kk : AT G nL p e R s m args below meth c Q n0 (pc + 3) E (r.toList ++ st) h') : AT G nL p e R s m args below meth c Q n0 pc E (vs.reverse ++ st) h := by
  intro ls H locs hl hr hn
  cases vs with
  | nil => cases hg
  | cons v0 vs =>
    cases v0 with
    | ref x =>
      simp only [rcv, Bool.and_eq_true, decide_eq_true_eq] at hg
      obtain ⟨g1, g2⟩ := hg
      subst hyC
      have m1 := hC.1 _ _ _ _ hF
      have hM := hC.2 _ _ _ _ hF
      have hts := S.2.2.2.2.1.1.all args
      have s1 := SZ_mono hn
      have s2 := SZ_mono m1
      have s3 := SZ_mono hnm
      obtain ⟨mv1, mv2, mv3, mv4, mv5, mv6⟩ := mv
      have hat := hr.1 x _ (WS_at G h g1)
      rw [EE_obj ck g2] at hat
      obtain ⟨r', hr', cellV, q1, q2, q3, -⟩ := hat
      have hcls := (S.2.2.2.2.1.2.1.1 ci _ ck.2.1).2.1
      have hp : PreV s H y.cls (ad G x) (PC G (.ref x :: vs) h) (vs.map (rv G)) := ⟨PC_blind G _ h, ⟨cellV, q1, by rw [q3]; rfl, by rw [q2]; exact hcls⟩, fun U hU hW => ⟨rfl, S.2.2.2.2.1.moved hW, by rw [hU]; exact hr.less⟩⟩
      have hstk : (F0 m pc ls (List.map (rv G) ((Value.ref x :: vs).reverse ++ st))).stack = (vs.map (rv G)).reverse ++ .ref (ad G x) :: st.map (rv G) := by
        show List.map (rv G) ((Value.ref x :: vs).reverse ++ st) = _
        simp [rv]
      have hW : 2 * (F0 m pc ls (List.map (rv G) ((Value.ref x :: vs).reverse ++ st))).monitorRoom + ((st.map (rv G)).map fun v => v.category).sum ≤ 8 := by
        refine lv_room ?_
        have : (st.map (rv G)).map (fun v => v.category) = st.map (fun v => v.category) := by
          rw [List.map_map]
          exact List.map_congr_left fun v _ => rv_cat v
        rw [this]
        exact hst
      have hf : h.1 - n0 + (h'.1 - h.1) ≤ R.cells ∧ SZ h.1 - SZ n0 + (SZ h'.1 - SZ h.1) ≤ R.slots := by
        have a1 := S.2.2.2.2.2.2.1
        have a2 := S.2.2.2.2.2.2.2.1
        constructor <;> omega
      have hR : (rmd lv (h'.1 - h.1) (SZ h'.1 - SZ h.1)).frames + 1 ≤ R.frames ∧ 8 + (ny + 11) + (rmd lv (h'.1 - h.1) (SZ h'.1 - SZ h.1)).locals ≤ R.locals := by
        obtain ⟨a1, a2⟩ := S.2.2.2.2.2.1
        show lv + 1 ≤ R.frames ∧ 8 + (ny + 11) + 60 * lv ≤ R.locals
        constructor <;> omega
      have hln : (vs.map (rv G)).length = n := by simpa using hlen
      rcases ml with ml | ⟨host, ml⟩
      · refine w_run (va_runV (As := vs.map (rv G)) (rest := st.map (rv G)) (n := n) (Ts := TWL) ⟨S.1, S.2.1, S.2.2.1, S.2.2.2.1, hts⟩ hM (cwV n hts ?_ rfl rfl rfl ⟨rfl, mv5⟩ hR) hp rfl hln hl.1 hstk hW hd hf) hr m1 hn hl kk
        intro w hw
        simp only [wsV, List.cons_append, List.nil_append, List.mem_cons, List.not_mem_nil, or_false] at hw
        rcases hw with rfl | rfl | rfl | rfl | rfl
        · exact gd1 ml rfl
        · exact gd1 mv1 rfl
        · exact gd1 mv2 rfl
        · exact gd1 mv3 rfl
        · exact gd1 mv4 rfl
      · refine w_run (va_runVN (As := vs.map (rv G)) (rest := st.map (rv G)) (n := n) (Ts := TWL) ⟨S.1, S.2.1, S.2.2.1, S.2.2.2.1, hts⟩ hM ⟨va_cnB n hts ?_ rfl rfl rfl (va_Nw.of rfl (hts _ ml)) (hts _ mv3) mv5 hR, hts _ mv1, hts _ mv2⟩ hp rfl hln hl.1 hstk hW hd hf) hr m1 hn hl kk
        intro w hw
        simp only [List.mem_cons, List.not_mem_nil, or_false] at hw
        subst hw
        exact gd1 mv4 rfl
    | _ => cases hg
theorem at_callS {p : Program} {e : Env} {R : Room} {s : State} {m : MethodId} {args : Array Value} {below : List Frame} {meth : Method} {c : Code} {Q : State → Prop} {n0 nm : Nat} {E : En} {st vs : List Value} {h h' : Hp} {r : Option Value} {y : MethodName} {cy : ByteArray} {ny lv n index : Nat} {ret : Option FieldType} {F : FN}
    (S : SU G own ini cc nL lvl p s m meth c R n0 nm) (hC : CT G y cy ny ret lv F) (hlv : lv < lvl) (mv : MSd y cy ny ret n) (ml : MLd own index y) (hd : decode cc pc = .ok (.invokestatic index, 3)) (hst : ct st ≤ 8) (hF : F vs h = some (r, h')) (hlen : vs.length = n) (hnm : h'.1 ≤ nm)
    (kk : AT G nL p e R s m args below meth c Q n0 (pc + 3) E (r.toList ++ st) h') : AT G nL p e R s m args below meth c Q n0 pc E (vs.reverse ++ st) h := by
  intro ls H locs hl hr hn
  have m1 := hC.1 _ _ _ _ hF
  have hM := hC.2 _ _ _ _ hF
  have hts := S.2.2.2.2.1.1.all args
  have s1 := SZ_mono hn
  have s2 := SZ_mono m1
  have s3 := SZ_mono hnm
  obtain ⟨mv1, mv3, mv4, mv5, mv6⟩ := mv
  have hp : PreS s H (PC G vs h) (vs.map (rv G)) := ⟨PC_blind G _ h, fun U hU hW => ⟨rfl, S.2.2.2.2.1.moved hW, by rw [hU]; exact hr.less⟩⟩
  have hstk : (F0 m pc ls (List.map (rv G) (vs.reverse ++ st))).stack = (vs.map (rv G)).reverse ++ st.map (rv G) := by
    show List.map (rv G) (vs.reverse ++ st) = _
    simp
  have hW : 2 * (F0 m pc ls (List.map (rv G) (vs.reverse ++ st))).monitorRoom + ((st.map (rv G)).map fun v => v.category).sum ≤ 8 := by
    refine lv_room ?_
    have : (st.map (rv G)).map (fun v => v.category) = st.map (fun v => v.category) := by
      rw [List.map_map]
      exact List.map_congr_left fun v _ => rv_cat v
    rw [this]
    exact hst
  have hf : h.1 - n0 + (h'.1 - h.1) ≤ R.cells ∧ SZ h.1 - SZ n0 + (SZ h'.1 - SZ h.1) ≤ R.slots := by
    have a1 := S.2.2.2.2.2.2.1
    have a2 := S.2.2.2.2.2.2.2.1
    constructor <;> omega
  have hR : (rmd lv (h'.1 - h.1) (SZ h'.1 - SZ h.1)).frames + 1 ≤ R.frames ∧ 8 + (ny + 11) + (rmd lv (h'.1 - h.1) (SZ h'.1 - SZ h.1)).locals ≤ R.locals := by
    obtain ⟨a1, a2⟩ := S.2.2.2.2.2.1
    show lv + 1 ≤ R.frames ∧ 8 + (ny + 11) + 60 * lv ≤ R.locals
    constructor <;> omega
  have hln : (vs.map (rv G)).length = n := by simpa using hlen
  rcases ml with ml | ⟨host, ml⟩
  · refine w_run (va_runS (As := vs.map (rv G)) (rest := st.map (rv G)) (n := n) (Ts := TWL) ⟨S.1, S.2.1, S.2.2.1, S.2.2.2.1, hts⟩ hM (va_cwS n hts ?_ rfl rfl rfl mv5 hR) hp rfl hln hl.1 hstk hW hd hf) hr m1 hn hl kk
    intro w hw
    simp only [va_wsS, List.cons_append, List.nil_append, List.mem_cons, List.not_mem_nil, or_false] at hw
    rcases hw with rfl | rfl | rfl | rfl
    · exact gd1 ml rfl
    · exact gd1 mv1 rfl
    · exact gd1 mv3 rfl
    · exact gd1 mv4 rfl
  · refine w_run (va_runSN (As := vs.map (rv G)) (rest := st.map (rv G)) (n := n) (Ts := TWL) ⟨S.1, S.2.1, S.2.2.1, S.2.2.2.1, hts⟩ hM ⟨va_cnB n hts ?_ rfl rfl rfl (va_Nw.of rfl (hts _ ml)) (hts _ mv3) mv5 hR, hts _ mv1, trivial⟩ hp rfl hln hl.1 hstk hW hd hf) hr m1 hn hl kk
    intro w hw
    simp only [List.mem_cons, List.not_mem_nil, or_false] at hw
    subst hw
    exact gd1 mv4 rfl
end CALL
