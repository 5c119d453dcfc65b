/-! the same in a walk -/
section MWL
variable {p : Program} {l : Launch} {e : Env} {R : Room} {s : State} {m : MethodId} {args : Array Value} {below : List Frame} {meth : Method} {c : Code} {T : State} {locs : List Loc} {cells slots : Nat}
theorem mw_sem {E : CtlPost} {d : Bool} {acts : List Action} {index : Nat} {g : JFrame} {Q : Unit → Pre} {cA cI comp : ClassId} {kA kI : Class} {vm1 : Vm} {x y : Int32} {n k : Nat} {row : Cell} {rest : List Value} (ht : T.topJava?.isSome) (hg : (Jvm.resolveClass g.method.cls index).Gives e.toSetting T.vm (.ok cA) vm1) (hz : vm1.classes.size ≤ T.vm.classes.size) (hst : g.stack = .int y :: .int x :: rest)
    (hkA : vm1.classes[cA]? = some kA) (hA : kA.kind = .array cI (.array .int)) (hkI : vm1.classes[cI]? = some kI) (hI : kI.kind = .array comp .int) (hx : ¬ x < 0) (hy : ¬ y < 0) (hn : x.toNatClampNeg = n) (hk : y.toNatClampNeg = k) (hr : row = { cls := cI, slots := Array.replicate k (defaultValue .int), vm := .none }) (h1 : ¬ n > e.platform.arrayLengthLimit) (h2 : ¬ n * 4 > e.platform.maxHeapBytes) (h3 : ¬ k > e.platform.arrayLengthLimit) (h4 : ¬ k * 4 > e.platform.maxHeapBytes)
    (h5 : T.heap.size + 1 + n ≤ e.platform.maxCells) (h6 : T.slotsUsed + n + n * k ≤ e.platform.maxSlots) (hm : (mws (T.setVm vm1) cA n row n).topJava?.isSome) (kk : ∀ d' acts', Q () d' acts' ((mws (T.setVm vm1) cA n row n).setTop { g with stack := .ref T.heap.size :: rest })) : wp (Op.multianewarray.sem index 2) Q E e d acts (T.setTop g) := by
  unfold Op.multianewarray.sem
  rw [Sem.wp_bind', Jvm.W.resolveClassAt_links (t := T.setTop g) (State.method?_setTop g ht) hg hz]
  simp only [Sem.wp_bind']
  rw [Jvm.W.popN, if_neg (by decide)]
  refine ⟨g, State.topJava?_setTop' g ht, [.int x, .int y], rest, rfl, hst, ?_⟩
  simp only [List.mapM, List.mapM.loop, Sem.wp_bind', Sem.wp_pure', List.reverse_cons, List.reverse_nil, List.nil_append, List.cons_append]
  rw [show ((T.setTop g).setVm vm1).setTop { g with stack := rest } = (T.setVm vm1).setTop { g with stack := rest } from State.setTop_setTop (s := T.setVm vm1) ..]
  refine mw_rows (s := (T.setVm vm1).setTop { g with stack := rest }) hkA hA hkI hI hx hy hn hk hr h1 h2 h3 h4 h5 h6 fun d' acts' => ?_
  rw [Sem.wp_bind']
  simp only [Jvm.W.mark, Jvm.W.pushRef]
  rw [mws_setTop]
  refine ⟨_, State.topJava?_setTop' _ hm, ?_⟩
  rw [State.setTop_setTop]
  exact kk _ _
theorem mw_multi (X : Stand p l e R s m args below meth c T locs cells slots) (hx : p.tables.exec = Jvm.exec) {own : String} {index : Nat} (ho : s.vm.findClass own = some m.cls) (hl : (Cond.classLink own index ("[" ++ (FieldType.array .int).toString)).before args s = true) (hao : (Cond.arrayOver (.array .int)).before args s = true) (hac : (Cond.arrayClass .int).before args s = true)
    {g : JFrame} (hg : g.method = m) (hd : decode c.code g.pc = .ok (.multianewarray index 2, 4)) {x y : Int32} {rest : List Value} (hst : g.stack = .int y :: .int x :: rest) (hx0 : ¬ x < 0) (hy0 : ¬ y < 0) {n k : Nat} (hn : x.toNatClampNeg = n) (hk : y.toNatClampNeg = k) (hn1 : n ≤ 100) (hk1 : k ≤ 100) (hcl : cells + 1 + n ≤ R.cells) (hsl : slots + n + n * k ≤ R.slots) :
    ∃ (vm1 : Vm) (cA cI : ClassId) (row : Cell), s.vm.findClass ("[" ++ (FieldType.array .int).toString) = some cA ∧ s.vm.findClass (FieldType.array .int).toString = some cI ∧ row = { cls := cI, slots := Array.replicate k (defaultValue .int), vm := .none } ∧ Stand p l e R s m args below meth c (mws (T.setVm vm1) cA n row n) locs (cells + 1 + n) (slots + n + n * k) ∧
      ∀ t, Steps p.tables e below ((mws (T.setVm vm1) cA n row n).setTop { g with pc := g.pc + 4, stack := .ref T.heap.size :: rest }) t → Steps p.tables e below (T.setTop g) t := by
  subst hg
  have hpl : e.platform.magicAccessors = ({} : Platform).magicAccessors := by rw [X.admits.platform]
  obtain ⟨cI, cA, kA, f1, -, hkA, hA, f2⟩ := arrayOverA_spec hao
  obtain ⟨cJ, kI, comp, f3, hkI, hI⟩ := Cond.arrayClass_spec hac
  have f3 : s.vm.findClass (FieldType.array .int).toString = some cJ := f3
  obtain rfl : cJ = cI := Option.some.inj (f3.symm.trans f1)
  obtain ⟨cc, f4, hcc⟩ := Cond.classLink_spec ho hl e.platform hpl
  obtain rfl : cA = cc := Option.some.inj (f2.symm.trans f4)
  obtain ⟨g1, w1, -⟩ := State.classEntry (e := e) X.warmed hcc
  generalize T.vm.noted g.method.cls index (.cls cA) = vm1 at g1 w1
  have al : s.vm.Alike vm1 := w1.alike
  have hz : vm1.classes.size ≤ T.vm.classes.size := (X.warmed.alike.symm.trans al).size_le
  obtain ⟨kA1, hkA1, eA⟩ := al.2.2 _ _ hkA
  obtain ⟨kI1, hkI1, eI⟩ := al.2.2 _ _ hkI
  have hA1 : kA1.kind = .array cJ (.array .int) := by rw [eA]; exact hA
  have hI1 : kI1.kind = .array comp .int := by rw [eI]; exact hI
  have X2 := mws_stand (X.noted w1) cA n { cls := cJ, slots := Array.replicate k (defaultValue .int), vm := .none } n
  rw [show ({ cls := cJ, slots := Array.replicate k (defaultValue .int), vm := .none } : Cell).slots.size = k from Array.size_replicate] at X2
  obtain ⟨q1, q2⟩ := X.roomAbove (a := 1 + n) (b := n + n * k) (by omega) (by omega)
  have r1 := Launch.admits_arrayLengthLimit X.admits
  have r2 := Launch.admits_maxHeapBytes X.admits
  refine ⟨vm1, cA, cJ, _, f2, f1, rfl, X2, fun t ht => ?_⟩
  refine Steps.instr (c := c) (by simpa using X.here) ?_
  rw [hd]
  show wpRun (p.tables.exec (.multianewarray index 2)) _ _ e (T.setTop g)
  rw [hx]
  show wp (Op.multianewarray.sem index 2) _ _ e false [] (T.setTop g)
  refine mw_sem X.here.top g1 hz hst hkA1 hA1 hkI1 hI1 hx0 hy0 hn hk rfl (by omega) (by omega) (by omega) (by omega) (by omega) (by omega) X2.here.top fun d' acts' => ?_
  intro acts
  rw [afterInstr_ok]
  exact ht
end MWL
