/-! the machine's step that makes a row of rows (two lengths), out of the machine's own words -/
/-- the outer row of n, made at a, when i rows stand behind it -/
def mwo (c : ClassId) (n a i : Nat) : Cell := arrV c n fun j => va_rf (if j < i then some (a + 1 + j) else none)
theorem mwo_zero (c : ClassId) (n a : Nat) : ({ cls := c, slots := Array.replicate n .null, vm := .none } : Cell) = mwo c n a 0 := by
  unfold mwo arrV
  congr 1
  apply Array.ext
  · simp
  · intro i h1 h2
    simp [va_rf]
theorem mwo_next (c : ClassId) (n a i : Nat) : (mwo c n a i).setSlot i (.ref (a + 1 + i)) = mwo c n a (i + 1) := by
  unfold mwo
  rw [arrV_store]
  refine congrArg (arrV c n) (funext fun j => ?_)
  by_cases e : j = i
  · subst e
    simp [updV, va_rf]
  · by_cases h : j < i
    · simp [updV, e, h, Nat.lt_succ_of_lt h]
    · simp [updV, e, h, show ¬ j < i + 1 by omega]
theorem mwo_size (c : ClassId) (n a i : Nat) : (mwo c n a i).slots.size = n := by simp [mwo, arrV]
/-- the state when the outer row and i rows are made -/
def mws (s : State) (cA : ClassId) (n : Nat) (row : Cell) : Nat → State
  | 0 => s.pushCell (mwo cA n s.heap.size 0)
  | i + 1 => ((mws s cA n row i).pushCell row).setCell s.heap.size (mwo cA n s.heap.size (i + 1))
theorem mw_below (s : State) (x : Cell) {q : Nat} (h : q < s.heap.size) : (s.pushCell x).heap[q]? = s.heap[q]? := by
  show (s.heap.push x)[q]? = _
  rw [Array.getElem?_push]
  simp [Nat.ne_of_lt h]
theorem mw_last (s : State) (x : Cell) : (s.pushCell x).heap[s.heap.size]? = some x := by
  show (s.heap.push x)[s.heap.size]? = _
  simp
theorem mws_heap (s : State) (cA : ClassId) (n : Nat) (row : Cell) : ∀ i : Nat, (mws s cA n row i).heap.size = s.heap.size + 1 + i ∧ (mws s cA n row i).heap[s.heap.size]? = some (mwo cA n s.heap.size i) ∧ (∀ q : Nat, q < s.heap.size → (mws s cA n row i).heap[q]? = s.heap[q]?) ∧ ∀ j : Nat, j < i → (mws s cA n row i).heap[s.heap.size + 1 + j]? = some row
  | 0 => by
    refine ⟨?_, mw_last _ _, fun q hq => mw_below _ _ hq, fun j hj => absurd hj (Nat.not_lt_zero j)⟩
    show (s.heap.push _).size = _
    simp
  | i + 1 => by
    obtain ⟨a, b, o, r⟩ := mws_heap s cA n row i
    have hb : ((mws s cA n row i).pushCell row).heap[s.heap.size]? = some (mwo cA n s.heap.size i) := (mw_below _ _ (by omega)).trans b
    refine ⟨?_, State.heap_setCell_self hb, fun q hq => ?_, fun j hj => ?_⟩
    · show (((mws s cA n row i).heap.push row).setIfInBounds _ _).size = _
      rw [Array.size_setIfInBounds, Array.size_push, a]
      omega
    · exact (State.heap_setCell_other (show s.heap.size ≠ q by omega)).trans ((mw_below _ _ (by omega)).trans (o q hq))
    · refine (State.heap_setCell_other (show s.heap.size ≠ s.heap.size + 1 + j by omega)).trans ?_
      by_cases e : j = i
      · subst e
        rw [← a]
        exact mw_last _ _
      · exact (mw_below _ _ (by omega)).trans (r j (by omega))
theorem mws_vm (s : State) (cA : ClassId) (n : Nat) (row : Cell) : ∀ i : Nat, (mws s cA n row i).vm = s.vm
  | 0 => rfl
  | i + 1 => mws_vm s cA n row i
theorem mws_used (s : State) (cA : ClassId) (n : Nat) (row : Cell) : ∀ i : Nat, (mws s cA n row i).slotsUsed = s.slotsUsed + n + i * row.slots.size
  | 0 => by
    show s.slotsUsed + (mwo cA n s.heap.size 0).slots.size = _
    rw [mwo_size, Nat.zero_mul, Nat.add_zero]
  | i + 1 => by
    have h := mws_used s cA n row i
    show (mws s cA n row i).slotsUsed + row.slots.size = _
    rw [h, Nat.succ_mul]
    omega
theorem mws_setTop (s : State) (f : JFrame) (cA : ClassId) (n : Nat) (row : Cell) : ∀ i : Nat, mws (s.setTop f) cA n row i = (mws s cA n row i).setTop f
  | 0 => rfl
  | i + 1 => by
    show ((mws (s.setTop f) cA n row i).pushCell row).setCell s.heap.size _ = _
    rw [mws_setTop s f cA n row i]
    rfl
section MWS
variable {p : Program} {l : Launch} {e : Env} {R : Room} {s : State} {m : MethodId} {args : Array Value} {below : List Frame} {meth : Method} {c : Code} {T : State} {locs : List Loc} {cells slots : Nat}
theorem mws_stand (X : Stand p l e R s m args below meth c T locs cells slots) (cA : ClassId) (n : Nat) (row : Cell) : ∀ i : Nat, Stand p l e R s m args below meth c (mws T cA n row i) locs (cells + 1 + i) (slots + n + i * row.slots.size)
  | 0 => by
    have h := X.pushed (mwo cA n T.heap.size 0)
    rw [mwo_size] at h
    rw [Nat.zero_mul, Nat.add_zero, Nat.add_zero]
    exact h
  | i + 1 => by
    have hc : ((mws T cA n row i).pushCell row).heap[T.heap.size]? = some (mwo cA n T.heap.size i) := (mw_below _ _ (by have := (mws_heap T cA n row i).1; omega)).trans (mws_heap T cA n row i).2.1
    have h3 := (((mws_stand X cA n row i).pushed row).stored hc i (.ref (T.heap.size + 1 + i))).dropFresh (fun x hx => by rw [List.mem_singleton.mp hx]; exact X.heapGrown)
    rw [mwo_next, show cells + 1 + i + 1 = cells + 1 + (i + 1) by omega, show slots + n + i * row.slots.size + row.slots.size = slots + n + (i + 1) * row.slots.size by rw [Nat.succ_mul]; omega] at h3
    exact h3
end MWS
section MWP
variable {E : CtlPost} {e : Env} {d : Bool} {acts : List Action} {s : State}
theorem mw_new {c comp : ClassId} {k : Class} {ty : FieldType} {n : Nat} {v : Value} {Q : Addr → Pre} (hk : s.vm.classes[c]? = some k) (hkind : k.kind = .array comp ty) (hv : fits ty v = true) (h1 : ¬ n > e.platform.arrayLengthLimit) (h2 : ¬ n * componentBytes ty > e.platform.maxHeapBytes) (h3 : s.heap.size < e.platform.maxCells) (h4 : s.slotsUsed + n ≤ e.platform.maxSlots) (kk : ∀ acts', Q s.heap.size d acts' (s.pushCell { cls := c, slots := Array.replicate n v, vm := .none })) : wp (Jvm.newArray c n v) Q E e d acts s := by
  have hfit : ∀ i w, (Array.replicate n v)[i]? = some w → s.fitsSlot c .none i w = true := by
    intro i w hw
    rw [Array.getElem?_replicate] at hw
    split at hw
    · cases hw
      simp [State.fitsSlot, State.slotType?, hk, hkind, hv]
    · cases hw
  simp only [Jvm.newArray, Jvm.arrayFits, Sem.wp_bind', Jvm.W.ask, Jvm.W.ite, Jvm.W.theClass, hk, hkind, Option.some.injEq, exists_eq_left', h1, h2, if_false, Sem.wp_pure', Jvm.W.alloc, Jvm.W.stop, Jvm.W.mark]
  rw [if_neg (by omega)]
  exact ⟨h3, by rw [Array.size_replicate]; exact h4, hfit, kk _⟩
theorem mw_inner {cI comp : ClassId} {k : Class} {y : Int32} {n : Nat} {Q : Addr → Pre} (hk : s.vm.classes[cI]? = some k) (hkind : k.kind = .array comp .int) (hy : ¬ y < 0) (hn : y.toNatClampNeg = n) (h1 : ¬ n > e.platform.arrayLengthLimit) (h2 : ¬ n * 4 > e.platform.maxHeapBytes) (h3 : s.heap.size < e.platform.maxCells) (h4 : s.slotsUsed + n ≤ e.platform.maxSlots) (kk : ∀ acts', Q s.heap.size d acts' (s.pushCell { cls := cI, slots := Array.replicate n (defaultValue .int), vm := .none })) : wp (Op.multianewarray.make cI [y]) Q E e d acts s := by
  subst hn
  unfold Op.multianewarray.make
  simp only [Sem.wp_bind', Jvm.W.ite, hy, if_false, Sem.wp_pure', Jvm.W.theClass, hk, hkind, Option.some.injEq, exists_eq_left']
  exact mw_new hk hkind rfl h1 h2 h3 h4 kk
theorem mw_rows {cA cI comp : ClassId} {kA kI : Class} {x y : Int32} {n k : Nat} {row : Cell} {Q : Addr → Pre} (hkA : s.vm.classes[cA]? = some kA) (hA : kA.kind = .array cI (.array .int)) (hkI : s.vm.classes[cI]? = some kI) (hI : kI.kind = .array comp .int) (hx : ¬ x < 0) (hy : ¬ y < 0) (hn : x.toNatClampNeg = n) (hk : y.toNatClampNeg = k) (hr : row = { cls := cI, slots := Array.replicate k (defaultValue .int), vm := .none }) (h1 : ¬ n > e.platform.arrayLengthLimit) (h2 : ¬ n * 4 > e.platform.maxHeapBytes) (h3 : ¬ k > e.platform.arrayLengthLimit) (h4 : ¬ k * 4 > e.platform.maxHeapBytes)
    (h5 : s.heap.size + 1 + n ≤ e.platform.maxCells) (h6 : s.slotsUsed + n + n * k ≤ e.platform.maxSlots) (kk : ∀ d' acts', Q s.heap.size d' acts' (mws s cA n row n)) : wp (Op.multianewarray.make cA [x, y]) Q E e d acts s := by
  subst hn
  have hrz : row.slots.size = k := by rw [hr]; simp
  unfold Op.multianewarray.make
  simp only [Sem.wp_bind', Jvm.W.ite, hx, if_false, Sem.wp_pure', Jvm.W.theClass, hkA, hA, Option.some.injEq, exists_eq_left']
  refine mw_new hkA hA rfl h1 h2 (by omega) (by omega) fun acts' => ?_
  rw [mwo_zero cA _ s.heap.size]
  simp only [List.find?, hy, decide_false, Sem.wp_pure', Jvm.W.ite, ite_self, Std.Legacy.Range.forIn_eq_forIn_range', Std.Legacy.Range.size, Nat.sub_zero, Nat.add_sub_cancel, Nat.div_one, Sem.wp_bind']
  refine wp_forIn_inv (fun rest s' => ∃ i, i ≤ x.toNatClampNeg ∧ rest = List.range' i (x.toNatClampNeg - i) ∧ s' = mws s cA x.toNatClampNeg row i) _ _ ⟨0, Nat.zero_le _, rfl, rfl⟩ ?_ ?_
  · rintro z rest s' d' acts' Q' ⟨i, hi, e1, rfl⟩ kq
    have hlt : i < x.toNatClampNeg := by
      rcases Nat.lt_or_ge i x.toNatClampNeg with h | h
      · exact h
      · rw [Nat.sub_eq_zero_of_le h] at e1
        cases e1
    rw [show x.toNatClampNeg - i = x.toNatClampNeg - (i + 1) + 1 by omega, List.range'_succ] at e1
    obtain ⟨rfl, rfl⟩ := List.cons.inj e1
    obtain ⟨a, b, -, -⟩ := mws_heap s cA x.toNatClampNeg row z
    have hu := mws_used s cA x.toNatClampNeg row z
    have hv := mws_vm s cA x.toNatClampNeg row z
    have hz : z * k + k ≤ x.toNatClampNeg * k := by rw [← Nat.succ_mul]; exact Nat.mul_le_mul_right k hlt
    rw [hrz] at hu
    simp only [Sem.wp_bind']
    refine mw_inner (k := kI) (by rw [hv]; exact hkI) hI hy hk h3 h4 (by omega) (by omega) fun acts'' => ?_
    rw [← hr]
    have hc : ((mws s cA x.toNatClampNeg row z).pushCell row).heap[s.heap.size]? = some (mwo cA x.toNatClampNeg s.heap.size z) := (mw_below _ _ (by omega)).trans b
    have hkA' : (mws s cA x.toNatClampNeg row z).vm.classes[cA]? = some kA := by rw [hv]; exact hkA
    rw [Sem.wp_bind']
    refine (Jvm.W.writeLoc _ _ _ _).mpr ⟨_, hc, (by intro h; cases h), (by rw [mwo_size]; exact hlt), ?_, ?_⟩
    · show State.fitsSlot _ cA .none z _ = true
      simp [State.fitsSlot, State.slotType?, hkA', hA]
      rfl
    · refine kq _ _ _ ⟨z + 1, hlt, rfl, ?_⟩
      rw [a, mwo_next]
      rfl
  · rintro s' d' acts' ⟨i, hi, e1, rfl⟩
    have h := congrArg List.length e1
    rw [List.length_nil, List.length_range'] at h
    obtain rfl : i = x.toNatClampNeg := by omega
    exact kk _ _
end MWP
