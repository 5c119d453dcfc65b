/-! the machine's step that makes a row of rows (two lengths): what is made stands in closed form, the loop goes by induction on the rows that are left -/
/-- the outer row of n, made at a, when i rows stand behind it -/
def mwo (c : ClassId) (n a i : Nat) : Cell := arrV c n fun j => va_rf (if j < i then some (a + 1 + j) else none)
theorem mwo_zero (c : ClassId) (n a : Nat) : ({ cls := c, slots := Array.replicate n .null, vm := .none } : Cell) = mwo c n a 0 := by
  unfold mwo arrV
  congr 1
  apply Array.ext
  · simp
  · intro i h1 h2
    simp [va_rf]
theorem mwo_next (c : ClassId) (n a i : Nat) : (mwo c n a i).setSlot i (.ref (a + 1 + i)) = mwo c n a (i + 1) := by
  unfold mwo
  rw [arrV_store]
  refine congrArg (arrV c n) (funext fun j => ?_)
  by_cases e : j = i
  · subst e
    simp [updV, va_rf]
  · by_cases h : j < i
    · simp [updV, e, h, Nat.lt_succ_of_lt h]
    · simp [updV, e, h, show ¬ j < i + 1 by omega]
theorem mwo_size (c : ClassId) (n a i : Nat) : (mwo c n a i).slots.size = n := by simp [mwo, arrV]
/-- the cells of s, the outer row with i places told, then i like rows -/
def mwH (H : Array Cell) (c : ClassId) (n : Nat) (row : Cell) (i : Nat) : Array Cell := H.push (mwo c n H.size i) ++ Array.replicate i row
def mws (s : State) (c : ClassId) (n : Nat) (row : Cell) (i : Nat) : State := { s with heap := mwH s.heap c n row i, slotsUsed := s.slotsUsed + n + i * row.slots.size }
theorem mwH_size (H : Array Cell) (c : ClassId) (n : Nat) (row : Cell) (i : Nat) : (mwH H c n row i).size = H.size + 1 + i := by simp [mwH]
theorem mwH_get (H : Array Cell) (c : ClassId) (n : Nat) (row : Cell) (i q : Nat) : (mwH H c n row i)[q]? = if q < H.size then H[q]? else if q = H.size then some (mwo c n H.size i) else if q < H.size + 1 + i then some row else none := by
  unfold mwH
  rw [Array.getElem?_append, Array.size_push, Array.getElem?_push, Array.getElem?_replicate]
  by_cases h1 : q < H.size
  · simp [h1, show q < H.size + 1 by omega, show q ≠ H.size by omega]
  · by_cases h2 : q = H.size
    · subst h2
      simp
    · by_cases h3 : q < H.size + 1 + i
      · simp [h1, h2, h3, show ¬ q < H.size + 1 by omega, show q - (H.size + 1) < i by omega]
      · simp [h1, h2, h3, show ¬ q < H.size + 1 by omega, show ¬ q - (H.size + 1) < i by omega]
theorem mwH_none (H : Array Cell) (c : ClassId) (n : Nat) (row : Cell) : mwH H c n row 0 = H.push (mwo c n H.size 0) := by simp [mwH]
theorem mwH_more (H : Array Cell) (c : ClassId) (n : Nat) (row : Cell) (i : Nat) : ((mwH H c n row i).push row).setIfInBounds H.size (mwo c n H.size (i + 1)) = mwH H c n row (i + 1) := by
  apply Array.ext_getElem?
  intro q
  rw [Array.getElem?_setIfInBounds, Array.getElem?_push, Array.size_push, mwH_size, mwH_get, mwH_get]
  by_cases h1 : q < H.size
  · simp [h1, show H.size ≠ q by omega, show q ≠ H.size + 1 + i by omega]
  · by_cases h2 : q = H.size
    · subst h2
      simp [show H.size < H.size + 1 + i + 1 by omega]
    · by_cases h3 : q = H.size + 1 + i
      · subst h3
        simp [show ¬ H.size + 1 + i < H.size by omega, show H.size ≠ H.size + 1 + i by omega, show H.size + 1 + i ≠ H.size by omega, show H.size + 1 + i < H.size + 1 + (i + 1) by omega]
      · by_cases h4 : q < H.size + 1 + i
        · simp [h1, h2, h3, h4, Ne.symm h2, show q < H.size + 1 + (i + 1) by omega]
        · simp [h1, h2, h3, h4, Ne.symm h2, show ¬ q < H.size + 1 + (i + 1) by omega]
theorem mws_none (s : State) (c : ClassId) (n : Nat) (row : Cell) : s.pushCell { cls := c, slots := Array.replicate n .null } = mws s c n row 0 := by
  show ({ s with heap := s.heap.push ({ cls := c, slots := Array.replicate n .null, vm := .none } : Cell), slotsUsed := s.slotsUsed + (Array.replicate n Value.null).size } : State) = { s with heap := mwH s.heap c n row 0, slotsUsed := s.slotsUsed + n + 0 * row.slots.size }
  rw [mwH_none, ← mwo_zero, Array.size_replicate, Nat.zero_mul, Nat.add_zero]
theorem mws_more (s : State) (c : ClassId) (n : Nat) (row : Cell) (i : Nat) : ((mws s c n row i).pushCell row).setCell s.heap.size (mwo c n s.heap.size (i + 1)) = mws s c n row (i + 1) := by
  show ({ s with heap := ((mwH s.heap c n row i).push row).setIfInBounds s.heap.size (mwo c n s.heap.size (i + 1)), slotsUsed := s.slotsUsed + n + i * row.slots.size + row.slots.size } : State) = { s with heap := mwH s.heap c n row (i + 1), slotsUsed := s.slotsUsed + n + (i + 1) * row.slots.size }
  rw [mwH_more, Nat.succ_mul, ← Nat.add_assoc]
theorem mws_heap (s : State) (cA : ClassId) (n : Nat) (row : Cell) (i : Nat) : (mws s cA n row i).heap.size = s.heap.size + 1 + i ∧ (mws s cA n row i).heap[s.heap.size]? = some (mwo cA n s.heap.size i) ∧ (∀ q : Nat, q < s.heap.size → (mws s cA n row i).heap[q]? = s.heap[q]?) ∧ ∀ j : Nat, j < i → (mws s cA n row i).heap[s.heap.size + 1 + j]? = some row :=
  ⟨mwH_size .., (mwH_get ..).trans (by simp), fun q hq => (mwH_get ..).trans (if_pos hq), fun j hj => (mwH_get ..).trans (by simp [show ¬ s.heap.size + 1 + j < s.heap.size by omega, show s.heap.size + 1 + j ≠ s.heap.size by omega, hj])⟩
theorem mws_setTop (s : State) (f : JFrame) (cA : ClassId) (n : Nat) (row : Cell) (i : Nat) : mws (s.setTop f) cA n row i = (mws s cA n row i).setTop f := rfl
/-- the outer row stands where it was when one more cell is behind -/
theorem mws_outer (s : State) (cA : ClassId) (n : Nat) (row : Cell) (i : Nat) : ((mws s cA n row i).pushCell row).heap[s.heap.size]? = some (mwo cA n s.heap.size i) := by
  show ((mwH s.heap cA n row i).push row)[s.heap.size]? = _
  rw [Array.getElem?_push, mwH_size, if_neg (by omega), mwH_get]
  simp
section MWS
variable {p : Program} {l : Launch} {e : Env} {R : Room} {s : State} {m : MethodId} {args : Array Value} {below : List Frame} {meth : Method} {c : Code} {T : State} {locs : List Loc} {cells slots : Nat}
theorem mws_stand (X : Stand p l e R s m args below meth c T locs cells slots) (cA : ClassId) (n : Nat) (row : Cell) (i : Nat) : Stand p l e R s m args below meth c (mws T cA n row i) locs (cells + 1 + i) (slots + n + i * row.slots.size) := by
  induction i with
  | zero => simpa [mws_none T cA n row] using X.pushed { cls := cA, slots := Array.replicate n .null }
  | succ i ih =>
    have h := ((ih.pushed row).stored (mws_outer T cA n row i) i (.ref (T.heap.size + 1 + i))).dropFresh (fun x hx => by rw [List.mem_singleton.mp hx]; exact X.heapGrown)
    rw [mwo_next, mws_more, Nat.add_assoc (slots + n), ← Nat.succ_mul] at h
    exact h
end MWS
section MWP
variable {E : CtlPost} {e : Env} {d : Bool} {acts : List Action} {s : State}
/-- if each round adds its row, m rounds from the i-th on add all that are left -/
theorem mw_loop {cA : ClassId} {n : Nat} {row : Cell} {f : Nat → PUnit → Sem (ForInStep PUnit)} {Q : PUnit → Pre}
    (one : ∀ (i : Nat) (d1 : Bool) (a1 : List Action) (Q1 : ForInStep PUnit → Pre), i < n → (∀ d2 a2, Q1 (.yield PUnit.unit) d2 a2 (mws s cA n row (i + 1))) → wp (f i PUnit.unit) Q1 E e d1 a1 (mws s cA n row i))
    (done : ∀ d2 a2, Q PUnit.unit d2 a2 (mws s cA n row n)) (m : Nat) : ∀ (i : Nat) (d1 : Bool) (a1 : List Action), i + m = n → wp (forIn (List.range' i m) PUnit.unit f) Q E e d1 a1 (mws s cA n row i) := by
  induction m with
  | zero =>
    intro i d1 a1 hi
    have hi : i = n := hi
    subst hi
    simp only [List.range'_zero, List.forIn_nil, Sem.wp_pure']
    exact done _ _
  | succ m ih =>
    intro i d1 a1 hi
    simp only [List.range'_succ, List.forIn_cons, Sem.wp_bind']
    exact one i d1 a1 _ (by omega) fun d2 a2 => ih (i + 1) d2 a2 (by omega)
/-- one round: a row is made and told to the outer one -/
theorem mw_round {cA cI comp : ClassId} {kA kI : Class} {y : Int32} {n k i : Nat} {row : Cell} {Q1 : ForInStep PUnit → Pre} (hkA : s.vm.classes[cA]? = some kA) (hA : kA.kind = .array cI (.array .int)) (hkI : s.vm.classes[cI]? = some kI) (hI : kI.kind = .array comp .int) (hy : ¬ y < 0) (hk : y.toNatClampNeg = k) (hr : row = { cls := cI, slots := Array.replicate k (defaultValue .int), vm := .none })
    (h3 : ¬ k > e.platform.arrayLengthLimit) (h4 : ¬ k * 4 > e.platform.maxHeapBytes) (hi : i < n) (r1 : s.heap.size + 1 + i < e.platform.maxCells) (r2 : s.slotsUsed + n + i * k + k ≤ e.platform.maxSlots) (go : ∀ d2 a2, Q1 (.yield PUnit.unit) d2 a2 (mws s cA n row (i + 1))) :
    wp (do writeLoc s.heap.size i (.ref (← Op.multianewarray.make cI [y])); Pure.pure (ForInStep.yield PUnit.unit)) Q1 E e d acts (mws s cA n row i) := by
  have hz : row.slots.size = k := by rw [hr]; exact Array.size_replicate
  have hs : (mws s cA n row i).heap.size = s.heap.size + 1 + i := mwH_size ..
  have hu : (mws s cA n row i).slotsUsed = s.slotsUsed + n + i * k := by rw [← hz]; rfl
  simp only [Op.multianewarray.make, Sem.wp_bind', Jvm.W.theClass, Jvm.W.ite, if_neg hy, Sem.wp_pure', hk]
  refine ⟨kI, hkI, ?_⟩
  simp only [hI]
  refine Jvm.W.newArray_of (s := mws s cA n row i) hkI hI h3 h4 (by omega) (by omega) rfl fun a2 => ?_
  rw [← hr]
  rw [Sem.wp_bind']
  refine (Jvm.W.writeLoc _ _ _ _).mpr ⟨_, mws_outer s cA n row i, (by intro h; cases h), (by rw [mwo_size]; exact hi), ?_, ?_⟩
  · show State.fitsSlot _ cA .none i _ = true
    simp [State.fitsSlot, State.slotType?, show (mws s cA n row i).vm.classes[cA]? = some kA from hkA, hA]
    rfl
  · rw [hs, mwo_next, mws_more]
    exact go _ _
theorem mw_rows {cA cI comp : ClassId} {kA kI : Class} {x y : Int32} {n k : Nat} {row : Cell} {Q : Addr → Pre} (hkA : s.vm.classes[cA]? = some kA) (hA : kA.kind = .array cI (.array .int)) (hkI : s.vm.classes[cI]? = some kI) (hI : kI.kind = .array comp .int) (hx : ¬ x < 0) (hy : ¬ y < 0) (hn : x.toNatClampNeg = n) (hk : y.toNatClampNeg = k) (hr : row = { cls := cI, slots := Array.replicate k (defaultValue .int), vm := .none }) (h1 : ¬ n > e.platform.arrayLengthLimit) (h2 : ¬ n * 4 > e.platform.maxHeapBytes) (h3 : ¬ k > e.platform.arrayLengthLimit) (h4 : ¬ k * 4 > e.platform.maxHeapBytes)
    (h5 : s.heap.size + 1 + n ≤ e.platform.maxCells) (h6 : s.slotsUsed + n + n * k ≤ e.platform.maxSlots) (kk : ∀ d' acts', Q s.heap.size d' acts' (mws s cA n row n)) : wp (Op.multianewarray.make cA [x, y]) Q E e d acts s := by
  have room : ∀ i, i < n → i * k + k ≤ n * k := fun i hi => by rw [← Nat.succ_mul]; exact Nat.mul_le_mul_right k hi
  unfold Op.multianewarray.make
  simp only [Sem.wp_bind', Jvm.W.theClass, Jvm.W.ite, if_neg hx, Sem.wp_pure', hn]
  refine ⟨kA, hkA, ?_⟩
  simp only [hA, Sem.wp_bind']
  refine Jvm.W.newArray_of hkA hA h1 h2 (by omega) (by omega) rfl fun a2 => ?_
  rw [mws_none s cA n row]
  simp only [List.find?, hy, decide_false, Sem.wp_pure', Jvm.W.ite, ite_self, Std.Legacy.Range.forIn_eq_forIn_range', Std.Legacy.Range.size, Nat.sub_zero, Nat.add_sub_cancel, Nat.div_one, Sem.wp_bind']
  exact mw_loop (fun i d1 a1 Q1 hi go => mw_round hkA hA hkI hI hy hk hr h3 h4 hi (by omega) (by have := room i hi; omega) go) kk n 0 _ _ (Nat.zero_add n)
end MWP
