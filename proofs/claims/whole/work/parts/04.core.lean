/-! the pure heap: how many cells are made, the whole numbers that they hold, the references that they hold -/
abbrev Hp : Type := Nat × (Nat → Nat → Int32) × (Nat → Nat → Option Nat)
abbrev En : Type := List Value
/-- kind and size of each cell, in the order in which the two constructors make them -/
def LYL : List (Nat × Nat) := [(10, 15), (13, 12), (13, 12), (17, 4), (15, 6), (18, 6), (13, 9), (13, 9), (13, 9), (13, 9), (13, 9), (13, 9), (8, 2), (12, 200), (7, 2), (18, 6), (13, 6), (13, 6), (13, 6), (13, 6), (13, 6), (13, 6), (13, 6), (3, 6), (13, 160), (13, 160), (13, 12), (13, 12), (9, 5), (16, 20), (5, 8), (5, 8), (5, 8), (5, 8), (5, 8), (5, 8), (5, 8), (5, 8), (5, 8), (5, 8), (5, 8), (5, 8), (5, 8), (5, 8), (5, 8), (5, 8), (5, 8), (5, 8), (5, 8), (5, 8), (9, 5), (16, 20), (5, 8), (5, 8), (5, 8), (5, 8), (5, 8), (5, 8), (5, 8), (5, 8), (5, 8), (5, 8), (5, 8), (5, 8), (5, 8), (5, 8), (5, 8), (5, 8), (5, 8), (5, 8), (5, 8), (5, 8), (9, 5), (16, 20), (5, 8), (5, 8), (5, 8), (5, 8), (5, 8), (5, 8), (5, 8), (5, 8), (5, 8), (5, 8), (5, 8), (5, 8), (5, 8), (5, 8), (5, 8), (5, 8), (5, 8), (5, 8), (5, 8), (5, 8), (9, 5), (16, 20), (5, 8), (5, 8), (5, 8), (5, 8), (5, 8), (5, 8), (5, 8), (5, 8), (5, 8), (5, 8), (5, 8), (5, 8), (5, 8), (5, 8), (5, 8), (5, 8), (5, 8), (5, 8), (5, 8), (5, 8), (3, 6), (13, 160), (13, 160), (13, 12), (13, 12), (3, 6), (13, 160), (13, 160), (13, 12), (13, 12), (3, 6), (13, 160), (13, 160), (13, 12), (13, 12), (3, 6), (13, 160), (13, 160), (13, 12), (13, 12), (3, 6), (13, 160), (13, 160), (13, 12), (13, 12), (3, 6), (13, 160), (13, 160), (13, 12), (13, 12), (4, 5), (1, 16), (6, 2), (13, 13), (13, 64), (13, 21), (13, 20), (13, 20), (13, 20), (13, 1200), (13, 1200), (2, 5), (13, 21), (13, 1260), (13, 21), (13, 21), (0, 5), (13, 20), (13, 20), (13, 12), (11, 62), (13, 12), (13, 12), (13, 4), (13, 4), (13, 4), (13, 4), (13, 88), (13, 88), (13, 88), (13, 88), (13, 88), (13, 88), (13, 88), (13, 88), (13, 54), (13, 36), (12, 200), (13, 180), (13, 180), (13, 12), (13, 12), (13, 12), (13, 1080), (13, 6), (13, 72), (13, 72), (13, 72), (13, 180), (13, 13), (13, 22), (13, 22), (13, 22), (13, 22), (13, 22), (13, 22), (13, 22), (14, 22), (13, 20), (13, 9), (13, 6561), (13, 20), (13, 20), (13, 12), (13, 6), (13, 4)]
def LY (a : Nat) : Nat × Nat := LYL.getD a (13, 0)
/-- the slots of the first n cells -/
def SZ (n : Nat) : Nat := ((LYL.take n).map (fun q => q.2)).sum

def wI (h : Hp) (a k : Nat) (v : Int32) : Hp := (h.1, fun x j => if x = a ∧ j = k then v else h.2.1 x j, h.2.2)
def wR (h : Hp) (a k : Nat) (v : Option Nat) : Hp := (h.1, h.2.1, fun x j => if x = a ∧ j = k then v else h.2.2 x j)
/-- which fields hold whole numbers -/
def isNum : FieldType → Bool
  | .int => true
  | .boolean => true
  | .byte => true
  | .char => true
  | .short => true
  | _ => false
def tyK (c : Nat) : Nat → FieldType := match c with
  | 0 => tyX0
  | 1 => tyX1
  | 2 => tyX2
  | 3 => tyX3
  | 4 => tyX4
  | 5 => tyX5
  | 6 => tyX6
  | 7 => tyX7
  | 8 => tyX8
  | 9 => tyX9
  | 10 => tyX10
  | _ => tyX11
/-- launch; classes and slots; the heap at the law's entry; the addresses of what was there before; the script -/
abbrev GG : Type := Launch × va_G × Heap × (Nat → Nat) × Nat × (Nat → Int32)
abbrev gD (G : GG) : va_G := G.2.1
abbrev gH (G : GG) : Heap := G.2.2.1
def ad (G : GG) (a : Nat) : Nat := if a < 1000 then (gH G).size + a else G.2.2.2.1 a
def rv (G : GG) : Value → Value
  | .ref a => .ref (ad G a)
  | v => v
def okv : Value → Bool
  | .retAddr _ => false
  | _ => true
def fE (G : GG) (h : Hp) (c a k : Nat) : Value := if isNum (tyK c k) then .int (h.2.1 a k) else va_rf ((h.2.2 a k).map (ad G))
def EE (G : GG) (h : Hp) (a : Nat) : va_E :=
  if (LY a).1 < 12 then .inr ((LY a).1, (List.range (LY a).2).map (fE G h (LY a).1 a))
  else if (LY a).1 < 15 then .inl ((gD G).1 (LY a).1, (LY a).2, .inl (h.2.1 a))
  else .inl ((gD G).1 (LY a).1, (LY a).2, .inr (.inr (.inr (.inr (fun j => (h.2.2 a j).map (ad G))))))
def WS (G : GG) (h : Hp) : va_W := (List.range h.1).map (fun a => (ad G a, EE G h a))
abbrev gA (G : GG) : Nat → Prop := fun q => (gH G).size ≤ q
def Rel (G : GG) (h : Hp) (H : Heap) (locs : List Loc) : Prop := va_P (gD G) vwCl (WS G h) H ∧ va_S (gA G) (gH G) H locs ∧ H.size = (gH G).size + h.1 ∧ h.1 ≤ 1000
def LR (G : GG) (nL : Nat) (E : En) (ls : Array Slot) : Prop := ls.size = nL ∧ lv_wf ls ∧ ∀ (i : Nat) (v : Value), E[i]? = some v → okv v = true → ls[i]? = some (.val (rv G v))
abbrev atys (G : GG) : List (ClassId × FieldType) := [((gD G).1 12, .byte), ((gD G).1 13, .int), ((gD G).1 14, .boolean), ((gD G).1 15, .object RX3), ((gD G).1 16, .object RX5), ((gD G).1 17, .object RX9), ((gD G).1 18, .array .int)]
theorem ad_lt (G : GG) {a : Nat} (h : a < 1000) : ad G a = (gH G).size + a := if_pos h
theorem WS_at (G : GG) (h : Hp) {a : Nat} (ha : a < h.1) : (WS G h)[a]? = some (ad G a, EE G h a) := by
  unfold WS
  rw [List.getElem?_map, List.getElem?_range ha]
  rfl
theorem WS_inv (G : GG) (h : Hp) {k : Nat} {q : Nat × va_E} (hk : (WS G h)[k]? = some q) : k < h.1 ∧ q = (ad G k, EE G h k) := by
  have hl : k < h.1 := by
    have := (List.getElem?_eq_some_iff.mp hk).1
    simpa [WS] using this
  rw [WS_at G h hl] at hk
  exact ⟨hl, (Option.some.inj hk).symm⟩
theorem WS_D (G : GG) (h : Hp) (hn : h.1 ≤ 1000) : va_D (gA G) (WS G h) := by
  refine ⟨fun i j p q hi hj hpq => ?_, fun k q hk => ?_⟩
  · obtain ⟨li, rfl⟩ := WS_inv G h hi
    obtain ⟨lj, rfl⟩ := WS_inv G h hj
    dsimp only at hpq
    rw [ad_lt G (by omega), ad_lt G (by omega)] at hpq
    omega
  · obtain ⟨lk, rfl⟩ := WS_inv G h hk
    dsimp only [gA]
    rw [ad_lt G (by omega)]
    omega
/-- the tables' words at a state -/
def warmable : Cond → Bool
  | .fieldLinkNest _ _ _ _ _ _ => true
  | .methodLinkNest _ _ _ _ => true
  | w => w.onTables && w.keeps
def TW (s : State) : Prop := ∀ w ∈ lw_tbl, warmable w = true → va_Nw w s
theorem warm_of {w : Cond} (hw : warmable w = true) {s U : State} (hW : s.WarmedH U.vm) (h : va_Nw w s) : va_Nw w U := by
  cases w
  case fieldLinkNest => exact va_Nw.warmF hW h
  case methodLinkNest => exact va_Nw.warmM hW h
  all_goals exact word_at hW (Or.inl hw) h
theorem and1 {a b : Bool} (h : (a && b) = true) : a = true := (Bool.and_eq_true_iff.mp h).1
theorem onT_of {w : Cond} (hw : warmable w = true) : w.onTables = true := by
  cases w
  case fieldLinkNest => rfl
  case methodLinkNest => rfl
  all_goals first | exact and1 hw | simp [warmable, Cond.onTables] at hw
theorem TW.use {s : State} (h : TW s) {w : Cond} (hw : w ∈ lw_tbl) (hg : warmable w = true) (A : Array Value) : w.before A s = true := va_Nw.use (onT_of hg) (h w hw hg)
theorem TW.warm {s U : State} (h : TW s) (hW : s.WarmedH U.vm) : TW U := fun w hw hg => warm_of hg hW (h w hw hg)
theorem TW.same {s U : State} (h : TW s) (e : s.vm = U.vm) : TW U := fun w hw hg => va_Nw.same (onT_of hg) e (h w hw hg)
/-- a static array of whole numbers, the script: what is there before the law begins -/
def byS : List (List Int32) := [[115, 103, 119, 102, 122, 121, 98, 97], [107, 109, 110, 114, 101, 120, 118, 100, 106, 99, 108, 104, 111]]
/-- the two texts that the reader of laws holds -/
def SK (G : GG) (s : State) : Prop := vk_R RX4 58 "sgwfzyba" (G.2.2.2.1 1002) s ∧ vk_R RX4 104 "kmnrexvdjclho" (G.2.2.2.1 1003) s ∧ vk_S 2 [8, 13] byS (fun i => G.2.2.2.1 (1002 + i)) (fun i => G.2.2.2.1 (1004 + i)) (gA G) s (gH G) ∧ va_Z "java/lang/String" "COMPACT_STRINGS" "Z" (.int 1) (gA G) s (gH G)
theorem SK.moved {G : GG} {s U : State} (h : SK G s) (hW : s.WarmedH U.vm) : SK G U := ⟨h.1.warm hW, h.2.1.warm hW, h.2.2.1.moved hW.alike, h.2.2.2.moved hW.alike⟩
def XK (G : GG) (s : State) : Prop := va_Z RX10 "CLAUSE_OF_KIND" "[I" (.ref (G.2.2.2.1 1000)) (gA G) s (gH G) ∧ va_T .int (G.2.2.2.1 1000) 8 (fun j => .int ([0, 1, 2, -1, -1, -1, 3, 4].getD j 0)) (gA G) s (gH G) ∧ va_X (G.2.2.2.1 1001) G.2.2.2.2.1 G.2.2.2.2.2 s (gH G) ∧ SK G s
def aoa (s : State) : Prop := (Cond.arrayOver (.array .int)).before #[] s = true
theorem aoa.moved {u U : State} (hvm : u.vm.Alike U.vm) (h : aoa u) : aoa U := by
  obtain ⟨comp, c, k, h1, h2, h3, h4, h5⟩ := arrayOverA_spec (show (Cond.arrayOver (.array .int)).holds #[] u none u [] = true from h)
  obtain ⟨k', hk', he⟩ := hvm.2.2 _ _ h3
  have hi : (U.vm.classes.findIdx? fun (x : Class) => match x.kind with | .array component _ => component == comp | _ => false) = some c := by
    rw [hvm.findIdx?_eq _ (fun _ => rfl)]
    exact h2
  have hkind : k'.kind = .array comp (.array .int) := by rw [he]; exact h4
  have f1 : U.vm.findClass (FieldType.array .int).toString = some comp := by rw [hvm.findClass]; exact h1
  have f2 : U.vm.findClass ("[" ++ (FieldType.array .int).toString) = some c := by rw [hvm.findClass]; exact h5
  unfold aoa Cond.before Cond.holds
  simp only [Cond.value]
  rw [f1, Option.bind_some]
  refine (congrArg (fun o : Option Nat => (o.bind (fun c => (U.vm.classes[c]?).map fun (k : Class) => match k.kind with | .array _ ty => decide (ty = FieldType.array .int) && decide (U.vm.findClass ("[" ++ (FieldType.array .int).toString) = some c) | _ => false) == some true)) hi).trans ?_
  simp [hk', hkind, f2]
def AC (s : State) : Prop := ∀ ty : FieldType, ty ∈ [FieldType.byte, .int, .boolean] → ∀ A : Array Value, (Cond.arrayClass ty).before A s = true
theorem AC.warm {s U : State} (h : AC s) (hW : s.WarmedH U.vm) : AC U := fun ty ht A => word_at hW (Or.inr ⟨_, rfl⟩) (h ty ht A)
def KK (G : GG) (s : State) : Prop := TW s ∧ va_K (gD G) vwCl (atys G) s ∧ (va_AO RX9 s ∧ va_AO RX3 s ∧ va_AO RX5 s ∧ aoa s ∧ AC s) ∧ XK G s
theorem KK.moved {G : GG} {s U : State} (h : KK G s) (hW : s.WarmedH U.vm) : KK G U := by
  obtain ⟨h1, h2, ⟨a1, a2, a3, a4, a5⟩, x1, x2, x3, x4⟩ := h
  have al := hW.alike
  exact ⟨h1.warm hW, h2.moved al, ⟨a1.moved al, a2.moved al, a3.moved al, a4.moved al, a5.warm hW⟩, x1.moved al, x2.moved al, x3.moved al, x4.moved hW⟩
theorem KK.same {G : GG} {s U : State} (h : KK G s) (e : s.vm = U.vm) : KK G U := h.moved (by rw [← e]; exact State.WarmedH.refl s)
/-- the surroundings of a method's walk: the machine, its code, its room: n0 cells were made as it began, at most nm will be made when it ends -/
def SU (G : GG) (own : String) (ini : Bool) (cc : ByteArray) (nL lvl : Nat) (p : Program) (s : State) (m : MethodId) (meth : Method) (c : Code) (R : Room) (n0 nm : Nat) : Prop :=
  p.tables.exec = Jvm.exec ∧ c.code = cc ∧ c.maxLocals = nL ∧ s.vm.findClass own = some m.cls ∧ KK G s ∧ (lvl ≤ R.frames ∧ 60 * lvl ≤ R.locals) ∧ nm - n0 ≤ R.cells ∧ SZ nm - SZ n0 ≤ R.slots ∧ (ini = true → meth.name = "<init>")
/-- at pc, with the locals E, the stack st, the heap h, the machine comes to Q -/
def AT (G : GG) (nL : Nat) (p : Program) (e : Env) (R : Room) (s : State) (m : MethodId) (args : Array Value) (below : List Frame) (meth : Method) (c : Code) (Q : State → Prop) (n0 : Nat) (pc : Nat) (E : En) (st : List Value) (h : Hp) : Prop :=
  ∀ (ls : Array Slot) (H : Heap) (locs : List Loc), LR G nL E ls → Rel G h H locs → n0 ≤ h.1 → W p G.1 e R s m args below meth c H locs (h.1 - n0) (SZ h.1 - SZ n0) Q (F0 m pc ls (st.map (rv G)))
/-- the words of a stack -/
def ct (st : List Value) : Nat := (st.map fun v => v.category).sum
/-- from pc to pc' the code puts what f says upon the stack -/
def EV {α : Type} (inj : α → Value) (G : GG) (own : String) (ini : Bool) (cc : ByteArray) (nL lvl d : Nat) (pc pc' : Nat) (f : En → Hp → Option (α × Hp)) : Prop :=
  (∀ E h v h', f E h = some (v, h') → h.1 ≤ h'.1) ∧
  ∀ (p : Program) (e : Env) (R : Room) (s : State) (m : MethodId) (args : Array Value) (below : List Frame) (meth : Method) (c : Code) (Q : State → Prop) (n0 nm : Nat), SU G own ini cc nL lvl p s m meth c R n0 nm →
    ∀ (E : En) (st : List Value) (h : Hp) (v : α) (h' : Hp), ct st ≤ d → f E h = some (v, h') → h'.1 ≤ nm → AT G nL p e R s m args below meth c Q n0 pc' E (inj v :: st) h' → AT G nL p e R s m args below meth c Q n0 pc E st h
/-- the same of a row of values, the last one on top -/
def EVs (G : GG) (own : String) (ini : Bool) (cc : ByteArray) (nL lvl d : Nat) (pc pc' : Nat) (f : En → Hp → Option (List Value × Hp)) : Prop :=
  (∀ E h v h', f E h = some (v, h') → h.1 ≤ h'.1) ∧
  ∀ (p : Program) (e : Env) (R : Room) (s : State) (m : MethodId) (args : Array Value) (below : List Frame) (meth : Method) (c : Code) (Q : State → Prop) (n0 nm : Nat), SU G own ini cc nL lvl p s m meth c R n0 nm →
    ∀ (E : En) (st : List Value) (h : Hp) (vs : List Value) (h' : Hp), ct st ≤ d → f E h = some (vs, h') → h'.1 ≤ nm → AT G nL p e R s m args below meth c Q n0 pc' E (vs.reverse ++ st) h' → AT G nL p e R s m args below meth c Q n0 pc E st h
/-- a condition: to pt if it holds, to pf if not -/
def CJ (G : GG) (own : String) (ini : Bool) (cc : ByteArray) (nL lvl d : Nat) (pc pt pf : Nat) (f : En → Hp → Option (Bool × Hp)) : Prop :=
  (∀ E h v h', f E h = some (v, h') → h.1 ≤ h'.1) ∧
  ∀ (p : Program) (e : Env) (R : Room) (s : State) (m : MethodId) (args : Array Value) (below : List Frame) (meth : Method) (c : Code) (Q : State → Prop) (n0 nm : Nat), SU G own ini cc nL lvl p s m meth c R n0 nm →
    ∀ (E : En) (st : List Value) (h : Hp) (v : Bool) (h' : Hp), ct st ≤ d → f E h = some (v, h') → h'.1 ≤ nm → AT G nL p e R s m args below meth c Q n0 (if v then pt else pf) E st h' → AT G nL p e R s m args below meth c Q n0 pc E st h
abbrev Rs : Type := Nat × Value × En × Hp
abbrev Sm : Type := En → Hp → Option Rs
/-- what a return needs: the answer r and the heap hF stand; the machine leaves the method into Q -/
def RT (G : GG) (cc : ByteArray) (p : Program) (e : Env) (R : Room) (s : State) (m : MethodId) (args : Array Value) (below : List Frame) (meth : Method) (c : Code) (Q : State → Prop) (n0 : Nat) (r : Option Value) (h : Hp) : Prop :=
  ∀ (pc : Nat) (ins : Instr) (ls : Array Slot) (H : Heap) (locs : List Loc), decode cc pc = .ok (ins, 1) → (match r with | none => ins = .return_ | some (.int _) => ins = .ireturn | some (.long _) => ins = .lreturn | some (.ref _) => ins = .areturn | _ => False) → Rel G h H locs → n0 ≤ h.1 → W p G.1 e R s m args below meth c H locs (h.1 - n0) (SZ h.1 - SZ n0) Q (F0 m pc ls (r.toList.map (rv G)))
/-- a statement: 0 goes on at nx, 3 breaks to br, 4 continues at co, 1 and 2 return -/
def ST (G : GG) (own : String) (ini : Bool) (cc : ByteArray) (nL lvl : Nat) (pc nx br co : Nat) (f : Sm) : Prop :=
  (∀ E h o v E' h', f E h = some (o, v, E', h') → h.1 ≤ h'.1) ∧
  ∀ (p : Program) (e : Env) (R : Room) (s : State) (m : MethodId) (args : Array Value) (below : List Frame) (meth : Method) (c : Code) (Q : State → Prop) (n0 nm : Nat), SU G own ini cc nL lvl p s m meth c R n0 nm →
    ∀ (E : En) (h : Hp) (o : Nat) (v : Value) (E' : En) (h' : Hp), f E h = some (o, v, E', h') → h'.1 ≤ nm →
      (o = 0 → AT G nL p e R s m args below meth c Q n0 nx E' [] h') → (o = 3 → AT G nL p e R s m args below meth c Q n0 br E' [] h') → (o = 4 → AT G nL p e R s m args below meth c Q n0 co E' [] h') →
      (o = 1 → RT G cc p e R s m args below meth c Q n0 none h') → (o = 2 → RT G cc p e R s m args below meth c Q n0 (some v) h') → (o = 0 ∨ o = 1 ∨ o = 2 ∨ o = 3 ∨ o = 4) → AT G nL p e R s m args below meth c Q n0 pc E [] h
