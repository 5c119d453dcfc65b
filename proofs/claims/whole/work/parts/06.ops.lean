section OPS
variable {G : GG} {own : String} {ini : Bool} {cc : ByteArray} {nL lvl d pc p1 p2 p3 : Nat}
theorem ct_cons (v : Value) (st : List Value) : ct (v :: st) = v.category + ct st := by simp [ct]
/-- an instruction that takes two values and puts one -/
def B2 {α β γ : Type} (ia : α → Value) (ib : β → Value) (ic : γ → Value) (ins : Instr) (op : α → β → γ) : Prop :=
  ∀ (p : Program) (l : Launch) (e : Env) (R : Room) (s : State) (m : MethodId) (args : Array Value) (below : List Frame) (meth : Method) (c : Code) (H : Heap) (locs : List Loc) (cells slots : Nat) (Q : State → Prop) (cc : ByteArray) (pc : Nat) (ls : Array Slot) (rest : List Value) (x : α) (y : β),
    p.tables.exec = Jvm.exec → c.code = cc → decode cc pc = .ok (ins, 1) → W p l e R s m args below meth c H locs cells slots Q (F0 m (pc + 1) ls (ic (op x y) :: rest)) → W p l e R s m args below meth c H locs cells slots Q (F0 m pc ls (ib y :: ia x :: rest))
def B1 {α γ : Type} (ia : α → Value) (ic : γ → Value) (ins : Instr) (op : α → γ) : Prop :=
  ∀ (p : Program) (l : Launch) (e : Env) (R : Room) (s : State) (m : MethodId) (args : Array Value) (below : List Frame) (meth : Method) (c : Code) (H : Heap) (locs : List Loc) (cells slots : Nat) (Q : State → Prop) (cc : ByteArray) (pc : Nat) (ls : Array Slot) (rest : List Value) (x : α),
    p.tables.exec = Jvm.exec → c.code = cc → decode cc pc = .ok (ins, 1) → W p l e R s m args below meth c H locs cells slots Q (F0 m (pc + 1) ls (ic (op x) :: rest)) → W p l e R s m args below meth c H locs cells slots Q (F0 m pc ls (ia x :: rest))
abbrev oshl (x y : Int32) : Int32 := x <<< (y &&& 31)
abbrev oshr (x y : Int32) : Int32 := x >>> (y &&& 31)
abbrev oushr (x y : Int32) : Int32 := (x.toUInt32 >>> (y.toUInt32 &&& Int32.toUInt32 31)).toInt32
abbrev olshl (x : Int64) (y : Int32) : Int64 := x <<< (y.toInt64 &&& 63)
abbrev olushr (x : Int64) (y : Int32) : Int64 := (x.toUInt64 >>> (y.toInt64.toUInt64 &&& Int64.toUInt64 63)).toInt64
abbrev orem (x y : Int32) : Int32 := x - x / y * y
theorem b_iadd : B2 .int .int .int .iadd (fun x y : Int32 => x + y) := fun _ _ _ _ _ _ _ _ _ _ _ _ _ _ _ _ _ _ _ _ _ hx hb hd k => lv_iadd hx hb hd k
theorem b_isub : B2 .int .int .int .isub (fun x y : Int32 => x - y) := fun _ _ _ _ _ _ _ _ _ _ _ _ _ _ _ _ _ _ _ _ _ hx hb hd k => lv_isub hx hb hd k
theorem b_imul : B2 .int .int .int .imul (fun x y : Int32 => x * y) := fun _ _ _ _ _ _ _ _ _ _ _ _ _ _ _ _ _ _ _ _ _ hx hb hd k => lv_imul hx hb hd k
theorem b_iand : B2 .int .int .int .iand (fun x y : Int32 => x &&& y) := fun _ _ _ _ _ _ _ _ _ _ _ _ _ _ _ _ _ _ _ _ _ hx hb hd k => lv_iand hx hb hd k
theorem b_ior : B2 .int .int .int .ior (fun x y : Int32 => x ||| y) := fun _ _ _ _ _ _ _ _ _ _ _ _ _ _ _ _ _ _ _ _ _ hx hb hd k => lv_ior hx hb hd k
theorem b_ixor : B2 .int .int .int .ixor (fun x y : Int32 => x ^^^ y) := fun _ _ _ _ _ _ _ _ _ _ _ _ _ _ _ _ _ _ _ _ _ hx hb hd k => lv_ixor hx hb hd k
theorem b_ishl : B2 .int .int .int .ishl oshl := fun _ _ _ _ _ _ _ _ _ _ _ _ _ _ _ _ _ _ _ _ _ hx hb hd k => lv_ishl hx hb hd k
theorem b_ishr : B2 .int .int .int .ishr oshr := fun _ _ _ _ _ _ _ _ _ _ _ _ _ _ _ _ _ _ _ _ _ hx hb hd k => lv_ishr hx hb hd k
theorem b_iushr : B2 .int .int .int .iushr oushr := fun _ _ _ _ _ _ _ _ _ _ _ _ _ _ _ _ _ _ _ _ _ hx hb hd k => lv_iushr hx hb hd rfl k
theorem b_land : B2 .long .long .long .land (fun x y : Int64 => x &&& y) := fun _ _ _ _ _ _ _ _ _ _ _ _ _ _ _ _ _ _ _ _ _ hx hb hd k => lv_land hx hb hd k
theorem b_lor : B2 .long .long .long .lor (fun x y : Int64 => x ||| y) := fun _ _ _ _ _ _ _ _ _ _ _ _ _ _ _ _ _ _ _ _ _ hx hb hd k => lv_lor hx hb hd k
theorem b_lxor : B2 .long .long .long .lxor (fun x y : Int64 => x ^^^ y) := fun _ _ _ _ _ _ _ _ _ _ _ _ _ _ _ _ _ _ _ _ _ hx hb hd k => lv_lxor hx hb hd k
theorem b_lshl : B2 .long .int .long .lshl olshl := fun _ _ _ _ _ _ _ _ _ _ _ _ _ _ _ _ _ _ _ _ _ hx hb hd k => lv_lshl hx hb hd rfl k
theorem b_lushr : B2 .long .int .long .lushr olushr := fun _ _ _ _ _ _ _ _ _ _ _ _ _ _ _ _ _ _ _ _ _ hx hb hd k => lv_lushr hx hb hd rfl k
theorem b_i2b : B1 .int .int .i2b (fun x : Int32 => x.toInt8.toInt32) := fun _ _ _ _ _ _ _ _ _ _ _ _ _ _ _ _ _ _ _ _ hx hb hd k => lv_i2b hx hb hd rfl k
theorem b_i2c : B1 .int .int .i2c (fun x : Int32 => (x.toUInt32 % 65536).toInt32) := fun _ _ _ _ _ _ _ _ _ _ _ _ _ _ _ _ _ _ _ _ hx hb hd k => lv_i2c hx hb hd rfl k
theorem ev_bn {α β γ : Type} {ia : α → Value} {ib : β → Value} {ic : γ → Value} {ins : Instr} {op : α → β → γ} {a : En → Hp → Option (α × Hp)} {b : En → Hp → Option (β × Hp)} (hB : B2 ia ib ic ins op) (k : Nat) (hk : ∀ v, (ia v).category ≤ k)
    (r1 : ∀ v, rv G (ia v) = ia v) (r2 : ∀ v, rv G (ib v) = ib v) (r3 : ∀ v, rv G (ic v) = ic v) (h1 : EV ia G own ini cc nL lvl d pc p1 a) (h2 : EV ib G own ini cc nL lvl (d + k) p1 p2 b) (hd : decode cc p2 = .ok (ins, 1)) : EV ic G own ini cc nL lvl d pc (p2 + 1) (bn op a b) := by
  refine ⟨fun E h v h' ef => ?_, fun p e R s m args below meth c Q n0 nm S E st h v h' hst ef hnm kk => ?_⟩
  · obtain ⟨x, e1, ef⟩ := bind_some2 ef
    obtain ⟨y, e2, ef⟩ := bind_some2 ef
    cases ef
    exact Nat.le_trans (h1.1 _ _ _ _ e1) (h2.1 _ _ _ _ e2)
  · obtain ⟨⟨x, hx⟩, e1, ef⟩ := bind_some2 ef
    obtain ⟨⟨y, hy⟩, e2, ef⟩ := bind_some2 ef
    cases ef
    refine h1.2 p e R s m args below meth c Q n0 nm S E st h x hx hst e1 (Nat.le_trans (h2.1 _ _ _ _ e2) hnm) ?_
    refine h2.2 p e R s m args below meth c Q n0 nm S E (ia x :: st) hx y hy (by rw [ct_cons]; have := hk x; omega) e2 hnm ?_
    intro ls H locs hl hr hn
    have k1 := kk ls H locs hl hr hn
    simp only [List.map_cons, r1, r2, r3] at k1 ⊢
    exact hB p _ e R s m args below meth c H locs _ _ Q cc p2 ls _ x y S.1 S.2.1 hd k1
theorem ev_bi {ins : Instr} {op : Int32 → Int32 → Int32} {a b : DI} (hB : B2 .int .int .int ins op) (h1 : EV .int G own ini cc nL lvl d pc p1 a) (h2 : EV .int G own ini cc nL lvl (d + 1) p1 p2 b) (hd : decode cc p2 = .ok (ins, 1)) : EV .int G own ini cc nL lvl d pc (p2 + 1) (bn op a b) :=
  ev_bn hB 1 (fun _ => Nat.le_refl _) (fun _ => rfl) (fun _ => rfl) (fun _ => rfl) h1 h2 hd
theorem ev_bl {ins : Instr} {op : Int64 → Int64 → Int64} {a b : DL} (hB : B2 .long .long .long ins op) (h1 : EV .long G own ini cc nL lvl d pc p1 a) (h2 : EV .long G own ini cc nL lvl (d + 2) p1 p2 b) (hd : decode cc p2 = .ok (ins, 1)) : EV .long G own ini cc nL lvl d pc (p2 + 1) (bn op a b) :=
  ev_bn hB 2 (fun _ => Nat.le_refl _) (fun _ => rfl) (fun _ => rfl) (fun _ => rfl) h1 h2 hd
theorem ev_bli {ins : Instr} {op : Int64 → Int32 → Int64} {a : DL} {b : DI} (hB : B2 .long .int .long ins op) (h1 : EV .long G own ini cc nL lvl d pc p1 a) (h2 : EV .int G own ini cc nL lvl (d + 2) p1 p2 b) (hd : decode cc p2 = .ok (ins, 1)) : EV .long G own ini cc nL lvl d pc (p2 + 1) (bn op a b) :=
  ev_bn hB 2 (fun _ => Nat.le_refl _) (fun _ => rfl) (fun _ => rfl) (fun _ => rfl) h1 h2 hd
theorem ev_un {ins : Instr} {op : Int32 → Int32} {a : DI} (hB : B1 .int .int ins op) (h1 : EV .int G own ini cc nL lvl d pc p1 a) (hd : decode cc p1 = .ok (ins, 1)) : EV .int G own ini cc nL lvl d pc (p1 + 1) (un op a) := by
  refine ⟨fun E h v h' ef => ?_, fun p e R s m args below meth c Q n0 nm S E st h v h' hst ef hnm kk => ?_⟩
  · obtain ⟨x, e1, ef⟩ := bind_some2 ef
    cases ef
    exact h1.1 _ _ _ _ e1
  · obtain ⟨⟨x, hx⟩, e1, ef⟩ := bind_some2 ef
    cases ef
    refine h1.2 p e R s m args below meth c Q n0 nm S E st h x hx hst e1 hnm ?_
    intro ls H locs hl hr hn
    exact hB p _ e R s m args below meth c H locs _ _ Q cc p1 ls _ x S.1 S.2.1 hd (kk ls H locs hl hr hn)
theorem ev_idiv {a b : DI} (h1 : EV .int G own ini cc nL lvl d pc p1 a) (h2 : EV .int G own ini cc nL lvl (d + 1) p1 p2 b) (hd : decode cc p2 = .ok (.idiv, 1)) : EV .int G own ini cc nL lvl d pc (p2 + 1) (dv (fun x y => x / y) a b) := by
  refine ⟨fun E h v h' ef => ?_, fun p e R s m args below meth c Q n0 nm S E st h v h' hst ef hnm kk => ?_⟩
  · obtain ⟨x, e1, ef⟩ := bind_some2 ef
    obtain ⟨y, e2, ef⟩ := bind_some2 ef
    split at ef
    · cases ef
    · cases ef
      exact Nat.le_trans (h1.1 _ _ _ _ e1) (h2.1 _ _ _ _ e2)
  · obtain ⟨⟨x, hx⟩, e1, ef⟩ := bind_some2 ef
    obtain ⟨⟨y, hy⟩, e2, ef⟩ := bind_some2 ef
    split at ef
    · cases ef
    · rename_i hne
      cases ef
      refine h1.2 p e R s m args below meth c Q n0 nm S E st h x hx hst e1 (Nat.le_trans (h2.1 _ _ _ _ e2) hnm) ?_
      refine h2.2 p e R s m args below meth c Q n0 nm S E (.int x :: st) hx y hy (by rw [ct_cons]; show 1 + _ ≤ _; omega) e2 hnm ?_
      intro ls H locs hl hr hn
      exact lv_idiv S.1 S.2.1 hd hne (kk ls H locs hl hr hn)
theorem ev_irem {a b : DI} (h1 : EV .int G own ini cc nL lvl d pc p1 a) (h2 : EV .int G own ini cc nL lvl (d + 1) p1 p2 b) (hd : decode cc p2 = .ok (.irem, 1)) : EV .int G own ini cc nL lvl d pc (p2 + 1) (dv orem a b) := by
  refine ⟨fun E h v h' ef => ?_, fun p e R s m args below meth c Q n0 nm S E st h v h' hst ef hnm kk => ?_⟩
  · obtain ⟨x, e1, ef⟩ := bind_some2 ef
    obtain ⟨y, e2, ef⟩ := bind_some2 ef
    split at ef
    · cases ef
    · cases ef
      exact Nat.le_trans (h1.1 _ _ _ _ e1) (h2.1 _ _ _ _ e2)
  · obtain ⟨⟨x, hx⟩, e1, ef⟩ := bind_some2 ef
    obtain ⟨⟨y, hy⟩, e2, ef⟩ := bind_some2 ef
    split at ef
    · cases ef
    · rename_i hne
      cases ef
      refine h1.2 p e R s m args below meth c Q n0 nm S E st h x hx hst e1 (Nat.le_trans (h2.1 _ _ _ _ e2) hnm) ?_
      refine h2.2 p e R s m args below meth c Q n0 nm S E (.int x :: st) hx y hy (by rw [ct_cons]; show 1 + _ ≤ _; omega) e2 hnm ?_
      intro ls H locs hl hr hn
      exact lv_irem S.1 S.2.1 hd hne (kk ls H locs hl hr hn)
end OPS
