/-! expressions: what they are, and the code that reckons them -/
abbrev DI : Type := En → Hp → Option (Int32 × Hp)
abbrev DR : Type := En → Hp → Option (Nat × Hp)
abbrev DL : Type := En → Hp → Option (Int64 × Hp)
abbrev DC : Type := En → Hp → Option (Bool × Hp)
abbrev DA : Type := En → Hp → Option (List Value × Hp)
def icst (v : Int32) : DI := fun _ h => some (v, h)
def lcst (v : Int64) : DL := fun _ h => some (v, h)
def ldI (i : Nat) : DI := fun E h => match E[i]? with
  | some (.int x) => some (x, h)
  | _ => none
def ldR (i : Nat) : DR := fun E h => match E[i]? with
  | some (.ref x) => some (x, h)
  | _ => none
def ldL (i : Nat) : DL := fun E h => match E[i]? with
  | some (.long x) => some (x, h)
  | _ => none
def bn {α β γ : Type} (op : α → β → γ) (a : En → Hp → Option (α × Hp)) (b : En → Hp → Option (β × Hp)) : En → Hp → Option (γ × Hp) := fun E h => (a E h).bind fun x => (b E x.2).bind fun y => some (op x.1 y.1, y.2)
def un {α β : Type} (op : α → β) (a : En → Hp → Option (α × Hp)) : En → Hp → Option (β × Hp) := fun E h => (a E h).bind fun x => some (op x.1, x.2)
/-- divided by 0: none -/
def dv (op : Int32 → Int32 → Int32) (a b : DI) : DI := fun E h => (a E h).bind fun x => (b E x.2).bind fun y => if y.1 = 0 then none else some (op x.1 y.1, y.2)
def fI (c k : Nat) (a : DR) : DI := fun E h => (a E h).bind fun x => if x.1 < x.2.1 ∧ (LY x.1).1 = c then some (x.2.2.1 x.1 k, x.2) else none
def fR (c k : Nat) (a : DR) : DR := fun E h => (a E h).bind fun x => if x.1 < x.2.1 ∧ (LY x.1).1 = c then (x.2.2.2 x.1 k).map (fun y => (y, x.2)) else none
/-- an index within its row -/
def inI (i : Int32) (n : Nat) : Bool := decide (0 ≤ i.toInt) && decide (i.toInt < n)
def aI (c : Nat) (a : DR) (b : DI) : DI := fun E h => (a E h).bind fun x => (b E x.2).bind fun y => if x.1 < y.2.1 ∧ (LY x.1).1 = c ∧ inI y.1 (LY x.1).2 = true then some (y.2.2.1 x.1 y.1.toNatClampNeg, y.2) else none
def aR (c : Nat) (a : DR) (b : DI) : DR := fun E h => (a E h).bind fun x => (b E x.2).bind fun y => if x.1 < y.2.1 ∧ (LY x.1).1 = c ∧ inI y.1 (LY x.1).2 = true then (y.2.2.2 x.1 y.1.toNatClampNeg).map (fun z => (z, y.2)) else none
def aN (c : Nat) (a : DR) : DI := fun E h => (a E h).bind fun x => if x.1 < x.2.1 ∧ (LY x.1).1 = c then some (Int32.ofNat (LY x.1).2, x.2) else none
def tn {α : Type} (c : DC) (a b : En → Hp → Option (α × Hp)) : En → Hp → Option (α × Hp) := fun E h => (c E h).bind fun x => if x.1 = true then a E x.2 else b E x.2
def cmp (op : Int32 → Int32 → Bool) (a b : DI) : DC := fun E h => (a E h).bind fun x => (b E x.2).bind fun y => some (op x.1 y.1, y.2)
def cmz (op : Int32 → Bool) (a : DI) : DC := fun E h => (a E h).bind fun x => some (op x.1, x.2)
def cand (a b : DC) : DC := fun E h => (a E h).bind fun x => if x.1 = true then b E x.2 else some (false, x.2)
def cor (a b : DC) : DC := fun E h => (a E h).bind fun x => if x.1 = true then some (true, x.2) else b E x.2
def cnt (a : DC) : DC := fun E h => (a E h).bind fun x => some (!x.1, x.2)
def ctt : DC := fun _ h => some (true, h)
def vn : DA := fun _ h => some ([], h)
def vI (a : DA) (b : DI) : DA := fun E h => (a E h).bind fun x => (b E x.2).bind fun y => some (x.1 ++ [.int y.1], y.2)
def vR (a : DA) (b : DR) : DA := fun E h => (a E h).bind fun x => (b E x.2).bind fun y => some (x.1 ++ [.ref y.1], y.2)
def vL (a : DA) (b : DL) : DA := fun E h => (a E h).bind fun x => (b E x.2).bind fun y => some (x.1 ++ [.long y.1], y.2)
abbrev FN : Type := List Value → Hp → Option (Option Value × Hp)
def cI (F : FN) (a : DA) : DI := fun E h => (a E h).bind fun x => match F x.1 x.2 with
  | some (some (.int r), h2) => some (r, h2)
  | _ => none
def cR (F : FN) (a : DA) : DR := fun E h => (a E h).bind fun x => match F x.1 x.2 with
  | some (some (.ref r), h2) => some (r, h2)
  | _ => none
def cL (F : FN) (a : DA) : DL := fun E h => (a E h).bind fun x => match F x.1 x.2 with
  | some (some (.long r), h2) => some (r, h2)
  | _ => none
section EVL
variable {G : GG} {own : String} {ini : Bool} {cc : ByteArray} {nL lvl d pc p1 p2 p3 : Nat}
theorem bind_some2 {α β : Type} {x : Option α} {f : α → Option β} {r : β} (h : x.bind f = some r) : ∃ a, x = some a ∧ f a = some r := Option.bind_eq_some_iff.mp h
theorem ev_leaf {α : Type} {inj : α → Value} {f : En → Hp → Option (α × Hp)} (hm : ∀ E h v h', f E h = some (v, h') → h' = h)
    (hw : ∀ (p : Program) (e : Env) (R : Room) (s : State) (m : MethodId) (args : Array Value) (below : List Frame) (meth : Method) (c : Code) (Q : State → Prop) (H : Heap) (locs : List Loc) (cells slots : Nat) (E : En) (h : Hp) (v : α) (ls : Array Slot) (rest : List Value),
      p.tables.exec = Jvm.exec → c.code = cc → s.vm.findClass own = some m.cls → KK G s → LR G nL E ls → f E h = some (v, h) → W p G.1 e R s m args below meth c H locs cells slots Q (F0 m p1 ls (rv G (inj v) :: rest)) → W p G.1 e R s m args below meth c H locs cells slots Q (F0 m pc ls rest)) : EV inj G own ini cc nL lvl d pc p1 f := by
  refine ⟨fun E h v h' e => by rw [hm E h v h' e]; exact Nat.le_refl _, fun p e R s m args below meth c Q n0 nm S E st h v h' _ ef _ k ls H locs hl hr hn => ?_⟩
  have := hm E h v h' ef
  subst this
  exact hw p e R s m args below meth c Q H locs _ _ E h' v ls _ S.1 S.2.1 S.2.2.2.1 S.2.2.2.2.1 hl ef (k ls H locs hl hr hn)
theorem ev_iconst {n : Int} {v : Int32} (hd : decode cc pc = .ok (.iconst n, 1)) (hv : Int32.ofInt n = v) : EV .int G own ini cc nL lvl d pc (pc + 1) (icst v) :=
  ev_leaf (fun E h w h' e => by cases e; rfl) fun p e R s m args below meth c Q H locs cells slots E h w ls rest hx hb _ _ hl ef k => by cases ef; exact lv_iconst hx hb hd hv k
theorem ev_bipush {n : Int} {v : Int32} (hd : decode cc pc = .ok (.bipush n, 2)) (hv : (Int8.ofInt n).toInt32 = v) : EV .int G own ini cc nL lvl d pc (pc + 2) (icst v) :=
  ev_leaf (fun E h w h' e => by cases e; rfl) fun p e R s m args below meth c Q H locs cells slots E h w ls rest hx hb _ _ hl ef k => by cases ef; exact lv_bipush hx hb hd hv k
theorem ev_sipush {n : Int} {v : Int32} (hd : decode cc pc = .ok (.sipush n, 3)) (hv : (Int16.ofInt n).toInt32 = v) : EV .int G own ini cc nL lvl d pc (pc + 3) (icst v) :=
  ev_leaf (fun E h w h' e => by cases e; rfl) fun p e R s m args below meth c Q H locs cells slots E h w ls rest hx hb _ _ hl ef k => by cases ef; exact lv_sipush hx hb hd hv k
theorem ev_ldc {index : Nat} {v : Int32} (hd : decode cc pc = .ok (.ldc index, 2)) (hc : Cond.constant own index v ∈ lw_tbl) : EV .int G own ini cc nL lvl d pc (pc + 2) (icst v) :=
  ev_leaf (fun E h w h' e => by cases e; rfl) fun p e R s m args below meth c Q H locs cells slots E h w ls rest hx hb ho hK hl ef k => by cases ef; exact lv_ldc hx hb ho (hK.1.use hc rfl args) hd k
theorem ev_lconst {n : Fin 2} {v : Int64} (hd : decode cc pc = .ok (.lconst n, 1)) (hv : Int64.ofNat (n : Nat) = v) : EV .long G own ini cc nL lvl d pc (pc + 1) (lcst v) :=
  ev_leaf (fun E h w h' e => by cases e; rfl) fun p e R s m args below meth c Q H locs cells slots E h w ls rest hx hb _ _ hl ef k => by cases ef; exact lv_lconst hx hb hd hv k
theorem ev_ldc2 {index : Nat} {v : Int64} (hd : decode cc pc = .ok (.ldc2_w index, 3)) (hc : Cond.constantLong own index v ∈ lw_tbl) : EV .long G own ini cc nL lvl d pc (pc + 3) (lcst v) :=
  ev_leaf (fun E h w h' e => by cases e; rfl) fun p e R s m args below meth c Q H locs cells slots E h w ls rest hx hb ho hK hl ef k => by cases ef; exact lv_ldc2 hx hb ho (hK.1.use hc rfl args) hd k
theorem ldI_inv {i : Nat} {E : En} {h h' : Hp} {x : Int32} (e : ldI i E h = some (x, h')) : E[i]? = some (.int x) ∧ h' = h := by
  unfold ldI at e
  split at e
  · cases e; exact ⟨by assumption, rfl⟩
  · cases e
theorem ldR_inv {i : Nat} {E : En} {h h' : Hp} {x : Nat} (e : ldR i E h = some (x, h')) : E[i]? = some (.ref x) ∧ h' = h := by
  unfold ldR at e
  split at e
  · cases e; exact ⟨by assumption, rfl⟩
  · cases e
theorem ldL_inv {i : Nat} {E : En} {h h' : Hp} {x : Int64} (e : ldL i E h = some (x, h')) : E[i]? = some (.long x) ∧ h' = h := by
  unfold ldL at e
  split at e
  · cases e; exact ⟨by assumption, rfl⟩
  · cases e
theorem ev_iload_n {k : Fin 4} {i : Nat} (hd : decode cc pc = .ok (.iload_n k, 1)) (hi : (k : Nat) = i) : EV .int G own ini cc nL lvl d pc (pc + 1) (ldI i) :=
  ev_leaf (fun E h w h' e => (ldI_inv e).2) fun p e R s m args below meth c Q H locs cells slots E h w ls rest hx hb _ _ hl ef kk => lv_iload_n hx hb hd hi (hl.2.2 i _ (ldI_inv ef).1 rfl) kk
theorem ev_iload {i : Nat} (hd : decode cc pc = .ok (.iload i, 2)) : EV .int G own ini cc nL lvl d pc (pc + 2) (ldI i) :=
  ev_leaf (fun E h w h' e => (ldI_inv e).2) fun p e R s m args below meth c Q H locs cells slots E h w ls rest hx hb _ _ hl ef kk => lv_iload hx hb hd (hl.2.2 i _ (ldI_inv ef).1 rfl) kk
theorem ev_aload_n {k : Fin 4} {i : Nat} (hd : decode cc pc = .ok (.aload_n k, 1)) (hi : (k : Nat) = i) : EV .ref G own ini cc nL lvl d pc (pc + 1) (ldR i) :=
  ev_leaf (fun E h w h' e => (ldR_inv e).2) fun p e R s m args below meth c Q H locs cells slots E h w ls rest hx hb _ _ hl ef kk => lv_aload_n hx hb hd hi (hl.2.2 i _ (ldR_inv ef).1 rfl) kk
theorem ev_aload {i : Nat} (hd : decode cc pc = .ok (.aload i, 2)) : EV .ref G own ini cc nL lvl d pc (pc + 2) (ldR i) :=
  ev_leaf (fun E h w h' e => (ldR_inv e).2) fun p e R s m args below meth c Q H locs cells slots E h w ls rest hx hb _ _ hl ef kk => lv_aload hx hb hd (hl.2.2 i _ (ldR_inv ef).1 rfl) kk
theorem ev_lload_n {k : Fin 4} {i : Nat} (hd : decode cc pc = .ok (.lload_n k, 1)) (hi : (k : Nat) = i) : EV .long G own ini cc nL lvl d pc (pc + 1) (ldL i) :=
  ev_leaf (fun E h w h' e => (ldL_inv e).2) fun p e R s m args below meth c Q H locs cells slots E h w ls rest hx hb _ _ hl ef kk => lv_lload_n hx hb hd hi (hl.2.2 i _ (ldL_inv ef).1 rfl) kk
theorem ev_lload {i : Nat} (hd : decode cc pc = .ok (.lload i, 2)) : EV .long G own ini cc nL lvl d pc (pc + 2) (ldL i) :=
  ev_leaf (fun E h w h' e => (ldL_inv e).2) fun p e R s m args below meth c Q H locs cells slots E h w ls rest hx hb _ _ hl ef kk => lv_lload hx hb hd (hl.2.2 i _ (ldL_inv ef).1 rfl) kk
end EVL
