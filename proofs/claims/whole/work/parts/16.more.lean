/-! the names of the operators in the printed methods; more instructions; a choice by a table -/
abbrev oadd (x y : Int32) : Int32 := x + y
abbrev osub (x y : Int32) : Int32 := x - y
abbrev omul (x y : Int32) : Int32 := x * y
abbrev odiv (x y : Int32) : Int32 := x / y
abbrev oand (x y : Int32) : Int32 := x &&& y
abbrev oor (x y : Int32) : Int32 := x ||| y
abbrev oxor (x y : Int32) : Int32 := x ^^^ y
abbrev oland (x y : Int64) : Int64 := x &&& y
abbrev olor (x y : Int64) : Int64 := x ||| y
abbrev olxor (x y : Int64) : Int64 := x ^^^ y
abbrev oi2b (x : Int32) : Int32 := x.toInt8.toInt32
abbrev oi2c (x : Int32) : Int32 := (x.toUInt32 % 65536).toInt32
abbrev omax (x y : Int32) : Int32 := if x < y then y else x
abbrev omin (x y : Int32) : Int32 := if y < x then y else x
abbrev zeq (x : Int32) : Bool := oeq x 0
abbrev zne (x : Int32) : Bool := one x 0
abbrev zlt (x : Int32) : Bool := olt x 0
abbrev zge (x : Int32) : Bool := oge x 0
abbrev zgt (x : Int32) : Bool := ogt x 0
abbrev zle (x : Int32) : Bool := ole x 0
def sw (a : DI) (lo : Int) (ss : List Sm) (df : Sm) : Sm := fun E h => (a E h).bind fun x => ((if x.1.toInt < lo then df else (ss[(x.1.toInt - lo).toNat]?).getD df) E x.2).map fun q => if q.1 = 3 then (0, q.2) else q
section MORE
variable {G : GG} {own : String} {ini : Bool} {cc : ByteArray} {nL lvl d pc p1 p2 p3 nx br co : Nat}
theorem ev_ldcw {index : Nat} {v : Int32} (hd : decode cc pc = .ok (.ldc_w index, 3)) (hc : Cond.constant own index v ∈ lw_tbl) : EV .int G own ini cc nL lvl d pc (pc + 3) (icst v) :=
  ev_leaf (fun E h w h' e => by cases e; rfl) fun p e R s m args below meth c Q H locs cells slots E h w ls rest hx hb ho hK hl ef k => by cases ef; exact lv_ldcw hx hb ho (hK.1.use hc rfl args) hd k
theorem b_lcmp : B2 .long .long .int .lcmp lg_cmp := fun _ _ _ _ _ _ _ _ _ _ _ _ _ _ _ _ _ _ _ _ _ hx hb hd k => W.lcmp hx hb hd k
theorem ev_lcmp {a b : DL} (h1 : EV .long G own ini cc nL lvl d pc p1 a) (h2 : EV .long G own ini cc nL lvl (d + 2) p1 p2 b) (hd : decode cc p2 = .ok (.lcmp, 1)) : EV .int G own ini cc nL lvl d pc (p2 + 1) (bn lg_cmp a b) :=
  ev_bn b_lcmp 2 (fun _ => Nat.le_refl _) (fun _ => rfl) (fun _ => rfl) (fun _ => rfl) h1 h2 hd
/-- the arms of a table, each at its place -/
def swok (G : GG) (own : String) (ini : Bool) (cc : ByteArray) (nL lvl nx co : Nat) : List Sm → List Nat → Prop
  | [], [] => True
  | s :: ss, t :: ts => ST G own ini cc nL lvl t nx nx co s ∧ swok G own ini cc nL lvl nx co ss ts
  | _, _ => False
theorem swok_at {ss : List Sm} {ts : List Nat} (h : swok G own ini cc nL lvl nx co ss ts) : ∀ (k : Nat) (s : Sm), ss[k]? = some s → ∃ t, ts[k]? = some t ∧ ST G own ini cc nL lvl t nx nx co s := by
  induction ss generalizing ts with
  | nil => intro k s e; simp at e
  | cons a ss ih =>
    cases ts with
    | nil => cases h
    | cons t ts =>
      intro k s e
      cases k with
      | zero => cases e; exact ⟨t, rfl, h.1⟩
      | succ k => exact ih h.2 k s e
theorem swok_len {ss : List Sm} {ts : List Nat} (h : swok G own ini cc nL lvl nx co ss ts) : ss.length = ts.length := by
  induction ss generalizing ts with
  | nil => cases ts with
    | nil => rfl
    | cons t ts => cases h
  | cons a ss ih => cases ts with
    | nil => cases h
    | cons t ts => simp [ih h.2]
theorem s_sw {a : DI} {lo hi dflt : Int} {offs : Array Int} {len : Nat} {ss : List Sm} {df : Sm} {ts : List Nat} {tf : Nat} (h1 : EV .int G own ini cc nL lvl 0 pc p1 a) (hd : decode cc p1 = .ok (.tableswitch dflt lo hi offs, len)) (ho : offs.toList = ts.map (fun t : Nat => (t : Int) - (p1 : Int))) (hf : (p1 : Int) + dflt = (tf : Int)) (hh : hi = lo + ts.length - 1)
    (h2 : ST G own ini cc nL lvl tf nx nx co df) (h3 : swok G own ini cc nL lvl nx co ss ts) : ST G own ini cc nL lvl pc nx br co (sw a lo ss df) := by
  have pick : ∀ (x : Int32), ∃ f, f = (if x.toInt < lo then df else (ss[(x.toInt - lo).toNat]?).getD df) ∧ ∃ t, ST G own ini cc nL lvl t nx nx co f ∧ ∀ (p : Program) (l : Launch) (e : Env) (R : Room) (s : State) (m : MethodId) (args : Array Value) (below : List Frame) (meth : Method) (c : Code) (H : Heap) (locs : List Loc) (cells slots : Nat) (Q : State → Prop) (ls : Array Slot) (rest : List Value), p.tables.exec = Jvm.exec → c.code = cc → W p l e R s m args below meth c H locs cells slots Q (F0 m t ls rest) → W p l e R s m args below meth c H locs cells slots Q (F0 m p1 ls (.int x :: rest)) := by
    intro x
    refine ⟨_, rfl, ?_⟩
    have hl := swok_len h3
    by_cases hlo : x.toInt < lo
    · rw [if_pos hlo]
      exact ⟨tf, h2, fun p l e R s m args below meth c H locs cells slots Q ls rest hx hb k => lv_tableOut hx hb hd (Or.inl hlo) hf k⟩
    · rw [if_neg hlo]
      by_cases hhi : hi < x.toInt
      · have : ss[(x.toInt - lo).toNat]? = none := List.getElem?_eq_none (by omega)
        rw [this]
        exact ⟨tf, h2, fun p l e R s m args below meth c H locs cells slots Q ls rest hx hb k => lv_tableOut hx hb hd (Or.inr hhi) hf k⟩
      · have hk : (x.toInt - lo).toNat < ss.length := by omega
        obtain ⟨t, ht, hst⟩ := swok_at h3 _ _ (List.getElem?_eq_getElem hk)
        rw [List.getElem?_eq_getElem hk]
        refine ⟨t, hst, fun p l e R s m args below meth c H locs cells slots Q ls rest hx hb k => lv_tableIn (off := (t : Int) - (p1 : Int)) hx hb hd hlo hhi ?_ (by omega) k⟩
        rw [← Array.getElem?_toList, ho, List.getElem?_map, ht]
        rfl
  have key : ∀ {E h o v E' h'}, sw a lo ss df E h = some (o, v, E', h') → ∃ x hx o1, a E h = some (x, hx) ∧ (if x.toInt < lo then df else (ss[(x.toInt - lo).toNat]?).getD df) E hx = some (o1, v, E', h') ∧ (o = if o1 = 3 then 0 else o1) := by
    intro E h o v E' h' ef
    obtain ⟨⟨x, hx⟩, e1, ef⟩ := bind_some2 ef
    obtain ⟨⟨o1, v1, E1, g1⟩, e2, e3⟩ := Option.map_eq_some_iff.mp ef
    refine ⟨x, hx, o1, e1, ?_⟩
    split at e3
    · rename_i hz
      cases e3
      exact ⟨e2, by rw [if_pos hz]⟩
    · rename_i hz
      cases e3
      exact ⟨e2, by rw [if_neg hz]⟩
  refine ⟨fun E h o v E' h' ef => ?_, fun p e R s m args below meth c Q n0 nm S E h o v E' h' ef hnm k0 k3 k4 k1 k2 hor => ?_⟩
  · obtain ⟨x, hx, o1, e1, e2, -⟩ := key ef
    obtain ⟨f, hf', t, hst, -⟩ := pick x
    rw [← hf'] at e2
    exact Nat.le_trans (h1.1 _ _ _ _ e1) (hst.1 _ _ _ _ _ _ e2)
  · obtain ⟨x, hx, o1, e1, e2, e3⟩ := key ef
    obtain ⟨f, hf', t, hst, hw⟩ := pick x
    rw [← hf'] at e2
    refine h1.2 p e R s m args below meth c Q n0 nm S E [] h x hx (Nat.le_refl _) e1 (Nat.le_trans (hst.1 _ _ _ _ _ _ e2) hnm) ?_
    intro ls H locs hl hr hn
    refine hw p _ e R s m args below meth c H locs _ _ Q ls _ S.1 S.2.1 ?_
    refine hst.2 p e R s m args below meth c Q n0 nm S E hx o1 v E' h' e2 hnm ?_ ?_ ?_ ?_ ?_ ?_ ls H locs hl hr hn
    · intro z; exact k0 (by rw [e3, if_neg (by omega)]; exact z)
    · intro z; exact k0 (by rw [e3, if_pos z])
    · intro z; exact k4 (by rw [e3, if_neg (by omega)]; exact z)
    · intro z; exact k1 (by rw [e3, if_neg (by omega)]; exact z)
    · intro z; exact k2 (by rw [e3, if_neg (by omega)]; exact z)
    · by_cases hz : o1 = 3
      · omega
      · rw [if_neg hz] at e3; rw [← e3]; exact hor
/-- the greater and the lesser of two -/
theorem ev_mm {name : MethodName} {code9 : ByteArray} {op : Int32 → Int32 → Int32} {index : Nat} {a b : DI}
    (row : ∀ (p : Program) (l : Launch) (e : Env) (R : Room) (s : State) (m : MethodId) (args : Array Value) (below : List Frame) (meth : Method) (c : Code) (H : Heap) (locs : List Loc) (cells slots : Nat) (Q : State → Prop) (pc : Nat) (ls : Array Slot) (rest : List Value) (x y : Int32), p.tables.exec = Jvm.exec → c.code = cc → c.maxLocals = ls.size → s.vm.findClass own = some m.cls → TW s → 1 ≤ R.frames → (rest.map fun v => v.category).sum + 13 ≤ R.locals → cells ≤ R.cells → slots ≤ R.slots → decode cc pc = .ok (.invokestatic index, 3) → W p l e R s m args below meth c H locs cells slots Q (F0 m (pc + 3) ls (.int (op x y) :: rest)) → W p l e R s m args below meth c H locs cells slots Q (F0 m pc ls (.int y :: .int x :: rest)))
    (hlv : 0 < lvl) (h8 : d ≤ 40) (h1 : EV .int G own ini cc nL lvl d pc p1 a) (h2 : EV .int G own ini cc nL lvl (d + 1) p1 p2 b) (hd : decode cc p2 = .ok (.invokestatic index, 3)) : EV .int G own ini cc nL lvl d pc (p2 + 3) (bn op a b) := by
  refine ⟨fun E h v h' ef => ?_, fun p e R s m args below meth c Q n0 nm S E st h v h' hst ef hnm kk => ?_⟩
  · obtain ⟨x, e1, ef⟩ := bind_some2 ef
    obtain ⟨y, e2, ef⟩ := bind_some2 ef
    cases ef
    exact Nat.le_trans (h1.1 _ _ _ _ e1) (h2.1 _ _ _ _ e2)
  · obtain ⟨⟨x, hx⟩, e1, ef⟩ := bind_some2 ef
    obtain ⟨⟨y, hy⟩, e2, ef⟩ := bind_some2 ef
    cases ef
    refine h1.2 p e R s m args below meth c Q n0 nm S E st h x hx hst e1 (Nat.le_trans (h2.1 _ _ _ _ e2) hnm) ?_
    refine h2.2 p e R s m args below meth c Q n0 nm S E (.int x :: st) hx y hy (by rw [ct_cons]; show 1 + _ ≤ _; omega) e2 hnm ?_
    intro ls H locs hl hr hn
    have s1 := SZ_mono hn
    have s3 := SZ_mono hnm
    obtain ⟨a1, a2⟩ := S.2.2.2.2.2.1
    have a3 := S.2.2.2.2.2.2.1
    have a4 := S.2.2.2.2.2.2.2.1
    have hc : ((st.map (rv G)).map fun v => v.category).sum = ct st := by
      rw [List.map_map]
      exact congrArg List.sum (List.map_congr_left fun v _ => rv_cat v)
    exact row p _ e R s m args below meth c H locs _ _ Q p2 ls _ x y S.1 S.2.1 (by rw [S.2.2.1, hl.1]) S.2.2.2.1 S.2.2.2.2.1.1 (by omega) (by rw [hc]; omega) (by dsimp only at *; omega) (by dsimp only at *; omega) hd (kk ls H locs hl hr hn)
end MORE
