section COND
variable {G : GG} {own : String} {ini : Bool} {cc : ByteArray} {nL lvl d pc p1 p2 p3 pt pf : Nat}
/-- an instruction that jumps if op holds of the two numbers on top -/
def J2 (ins : Int → Instr) (op : Int32 → Int32 → Bool) : Prop :=
  ∀ (p : Program) (l : Launch) (e : Env) (R : Room) (s : State) (m : MethodId) (args : Array Value) (below : List Frame) (meth : Method) (c : Code) (H : Heap) (locs : List Loc) (cells slots : Nat) (Q : State → Prop) (cc : ByteArray) (pc tgt : Nat) (off : Int) (ls : Array Slot) (rest : List Value) (x y : Int32),
    p.tables.exec = Jvm.exec → c.code = cc → decode cc pc = .ok (ins off, 3) → (pc : Int) + off = (tgt : Int) → W p l e R s m args below meth c H locs cells slots Q (F0 m (if op x y then tgt else pc + 3) ls rest) → W p l e R s m args below meth c H locs cells slots Q (F0 m pc ls (.int y :: .int x :: rest))
def J1 (ins : Int → Instr) (op : Int32 → Bool) : Prop :=
  ∀ (p : Program) (l : Launch) (e : Env) (R : Room) (s : State) (m : MethodId) (args : Array Value) (below : List Frame) (meth : Method) (c : Code) (H : Heap) (locs : List Loc) (cells slots : Nat) (Q : State → Prop) (cc : ByteArray) (pc tgt : Nat) (off : Int) (ls : Array Slot) (rest : List Value) (x : Int32),
    p.tables.exec = Jvm.exec → c.code = cc → decode cc pc = .ok (ins off, 3) → (pc : Int) + off = (tgt : Int) → W p l e R s m args below meth c H locs cells slots Q (F0 m (if op x then tgt else pc + 3) ls rest) → W p l e R s m args below meth c H locs cells slots Q (F0 m pc ls (.int x :: rest))
abbrev oeq (x y : Int32) : Bool := decide (x = y)
abbrev one (x y : Int32) : Bool := !decide (x = y)
abbrev olt (x y : Int32) : Bool := decide (x < y)
abbrev oge (x y : Int32) : Bool := !decide (x < y)
abbrev ogt (x y : Int32) : Bool := decide (y < x)
abbrev ole (x y : Int32) : Bool := !decide (y < x)
theorem i32_ge {x y : Int32} : y ≤ x ↔ ¬ x < y := by rw [Int32.le_iff_toInt_le, Int32.lt_iff_toInt_lt]; omega
theorem j_eq : J2 (.if_icmp .eq) oeq := fun _ _ _ _ _ _ _ _ _ _ _ _ _ _ _ _ _ _ _ _ _ x y hx hb hd ht k => lv_icmp_eq hx hb hd ht (fun h => by simpa [oeq, h] using k) (fun h => by simpa [oeq, h] using k)
theorem j_ne : J2 (.if_icmp .ne) one := fun _ _ _ _ _ _ _ _ _ _ _ _ _ _ _ _ _ _ _ _ _ x y hx hb hd ht k => lv_icmp_ne hx hb hd ht (fun h => by simpa [one, h] using k) (fun h => by simpa [one, h] using k)
theorem j_lt : J2 (.if_icmp .lt) olt := fun _ _ _ _ _ _ _ _ _ _ _ _ _ _ _ _ _ _ _ _ _ x y hx hb hd ht k => lv_icmp_lt hx hb hd ht (fun h => by simpa [olt, h] using k) (fun h => by simpa [olt, h] using k)
theorem j_ge : J2 (.if_icmp .ge) oge := fun _ _ _ _ _ _ _ _ _ _ _ _ _ _ _ _ _ _ _ _ _ x y hx hb hd ht k => lv_icmp_ge hx hb hd ht (fun h => by rw [i32_ge] at h; simpa [oge, h] using k) (fun h => by rw [i32_ge, Classical.not_not] at h; simpa [oge, h] using k)
theorem j_gt : J2 (.if_icmp .gt) ogt := fun _ _ _ _ _ _ _ _ _ _ _ _ _ _ _ _ _ _ _ _ _ x y hx hb hd ht k => lv_icmp_gt hx hb hd ht (fun h => by simpa [ogt, h] using k) (fun h => by simpa [ogt, h] using k)
theorem j_le : J2 (.if_icmp .le) ole := fun _ _ _ _ _ _ _ _ _ _ _ _ _ _ _ _ _ _ _ _ _ x y hx hb hd ht k => lv_icmp_le hx hb hd ht (fun h => by rw [i32_ge] at h; simpa [ole, h] using k) (fun h => by rw [i32_ge, Classical.not_not] at h; simpa [ole, h] using k)
theorem z_eq : J1 (.ifCond .eq) (fun x => oeq x 0) := fun _ _ _ _ _ _ _ _ _ _ _ _ _ _ _ _ _ _ _ _ _ x hx hb hd ht k => lv_if_eq hx hb hd ht (fun h => by simpa [oeq, h] using k) (fun h => by simpa [oeq, h] using k)
theorem z_ne : J1 (.ifCond .ne) (fun x => one x 0) := fun _ _ _ _ _ _ _ _ _ _ _ _ _ _ _ _ _ _ _ _ _ x hx hb hd ht k => lv_if_ne hx hb hd ht (fun h => by simpa [one, h] using k) (fun h => by simpa [one, h] using k)
theorem z_lt : J1 (.ifCond .lt) (fun x => olt x 0) := fun _ _ _ _ _ _ _ _ _ _ _ _ _ _ _ _ _ _ _ _ _ x hx hb hd ht k => lv_if_lt hx hb hd ht (fun h => by simpa [olt, h] using k) (fun h => by simpa [olt, h] using k)
theorem z_ge : J1 (.ifCond .ge) (fun x => oge x 0) := fun _ _ _ _ _ _ _ _ _ _ _ _ _ _ _ _ _ _ _ _ _ x hx hb hd ht k => lv_if_ge hx hb hd ht (fun h => by rw [i32_ge] at h; simpa [oge, h] using k) (fun h => by rw [i32_ge, Classical.not_not] at h; simpa [oge, h] using k)
theorem z_gt : J1 (.ifCond .gt) (fun x => ogt x 0) := fun _ _ _ _ _ _ _ _ _ _ _ _ _ _ _ _ _ _ _ _ _ x hx hb hd ht k => lv_if_gt hx hb hd ht (fun h => by simpa [ogt, h] using k) (fun h => by simpa [ogt, h] using k)
theorem z_le : J1 (.ifCond .le) (fun x => ole x 0) := fun _ _ _ _ _ _ _ _ _ _ _ _ _ _ _ _ _ _ _ _ _ x hx hb hd ht k => lv_if_le hx hb hd ht (fun h => by rw [i32_ge] at h; simpa [ole, h] using k) (fun h => by rw [i32_ge, Classical.not_not] at h; simpa [ole, h] using k)
theorem cj_c2 {ins : Int → Instr} {op : Int32 → Int32 → Bool} {a b : DI} {off : Int} (hJ : J2 ins op) (h1 : EV .int G own ini cc nL lvl d pc p1 a) (h2 : EV .int G own ini cc nL lvl (d + 1) p1 p2 b) (hd : decode cc p2 = .ok (ins off, 3)) (ht : (p2 : Int) + off = (pt : Int)) : CJ G own ini cc nL lvl d pc pt (p2 + 3) (cmp op a b) := by
  refine ⟨fun E h v h' ef => ?_, fun p e R s m args below meth c Q n0 nm S E st h v h' hst ef hnm kk => ?_⟩
  · obtain ⟨x, e1, ef⟩ := bind_some2 ef
    obtain ⟨y, e2, ef⟩ := bind_some2 ef
    cases ef
    exact Nat.le_trans (h1.1 _ _ _ _ e1) (h2.1 _ _ _ _ e2)
  · obtain ⟨⟨x, hx⟩, e1, ef⟩ := bind_some2 ef
    obtain ⟨⟨y, hy⟩, e2, ef⟩ := bind_some2 ef
    cases ef
    refine h1.2 p e R s m args below meth c Q n0 nm S E st h x hx hst e1 (Nat.le_trans (h2.1 _ _ _ _ e2) hnm) ?_
    refine h2.2 p e R s m args below meth c Q n0 nm S E (.int x :: st) hx y hy (by rw [ct_cons]; show 1 + _ ≤ _; omega) e2 hnm ?_
    intro ls H locs hl hr hn
    exact hJ p _ e R s m args below meth c H locs _ _ Q cc p2 pt off ls _ x y S.1 S.2.1 hd ht (kk ls H locs hl hr hn)
theorem cj_c1 {ins : Int → Instr} {op : Int32 → Bool} {a : DI} {off : Int} (hJ : J1 ins op) (h1 : EV .int G own ini cc nL lvl d pc p1 a) (hd : decode cc p1 = .ok (ins off, 3)) (ht : (p1 : Int) + off = (pt : Int)) : CJ G own ini cc nL lvl d pc pt (p1 + 3) (cmz op a) := by
  refine ⟨fun E h v h' ef => ?_, fun p e R s m args below meth c Q n0 nm S E st h v h' hst ef hnm kk => ?_⟩
  · obtain ⟨x, e1, ef⟩ := bind_some2 ef
    cases ef
    exact h1.1 _ _ _ _ e1
  · obtain ⟨⟨x, hx⟩, e1, ef⟩ := bind_some2 ef
    cases ef
    refine h1.2 p e R s m args below meth c Q n0 nm S E st h x hx hst e1 hnm ?_
    intro ls H locs hl hr hn
    exact hJ p _ e R s m args below meth c H locs _ _ Q cc p1 pt off ls _ x S.1 S.2.1 hd ht (kk ls H locs hl hr hn)
theorem cj_not {a : DC} (h1 : CJ G own ini cc nL lvl d pc pt pf a) : CJ G own ini cc nL lvl d pc pf pt (cnt a) := by
  refine ⟨fun E h v h' ef => ?_, fun p e R s m args below meth c Q n0 nm S E st h v h' hst ef hnm kk => ?_⟩
  · obtain ⟨x, e1, ef⟩ := bind_some2 ef
    cases ef
    exact h1.1 _ _ _ _ e1
  · obtain ⟨⟨x, hx⟩, e1, ef⟩ := bind_some2 ef
    cases ef
    refine h1.2 p e R s m args below meth c Q n0 nm S E st h x _ hst e1 hnm ?_
    cases x
    · exact kk
    · exact kk
theorem cj_and {a b : DC} (h1 : CJ G own ini cc nL lvl d pc p1 pf a) (h2 : CJ G own ini cc nL lvl d p1 pt pf b) : CJ G own ini cc nL lvl d pc pt pf (cand a b) := by
  refine ⟨fun E h v h' ef => ?_, fun p e R s m args below meth c Q n0 nm S E st h v h' hst ef hnm kk => ?_⟩
  · obtain ⟨x, e1, ef⟩ := bind_some2 ef
    split at ef
    · exact Nat.le_trans (h1.1 _ _ _ _ e1) (h2.1 _ _ _ _ ef)
    · cases ef
      exact h1.1 _ _ _ _ e1
  · obtain ⟨⟨x, hx⟩, e1, ef⟩ := bind_some2 ef
    split at ef
    · rename_i hx1
      refine h1.2 p e R s m args below meth c Q n0 nm S E st h x hx hst e1 (Nat.le_trans (h2.1 _ _ _ _ ef) hnm) ?_
      rw [if_pos hx1]
      exact h2.2 p e R s m args below meth c Q n0 nm S E st hx v h' hst ef hnm kk
    · rename_i hx1
      cases ef
      refine h1.2 p e R s m args below meth c Q n0 nm S E st h x _ hst e1 hnm ?_
      rw [if_neg hx1]
      exact kk
theorem cj_or {a b : DC} (h1 : CJ G own ini cc nL lvl d pc pt p1 a) (h2 : CJ G own ini cc nL lvl d p1 pt pf b) : CJ G own ini cc nL lvl d pc pt pf (cor a b) := by
  refine ⟨fun E h v h' ef => ?_, fun p e R s m args below meth c Q n0 nm S E st h v h' hst ef hnm kk => ?_⟩
  · obtain ⟨x, e1, ef⟩ := bind_some2 ef
    split at ef
    · cases ef
      exact h1.1 _ _ _ _ e1
    · exact Nat.le_trans (h1.1 _ _ _ _ e1) (h2.1 _ _ _ _ ef)
  · obtain ⟨⟨x, hx⟩, e1, ef⟩ := bind_some2 ef
    split at ef
    · rename_i hx1
      cases ef
      refine h1.2 p e R s m args below meth c Q n0 nm S E st h x _ hst e1 hnm ?_
      rw [if_pos hx1]
      exact kk
    · rename_i hx1
      refine h1.2 p e R s m args below meth c Q n0 nm S E st h x hx hst e1 (Nat.le_trans (h2.1 _ _ _ _ ef) hnm) ?_
      rw [if_neg hx1]
      exact h2.2 p e R s m args below meth c Q n0 nm S E st hx v h' hst ef hnm kk
theorem cj_tt : CJ G own ini cc nL lvl d pc pc pf ctt := by
  refine ⟨fun E h v h' ef => by cases ef; exact Nat.le_refl _, fun p e R s m args below meth c Q n0 nm S E st h v h' hst ef hnm kk => ?_⟩
  cases ef
  exact kk
theorem at_goto {p : Program} {e : Env} {R : Room} {s : State} {m : MethodId} {args : Array Value} {below : List Frame} {meth : Method} {c : Code} {Q : State → Prop} {n0 nm tgt : Nat} {E : En} {st : List Value} {h : Hp} {off : Int} (S : SU G own ini cc nL lvl p s m meth c R n0 nm) (hd : decode cc pc = .ok (.goto off, 3)) (ht : (pc : Int) + off = (tgt : Int))
    (kk : AT G nL p e R s m args below meth c Q n0 tgt E st h) : AT G nL p e R s m args below meth c Q n0 pc E st h := fun ls H locs hl hr hn => lv_goto S.1 S.2.1 hd ht (kk ls H locs hl hr hn)
theorem cj_gt {a : DC} {off : Int} (h1 : CJ G own ini cc nL lvl d pc p1 pf a) (hd : decode cc p1 = .ok (.goto off, 3)) (ht : (p1 : Int) + off = (pt : Int)) : CJ G own ini cc nL lvl d pc pt pf a := by
  refine ⟨h1.1, fun p e R s m args below meth c Q n0 nm S E st h v h' hst ef hnm kk => ?_⟩
  refine h1.2 p e R s m args below meth c Q n0 nm S E st h v h' hst ef hnm ?_
  cases v
  · exact kk
  · exact at_goto S hd ht kk
theorem cj_gf {a : DC} {off : Int} (h1 : CJ G own ini cc nL lvl d pc pt p1 a) (hd : decode cc p1 = .ok (.goto off, 3)) (ht : (p1 : Int) + off = (pf : Int)) : CJ G own ini cc nL lvl d pc pt pf a := by
  refine ⟨h1.1, fun p e R s m args below meth c Q n0 nm S E st h v h' hst ef hnm kk => ?_⟩
  refine h1.2 p e R s m args below meth c Q n0 nm S E st h v h' hst ef hnm ?_
  cases v
  · exact at_goto S hd ht kk
  · exact kk
/-- a choice: the first arm ends in a goto behind the second -/
theorem ev_tn {α : Type} {inj : α → Value} {c : DC} {a b : En → Hp → Option (α × Hp)} {off : Int} (h1 : CJ G own ini cc nL lvl d pc pt pf c) (h2 : EV inj G own ini cc nL lvl d pt p1 a) (hd : decode cc p1 = .ok (.goto off, 3)) (ht : (p1 : Int) + off = (p2 : Int)) (h3 : EV inj G own ini cc nL lvl d pf p2 b) : EV inj G own ini cc nL lvl d pc p2 (tn c a b) := by
  refine ⟨fun E h v h' ef => ?_, fun p e R s m args below meth c Q n0 nm S E st h v h' hst ef hnm kk => ?_⟩
  · obtain ⟨x, e1, ef⟩ := bind_some2 ef
    split at ef
    · exact Nat.le_trans (h1.1 _ _ _ _ e1) (h2.1 _ _ _ _ ef)
    · exact Nat.le_trans (h1.1 _ _ _ _ e1) (h3.1 _ _ _ _ ef)
  · obtain ⟨⟨x, hx⟩, e1, ef⟩ := bind_some2 ef
    split at ef
    · rename_i hx1
      refine h1.2 p e R s m args below meth _ Q n0 nm S E st h x hx hst e1 (Nat.le_trans (h2.1 _ _ _ _ ef) hnm) ?_
      rw [if_pos hx1]
      exact h2.2 p e R s m args below meth _ Q n0 nm S E st hx v h' hst ef hnm (at_goto S hd ht kk)
    · rename_i hx1
      refine h1.2 p e R s m args below meth _ Q n0 nm S E st h x hx hst e1 (Nat.le_trans (h3.1 _ _ _ _ ef) hnm) ?_
      rw [if_neg hx1]
      exact h3.2 p e R s m args below meth _ Q n0 nm S E st hx v h' hst ef hnm kk
end COND
