/-! rows of a kind; a copy; texts -/
/-- System.arraycopy(a, 0, b, 0, n) of rows of numbers -/
def acp (a b : DR) (c : DI) : Sm := fun E h => (a E h).bind fun x => (b E x.2).bind fun y => (c E y.2).bind fun n => if x.1 < n.2.1 ∧ y.1 < n.2.1 ∧ (LY x.1).1 = 13 ∧ (LY y.1).1 = 13 ∧ 0 ≤ n.1.toInt ∧ n.1.toInt ≤ (LY x.1).2 ∧ n.1.toInt ≤ (LY y.1).2 then some (0, .null, E, (n.2.1, fun z j => if z = y.1 ∧ j < n.1.toNatClampNeg then n.2.2.1 x.1 j else n.2.2.1 z j, n.2.2.2)) else none
def xR (a : Nat) : DR := fun _ h => some (a, h)
def xC (a : DR) : DI := fun E h => (a E h).bind fun x => if x.1 = 1002 ∨ x.1 = 1003 then some (0, x.2) else none
def xV (a : DR) : DR := fun E h => (a E h).bind fun x => if x.1 = 1002 ∨ x.1 = 1003 then some (x.1 + 2, x.2) else none
def xL (a : Nat) : Nat := if a = 1004 then 8 else 13
def xN (a : DR) : DI := fun E h => (a E h).bind fun x => if x.1 = 1004 ∨ x.1 = 1005 then some (Int32.ofNat (xL x.1), x.2) else none
def xB (a : DR) (b : DI) : DI := fun E h => (a E h).bind fun x => (b E x.2).bind fun y => if (x.1 = 1004 ∨ x.1 = 1005) ∧ inI y.1 (xL x.1) = true then some ((byS.getD (x.1 - 1004) []).getD y.1.toNatClampNeg 0, y.2) else none
def xZ : DI := fun _ h => some (1, h)
/-- the receiver is one of the two texts -/
def rcx (vs : List Value) (_ : Hp) : Bool := match vs with
  | .ref x :: _ => decide (x = 1002) || decide (x = 1003)
  | _ => false
section TEXT
variable {G : GG} {own : String} {ini : Bool} {cc : ByteArray} {nL lvl d pc p1 p2 p3 p4 p5 nx br co : Nat}
theorem ev_nwI {b : DI} (h1 : EV .int G own ini cc nL lvl d pc p1 b) (hd : decode cc p1 = .ok (.newarray .int, 2)) : EV .ref G own ini cc nL lvl d pc (p1 + 2) (nwA 13 b) :=
  ev_nwA (t0 := 1) (ty := .int) rfl ⟨by decide, by decide⟩ (by simp) (fun _ => rfl) rfl (fun _ _ h => h) (by decide) h1 hd
theorem ev_nwB {b : DI} (h1 : EV .int G own ini cc nL lvl d pc p1 b) (hd : decode cc p1 = .ok (.newarray .byte, 2)) : EV .ref G own ini cc nL lvl d pc (p1 + 2) (nwA 12 b) :=
  ev_nwA (t0 := 0) (ty := .byte) rfl ⟨by decide, by decide⟩ (by simp) (fun _ => rfl) rfl (fun _ _ h => h) (by decide) h1 hd
theorem ev_nwZ {b : DI} (h1 : EV .int G own ini cc nL lvl d pc p1 b) (hd : decode cc p1 = .ok (.newarray .boolean, 2)) : EV .ref G own ini cc nL lvl d pc (p1 + 2) (nwA 14 b) :=
  ev_nwA (t0 := 2) (ty := .boolean) rfl ⟨by decide, by decide⟩ (by simp) (fun _ => rfl) rfl (fun _ _ h => h) (by decide) h1 hd
theorem ev_none {α : Type} {inj : α → Value} : EV inj G own ini cc nL lvl d pc p1 (fun _ _ => none) := by
  refine ⟨fun E h v h' ef => ?_, fun p e R s m args below meth c Q n0 nm S E st h v h' hst ef => ?_⟩
  · cases ef
  · cases ef
theorem ev_xs {x index : Nat} {tx : String} (hx : ¬ x < 1000) (hk : ∀ s : State, KK G s → vk_R own index tx (G.2.2.2.1 x) s) (hd : decode cc pc = .ok (.ldc index, 2)) : EV .ref G own ini cc nL lvl d pc (pc + 2) (xR x) :=
  ev_leaf (fun E h w h' e => by cases e; rfl) fun p e R s m args below meth c Q H locs cells slots E h w ls rest hx1 hb ho hK hl ef k => by
    cases ef
    refine va_ldcS hx1 hb ho (hk s hK) hd ?_
    rw [← ad_x hx]
    exact k
theorem xs_of {x : Nat} (h : x = 1002 ∨ x = 1003) : ∃ i, i < 2 ∧ x = 1002 + i := by
  rcases h with rfl | rfl
  · exact ⟨0, by decide, rfl⟩
  · exact ⟨1, by decide, rfl⟩
theorem ev_xC {index : Nat} {a : DR} (hl : Cond.fieldLink own index "java/lang/String" "coder" "B" ∈ TWL) (h1 : EV .ref G own ini cc nL lvl d pc p1 a) (hd : decode cc p1 = .ok (.getfield index, 3)) : EV .int G own ini cc nL lvl d pc (p1 + 3) (xC a) := by
  have key : ∀ {E h v h'}, xC a E h = some (v, h') → ∃ x, a E h = some (x, h') ∧ (x = 1002 ∨ x = 1003) ∧ v = 0 := by
    intro E h v h' ef
    obtain ⟨⟨x, hx⟩, e1, ef⟩ := bind_some2 ef
    split at ef
    · rename_i hc
      cases ef
      exact ⟨x, e1, hc, rfl⟩
    · cases ef
  refine ⟨fun E h v h' ef => ?_, fun p e R s m args below meth c Q n0 nm S E st h v h' hst ef hnm kk => ?_⟩
  · obtain ⟨x, e1, -⟩ := key ef
    exact h1.1 _ _ _ _ e1
  · obtain ⟨x, e1, c1, rfl⟩ := key ef
    refine h1.2 p e R s m args below meth c Q n0 nm S E st h x h' hst e1 hnm ?_
    intro ls H locs hl' hr hn'
    obtain ⟨i, hi, rfl⟩ := xs_of c1
    have hts := S.2.2.2.2.1.1.all args
    obtain ⟨cf, kf, fi, f, cell, z1, z2, z3, z4, z5, z6⟩ := (S.2.2.2.2.1.2.2.2.2.2.2.2.2.1.1 i hi).2.1
    have hlt := (Array.getElem?_eq_some_iff.mp z3).1
    have k1 := kk ls H locs hl' hr hn'
    show W p G.1 e R s m args below meth c H locs _ _ Q (F0 m p1 ls (.ref (ad G (1002 + i)) :: st.map (rv G)))
    rw [ad_x (by omega)]
    exact W.getf S.1 S.2.1 S.2.2.2.1 (hts _ hl) z1 z2 (by rw [hr.2.1.2.1 _ hlt z6]; exact z3) z4 z5 rfl rfl hd k1
theorem ev_xV {index : Nat} {a : DR} (hl : Cond.fieldLink own index "java/lang/String" "value" "[B" ∈ TWL) (h1 : EV .ref G own ini cc nL lvl d pc p1 a) (hd : decode cc p1 = .ok (.getfield index, 3)) : EV .ref G own ini cc nL lvl d pc (p1 + 3) (xV a) := by
  have key : ∀ {E h v h'}, xV a E h = some (v, h') → ∃ x, a E h = some (x, h') ∧ (x = 1002 ∨ x = 1003) ∧ v = x + 2 := by
    intro E h v h' ef
    obtain ⟨⟨x, hx⟩, e1, ef⟩ := bind_some2 ef
    split at ef
    · rename_i hc
      cases ef
      exact ⟨x, e1, hc, rfl⟩
    · cases ef
  refine ⟨fun E h v h' ef => ?_, fun p e R s m args below meth c Q n0 nm S E st h v h' hst ef hnm kk => ?_⟩
  · obtain ⟨x, e1, -⟩ := key ef
    exact h1.1 _ _ _ _ e1
  · obtain ⟨x, e1, c1, rfl⟩ := key ef
    refine h1.2 p e R s m args below meth c Q n0 nm S E st h x h' hst e1 hnm ?_
    intro ls H locs hl' hr hn'
    obtain ⟨i, hi, rfl⟩ := xs_of c1
    have hts := S.2.2.2.2.1.1.all args
    obtain ⟨cf, kf, fi, f, cell, z1, z2, z3, z4, z5, z6⟩ := (S.2.2.2.2.1.2.2.2.2.2.2.2.2.1.1 i hi).2.2.1
    have hlt := (Array.getElem?_eq_some_iff.mp z3).1
    have k1 := kk ls H locs hl' hr hn'
    show W p G.1 e R s m args below meth c H locs _ _ Q (F0 m p1 ls (.ref (ad G (1002 + i)) :: st.map (rv G)))
    rw [ad_x (by omega)]
    refine W.getf S.1 S.2.1 S.2.2.2.1 (hts _ hl) z1 z2 (by rw [hr.2.1.2.1 _ hlt z6]; exact z3) z4 z5 rfl rfl hd ?_
    have k2 : List.map (rv G) (Value.ref (1002 + i + 2) :: st) = .ref (G.2.2.2.1 (1004 + i)) :: st.map (rv G) := by
      show Value.ref (ad G (1002 + i + 2)) :: _ = _
      rw [ad_x (by omega), show 1002 + i + 2 = 1004 + i by omega]
    rw [k2] at k1
    exact k1
end TEXT
