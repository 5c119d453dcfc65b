theorem mw_max : Cond.static Lib.Math.max.name ∈ TWL ∧ Cond.initialized "java/lang/Math" ∈ TWL ∧ Cond.code Lib.Math.max.name Lib.Math.max.code 2 (some .int) ∈ TWL := ⟨tb 505 (by decide +kernel) rfl, tb 14 (by decide +kernel) rfl, tb 506 (by decide +kernel) rfl⟩
theorem mw_min : Cond.static Lib.Math.min.name ∈ TWL ∧ Cond.initialized "java/lang/Math" ∈ TWL ∧ Cond.code Lib.Math.min.name Lib.Math.min.code 2 (some .int) ∈ TWL := ⟨tb 465 (by decide +kernel) rfl, tb 14 (by decide +kernel) rfl, tb 466 (by decide +kernel) rfl⟩
/-- from a table of whole numbers that the class holds -/
def ckT (j : Nat) : Int32 := [0, 1, 2, -1, -1, -1, 3, 4].getD j 0
def ckI (b : DI) : DI := fun E h => (b E h).bind fun y => if inI y.1 8 = true then some (ckT y.1.toNatClampNeg, y.2) else none
section MORE2
variable {G : GG} {own : String} {ini : Bool} {cc : ByteArray} {nL lvl d pc p1 p2 p3 nx br co : Nat}
theorem ev_mmax {index : Nat} {a b : DI} (hlv : 0 < lvl) (h8 : d ≤ 40) (hl : Cond.methodLink own index Lib.Math.max.name ∈ TWL) (h1 : EV .int G own ini cc nL lvl d pc p1 a) (h2 : EV .int G own ini cc nL lvl (d + 1) p1 p2 b) (hd : decode cc p2 = .ok (.invokestatic index, 3)) : EV .int G own ini cc nL lvl d pc (p2 + 3) (bn omax a b) :=
  ev_mm (name := Lib.Math.max.name) (code9 := Lib.Math.max.code) (fun p l e R s m args below meth c H locs cells slots Q pc ls rest x y hx hb hml ho hT hf hlo hc hs hd k => va_mmax hx hb hml ho (hT.all args _ hl) (hT.all args _ mw_max.1) (hT.all args _ mw_max.2.1) (hT.all args _ mw_max.2.2) hf hlo hc hs hd k) hlv h8 h1 h2 hd
theorem ev_mmin {index : Nat} {a b : DI} (hlv : 0 < lvl) (h8 : d ≤ 40) (hl : Cond.methodLink own index Lib.Math.min.name ∈ TWL) (h1 : EV .int G own ini cc nL lvl d pc p1 a) (h2 : EV .int G own ini cc nL lvl (d + 1) p1 p2 b) (hd : decode cc p2 = .ok (.invokestatic index, 3)) : EV .int G own ini cc nL lvl d pc (p2 + 3) (bn omin a b) :=
  ev_mm (name := Lib.Math.min.name) (code9 := Lib.Math.min.code) (fun p l e R s m args below meth c H locs cells slots Q pc ls rest x y hx hb hml ho hT hf hlo hc hs hd k => va_mmin hx hb hml ho (hT.all args _ hl) (hT.all args _ mw_min.1) (hT.all args _ mw_min.2.1) (hT.all args _ mw_min.2.2) hf hlo hc hs hd k) hlv h8 h1 h2 hd
theorem ad_x {a : Nat} (h : ¬ a < 1000) : ad G a = G.2.2.2.1 a := if_neg h
theorem ev_ckN {index : Nat} {b : DI} (hl : Cond.fieldLinkNest own index RX10 "CLAUSE_OF_KIND" "[I" "StolenCup" ∈ TWL) (hd0 : decode cc pc = .ok (.getstatic index, 3)) (h2 : EV .int G own ini cc nL lvl (d + 1) (pc + 3) p2 b) (hd : decode cc p2 = .ok (.iaload, 1)) : EV .int G own ini cc nL lvl d pc (p2 + 1) (ckI b) := by
  have key : ∀ {E h v h'}, ckI b E h = some (v, h') → ∃ y, b E h = some (y, h') ∧ inI y 8 = true ∧ v = ckT y.toNatClampNeg := by
    intro E h v h' ef
    obtain ⟨⟨y, hy⟩, e2, ef⟩ := bind_some2 ef
    split at ef
    · rename_i hc
      cases ef
      exact ⟨y, e2, hc, rfl⟩
    · cases ef
  refine ⟨fun E h v h' ef => ?_, fun p e R s m args below meth c Q n0 nm S E st h v h' hst ef hnm kk => ?_⟩
  · obtain ⟨y, e2, -⟩ := key ef
    exact h2.1 _ _ _ _ e2
  · obtain ⟨y, e2, c3, rfl⟩ := key ef
    intro ls H locs hl0 hr hn
    have hts := S.2.2.2.2.1.1.all args
    obtain ⟨⟨cf, kf, fi, f, a, cell, z1, z2, z3, z4, z5, z6, z7, z8⟩, hX, -⟩ := S.2.2.2.2.1.2.2.2
    have hlt : a < (gH G).size := (Array.getElem?_eq_some_iff.mp z5).1
    refine va_WgetsN S.1 S.2.1 S.2.2.2.1 (hts _ hl) z1 z2 z3 z4 (by rw [hr.2.1.2.1 a hlt z8]; exact z5) (fun q => by rw [q] at z6; cases z6) z7 rfl hd0 ?_
    have hadx : ad G 1000 = G.2.2.2.1 1000 := ad_x (by omega)
    refine h2.2 p e R s m args below meth c Q n0 nm S E (.ref 1000 :: st) h y h' (by rw [ct_cons]; show 1 + _ ≤ _; omega) e2 hnm ?_ ls H locs hl0 hr hn |> cast (by
      show W p G.1 e R s m args below meth c H locs _ _ Q (F0 m (pc + 3) ls (.ref (ad G 1000) :: st.map (rv G))) = _
      rw [hadx])
    intro ls H locs hl0 hr hn
    obtain ⟨scr, y1, y2, y3, y4, y4', y5, y6⟩ := hX
    have hb : G.2.2.2.1 1000 < (gH G).size := (Array.getElem?_eq_some_iff.mp y1).1
    have hin := inI_vp c3
    have hlt2 : y.toNatClampNeg < 8 := Nat.not_le.mp fun q => hin (Or.inr q)
    have k1 := kk ls H locs hl0 hr hn
    show W p G.1 e R s m args below meth c H locs _ _ Q (F0 m p2 ls (.int y :: .ref (ad G 1000) :: st.map (rv G)))
    rw [hadx]
    exact W.iald (v := .int (ckT y.toNatClampNeg)) S.1 S.2.1 (by rw [hr.2.1.2.1 _ hb (by show ¬ (gH G).size ≤ _; omega)]; exact y1) y2 y3 (fun q => by
      rcases q with q | q
      · exact hin (Or.inl q)
      · omega) (y5 _ hlt2) rfl rfl hd k1
end MORE2
