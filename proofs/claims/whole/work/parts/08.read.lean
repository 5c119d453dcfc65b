theorem LY_mem {a c : Nat} (hc : c ≠ 13) (h : (LY a).1 = c) : LY a ∈ LYL := by
  unfold LY at h ⊢
  by_cases hl : a < LYL.length
  · rw [List.getD_eq_getElem?_getD, List.getElem?_eq_getElem hl]
    exact List.getElem_mem hl
  · rw [List.getD_eq_getElem?_getD, List.getElem?_eq_none (by omega)] at h
    exact absurd h.symm hc
theorem LY_size {c : Nat} {C : String} {T : u_T} {N : Nat} {ty : Nat → FieldType} (ck : CKd c C T N ty) {a : Nat} (h : (LY a).1 = c) : (LY a).2 = N := by
  have h1 := ck.1
  exact ck.2.2.2.2.2.2.1 _ (LY_mem (by omega) h) h
theorem EE_obj {G : GG} {h : Hp} {c : Nat} {C : String} {T : u_T} {N : Nat} {ty : Nat → FieldType} (ck : CKd c C T N ty) {a : Nat} (ha : (LY a).1 = c) : EE G h a = .inr (c, (List.range N).map (fE G h c a)) := by
  have hs := LY_size ck ha
  have h1 := ck.1
  unfold EE
  rw [if_pos (by omega), ha, hs]
theorem EE_num {G : GG} {h : Hp} {a c : Nat} (ha : (LY a).1 = c) (h1 : ¬ c < 12) (h2 : c < 15) : EE G h a = .inl ((gD G).1 c, (LY a).2, .inl (h.2.1 a)) := by
  unfold EE
  rw [ha, if_neg h1, if_pos h2]
theorem EE_ref {G : GG} {h : Hp} {a c : Nat} (ha : (LY a).1 = c) (h1 : ¬ c < 15) : EE G h a = .inl ((gD G).1 c, (LY a).2, .inr (.inr (.inr (.inr (fun j => (h.2.2 a j).map (ad G)))))) := by
  unfold EE
  rw [ha, if_neg (by omega), if_neg h1]
/-- the link of a field access: of the class itself, or of a nest mate -/
def LKd (own : String) (index : Nat) (T : u_T) (k : Nat) : Prop := Cond.fieldLink own index (T k).1 (T k).2.1 (T k).2.2.1 ∈ TWL ∨ ∃ host, Cond.fieldLinkNest own index (T k).1 (T k).2.1 (T k).2.2.1 host ∈ TWL
theorem inI_vp {i : Int32} {n : Nat} (h : inI i n = true) : vp_in i n := by
  unfold inI at h
  simp only [Bool.and_eq_true, decide_eq_true_eq] at h
  exact vp_in_iff.mpr h
section READ
variable {G : GG} {own : String} {ini : Bool} {cc : ByteArray} {nL lvl d pc p1 p2 p3 pt pf : Nat}
theorem w_get {p : Program} {e : Env} {R : Room} {s : State} {m : MethodId} {args : Array Value} {below : List Frame} {meth : Method} {c : Code} {H : Heap} {locs : List Loc} {cells slots : Nat} {Q : State → Prop} {ci k index a : Nat} {C : String} {T : u_T} {N : Nat} {ty : Nat → FieldType} {h : Hp} {ls : Array Slot} {rest : List Value}
    (hx : p.tables.exec = Jvm.exec) (hb : c.code = cc) (ho : s.vm.findClass own = some m.cls) (hK : KK G s) (ck : CKd ci C T N ty) (hk : k < N) (hl : LKd own index T k) (hr : Rel G h H locs) (ha : a < h.1) (hc : (LY a).1 = ci) (hd : decode cc pc = .ok (.getfield index, 3))
    (kk : W p G.1 e R s m args below meth c H locs cells slots Q (F0 m (pc + 3) ls (fE G h ci a k :: rest))) : W p G.1 e R s m args below meth c H locs cells slots Q (F0 m pc ls (.ref (ad G a) :: rest)) := by
  have he : (WS G h)[a]? = some (ad G a, .inr (ci, (List.range N).map (fE G h ci a))) := by rw [WS_at G h ha, EE_obj ck hc]
  have hts := hK.1.all args
  have hv : ((List.range N).map (fE G h ci a))[k]? = some (fE G h ci a k) := by simp [hk]
  rcases hl with hl | ⟨host, hl⟩
  · exact va_get hx hb hts ck.2.2.2.2.1 ho hK.2.1 hr.1 a he ck.2.1 k hk (hts _ hl) (fun _ h => h) hv hd kk
  · exact va_getN hx hb hts ck.2.2.2.2.1 ho hK.2.1 hr.1 a he ck.2.1 k hk (hts _ hl) (fun _ h => h) hv hd kk
theorem rv_ref {h : Hp} {a : Nat} : rv G (.ref a) = .ref (ad G a) := rfl
theorem ev_fI {ci k index : Nat} {C : String} {T : u_T} {N : Nat} {ty : Nat → FieldType} {a : DR} (ck : CKd ci C T N ty) (hk : k < N) (hn : isNum (ty k) = true) (hl : LKd own index T k) (h1 : EV .ref G own ini cc nL lvl d pc p1 a) (hd : decode cc p1 = .ok (.getfield index, 3)) : EV .int G own ini cc nL lvl d pc (p1 + 3) (fI ci k a) := by
  refine ⟨fun E h v h' ef => ?_, fun p e R s m args below meth c Q n0 nm S E st h v h' hst ef hnm kk => ?_⟩
  · obtain ⟨x, e1, ef⟩ := bind_some2 ef
    split at ef
    · cases ef
      exact h1.1 _ _ _ _ e1
    · cases ef
  · obtain ⟨⟨x, hx⟩, e1, ef⟩ := bind_some2 ef
    split at ef
    · rename_i hc
      cases ef
      refine h1.2 p e R s m args below meth c Q n0 nm S E st h x hx hst e1 hnm ?_
      intro ls H locs hl' hr hn'
      have hf : fE G hx ci x k = .int (hx.2.1 x k) := by unfold fE; rw [ck.2.2.2.2.2.1, if_pos hn]
      exact w_get S.1 S.2.1 S.2.2.2.1 S.2.2.2.2.1 ck hk hl hr hc.1 hc.2 hd (by rw [hf]; exact kk ls H locs hl' hr hn')
    · cases ef
theorem ev_fR {ci k index : Nat} {C : String} {T : u_T} {N : Nat} {ty : Nat → FieldType} {a : DR} (ck : CKd ci C T N ty) (hk : k < N) (hn : isNum (ty k) = false) (hl : LKd own index T k) (h1 : EV .ref G own ini cc nL lvl d pc p1 a) (hd : decode cc p1 = .ok (.getfield index, 3)) : EV .ref G own ini cc nL lvl d pc (p1 + 3) (fR ci k a) := by
  have key : ∀ {E h v h'}, fR ci k a E h = some (v, h') → ∃ x, a E h = some (x, h') ∧ x < h'.1 ∧ (LY x).1 = ci ∧ h'.2.2 x k = some v := by
    intro E h v h' ef
    obtain ⟨⟨x, hx⟩, e1, ef⟩ := bind_some2 ef
    split at ef
    · rename_i hc
      obtain ⟨y, e2, e3⟩ := Option.map_eq_some_iff.mp ef
      cases e3
      exact ⟨x, e1, hc.1, hc.2, e2⟩
    · cases ef
  refine ⟨fun E h v h' ef => ?_, fun p e R s m args below meth c Q n0 nm S E st h v h' hst ef hnm kk => ?_⟩
  · obtain ⟨x, e1, -⟩ := key ef
    exact h1.1 _ _ _ _ e1
  · obtain ⟨x, e1, c1, c2, e2⟩ := key ef
    refine h1.2 p e R s m args below meth c Q n0 nm S E st h x h' hst e1 hnm ?_
    intro ls H locs hl' hr hn'
    have hf : fE G h' ci x k = .ref (ad G v) := by unfold fE; rw [ck.2.2.2.2.2.1, if_neg (by rw [hn]; decide), e2]; rfl
    exact w_get S.1 S.2.1 S.2.2.2.1 S.2.2.2.2.1 ck hk hl hr c1 c2 hd (by rw [hf]; exact kk ls H locs hl' hr hn')
/-- which load reads which row -/
def LDd (c : Nat) (ins : Instr) : Prop := (c = 12 ∧ ins = .baload) ∨ (c = 13 ∧ ins = .iaload) ∨ (c = 14 ∧ ins = .baload)
theorem ev_aI {ci : Nat} {ins : Instr} {a : DR} {b : DI} (hi : LDd ci ins) (h1 : EV .ref G own ini cc nL lvl d pc p1 a) (h2 : EV .int G own ini cc nL lvl (d + 1) p1 p2 b) (hd : decode cc p2 = .ok (ins, 1)) : EV .int G own ini cc nL lvl d pc (p2 + 1) (aI ci a b) := by
  have key : ∀ {E h v h'}, aI ci a b E h = some (v, h') → ∃ x hx y, a E h = some (x, hx) ∧ b E hx = some (y, h') ∧ x < h'.1 ∧ (LY x).1 = ci ∧ inI y (LY x).2 = true ∧ v = h'.2.1 x y.toNatClampNeg := by
    intro E h v h' ef
    obtain ⟨⟨x, hx⟩, e1, ef⟩ := bind_some2 ef
    obtain ⟨⟨y, hy⟩, e2, ef⟩ := bind_some2 ef
    split at ef
    · rename_i hc
      cases ef
      exact ⟨x, hx, y, e1, e2, hc.1, hc.2.1, hc.2.2, rfl⟩
    · cases ef
  refine ⟨fun E h v h' ef => ?_, fun p e R s m args below meth c Q n0 nm S E st h v h' hst ef hnm kk => ?_⟩
  · obtain ⟨x, hx, y, e1, e2, -⟩ := key ef
    exact Nat.le_trans (h1.1 _ _ _ _ e1) (h2.1 _ _ _ _ e2)
  · obtain ⟨x, hx, y, e1, e2, c1, c2, c3, rfl⟩ := key ef
    refine h1.2 p e R s m args below meth c Q n0 nm S E st h x hx hst e1 (Nat.le_trans (h2.1 _ _ _ _ e2) hnm) ?_
    refine h2.2 p e R s m args below meth c Q n0 nm S E (.ref x :: st) hx y h' (by rw [ct_cons]; show 1 + _ ≤ _; omega) e2 hnm ?_
    intro ls H locs hl' hr hn'
    have k1 := kk ls H locs hl' hr hn'
    have hK := S.2.2.2.2.1.2.1
    rcases hi with ⟨rfl, rfl⟩ | ⟨rfl, rfl⟩ | ⟨rfl, rfl⟩
    · exact va_bald S.1 S.2.1 hK hr.1 x 0 (by rw [WS_at G h' c1, EE_num c2 (by decide) (by decide)]) rfl (inI_vp c3) hd k1
    · exact va_iald S.1 S.2.1 hK hr.1 x 1 (by rw [WS_at G h' c1, EE_num c2 (by decide) (by decide)]) rfl (inI_vp c3) hd k1
    · exact va_zald S.1 S.2.1 hK hr.1 x 2 (by rw [WS_at G h' c1, EE_num c2 (by decide) (by decide)]) rfl (inI_vp c3) hd k1
theorem ev_aR {ci : Nat} {a : DR} {b : DI} (hi : ci = 15 ∨ ci = 16 ∨ ci = 17 ∨ ci = 18) (h1 : EV .ref G own ini cc nL lvl d pc p1 a) (h2 : EV .int G own ini cc nL lvl (d + 1) p1 p2 b) (hd : decode cc p2 = .ok (.aaload, 1)) : EV .ref G own ini cc nL lvl d pc (p2 + 1) (aR ci a b) := by
  have key : ∀ {E h v h'}, aR ci a b E h = some (v, h') → ∃ x hx y, a E h = some (x, hx) ∧ b E hx = some (y, h') ∧ x < h'.1 ∧ (LY x).1 = ci ∧ inI y (LY x).2 = true ∧ h'.2.2 x y.toNatClampNeg = some v := by
    intro E h v h' ef
    obtain ⟨⟨x, hx⟩, e1, ef⟩ := bind_some2 ef
    obtain ⟨⟨y, hy⟩, e2, ef⟩ := bind_some2 ef
    split at ef
    · rename_i hc
      obtain ⟨z, e3, e4⟩ := Option.map_eq_some_iff.mp ef
      cases e4
      exact ⟨x, hx, y, e1, e2, hc.1, hc.2.1, hc.2.2, e3⟩
    · cases ef
  refine ⟨fun E h v h' ef => ?_, fun p e R s m args below meth c Q n0 nm S E st h v h' hst ef hnm kk => ?_⟩
  · obtain ⟨x, hx, y, e1, e2, -⟩ := key ef
    exact Nat.le_trans (h1.1 _ _ _ _ e1) (h2.1 _ _ _ _ e2)
  · obtain ⟨x, hx, y, e1, e2, c1, c2, c3, c4⟩ := key ef
    refine h1.2 p e R s m args below meth c Q n0 nm S E st h x hx hst e1 (Nat.le_trans (h2.1 _ _ _ _ e2) hnm) ?_
    refine h2.2 p e R s m args below meth c Q n0 nm S E (.ref x :: st) hx y h' (by rw [ct_cons]; show 1 + _ ≤ _; omega) e2 hnm ?_
    intro ls H locs hl' hr hn'
    have k1 := kk ls H locs hl' hr hn'
    have hK := S.2.2.2.2.1.2.1
    have c3' := inI_vp c3
    have hat := hr.1 x _ (WS_at G h' c1)
    rw [EE_ref c2 (by omega)] at hat
    have hlt : y.toNatClampNeg < (LY x).2 := Nat.not_le.mp fun q => c3' (Or.inr q)
    have fin : ∀ (t0 : Nat) (ty : FieldType), (atys G)[t0]? = some ((gD G).1 ci, ty) → ty.isReference = true → W p G.1 e R s m args below meth c H locs (h'.1 - n0) (SZ h'.1 - SZ n0) Q (F0 m p2 ls (List.map (rv G) (.int y :: .ref x :: st))) := by
      intro t0 ty ht hty
      refine W.aald (v := .ref (ad G v)) (ty := ty) S.1 S.2.1 hat ((hK.2 t0 _ ht).1 (LY x).2 (fun j => va_rf ((h'.2.2 x j).map (ad G)))) hty (fun q => by cases q) (by show ¬ (y < 0 ∨ (arrV _ _ _).slots.size ≤ _); rw [arrV_size]; exact c3') (by show (arrV _ _ _).slots[_]? = _; rw [arrV_read _ _ hlt]; show some (va_rf ((h'.2.2 x y.toNatClampNeg).map (ad G))) = _; rw [c4]; rfl) rfl rfl hd k1
    rcases hi with rfl | rfl | rfl | rfl
    · exact fin 3 _ rfl rfl
    · exact fin 4 _ rfl rfl
    · exact fin 5 _ rfl rfl
    · exact fin 6 _ rfl rfl
theorem ev_aN {ci : Nat} {a : DR} (hi : ci = 12 ∨ ci = 13) (h1 : EV .ref G own ini cc nL lvl d pc p1 a) (hd : decode cc p1 = .ok (.arraylength, 1)) : EV .int G own ini cc nL lvl d pc (p1 + 1) (aN ci a) := by
  have key : ∀ {E h v h'}, aN ci a E h = some (v, h') → ∃ x, a E h = some (x, h') ∧ x < h'.1 ∧ (LY x).1 = ci ∧ v = Int32.ofNat (LY x).2 := by
    intro E h v h' ef
    obtain ⟨⟨x, hx⟩, e1, ef⟩ := bind_some2 ef
    split at ef
    · rename_i hc
      cases ef
      exact ⟨x, e1, hc.1, hc.2, rfl⟩
    · cases ef
  refine ⟨fun E h v h' ef => ?_, fun p e R s m args below meth c Q n0 nm S E st h v h' hst ef hnm kk => ?_⟩
  · obtain ⟨x, e1, -⟩ := key ef
    exact h1.1 _ _ _ _ e1
  · obtain ⟨x, e1, c1, c2, rfl⟩ := key ef
    refine h1.2 p e R s m args below meth c Q n0 nm S E st h x h' hst e1 hnm ?_
    intro ls H locs hl' hr hn'
    have k1 := kk ls H locs hl' hr hn'
    have hK := S.2.2.2.2.1.2.1
    rcases hi with rfl | rfl
    · exact va_alen (x := ((LY x).2, .inl (h'.2.1 x))) S.1 S.2.1 hK hr.1 x 0 (by rw [WS_at G h' c1, EE_num c2 (by decide) (by decide)]) (ty := .byte) rfl rfl hd k1
    · exact va_alen (x := ((LY x).2, .inl (h'.2.1 x))) S.1 S.2.1 hK hr.1 x 1 (by rw [WS_at G h' c1, EE_num c2 (by decide) (by decide)]) (ty := .int) rfl rfl hd k1
end READ
