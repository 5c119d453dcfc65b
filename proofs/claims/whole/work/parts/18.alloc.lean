/-! making cells -/
def mkc (h : Hp) : Hp := (h.1 + 1, fun x j => if x = h.1 then 0 else h.2.1 x j, fun x j => if x = h.1 then none else h.2.2 x j)
def nwO (ci : Nat) (F : FN) (a : DA) : DR := fun E h => if h.1 < 1000 ∧ (LY h.1).1 = ci then (a E (mkc h)).bind fun x => match F (.ref h.1 :: x.1) x.2 with
  | some (none, h2) => some (h.1, h2)
  | _ => none else none
def nwA (ci : Nat) (b : DI) : DR := fun E h => (b E h).bind fun y => if y.2.1 < 1000 ∧ (LY y.2.1).1 = ci ∧ y.1.toInt = (LY y.2.1).2 then some (y.2.1, mkc y.2) else none
def sO : Sm := fun E h => (ldR 0 E h).bind fun x => some (0, .null, E, x.2)
theorem SZ_succ (a : Nat) : SZ (a + 1) = SZ a + (LY a).2 := by
  unfold SZ LY
  by_cases hl : a < LYL.length
  · rw [List.take_succ_eq_append_getElem hl, List.map_append, List.sum_append, List.getD_eq_getElem?_getD, List.getElem?_eq_getElem hl]
    simp
  · rw [List.take_of_length_le (by omega), List.take_of_length_le (by omega), List.getD_eq_getElem?_getD, List.getElem?_eq_none (by omega)]
    simp
theorem EE_mkc {G : GG} {h : Hp} {b : Nat} (hb : b ≠ h.1) : EE G (mkc h) b = EE G h b := by
  have h1 : (mkc h).2.1 b = h.2.1 b := funext fun j => by simp [mkc, hb]
  have h2 : (mkc h).2.2 b = h.2.2 b := funext fun j => by simp [mkc, hb]
  have h3 : fE G (mkc h) (LY b).1 b = fE G h (LY b).1 b := funext fun j => by unfold fE; rw [h1, h2]
  unfold EE
  rw [h1, h2, h3]
theorem Rel.push {G : GG} {h : Hp} {H H1 : Heap} {locs : List Loc} (hr : Rel G h H locs) (hn : h.1 < 1000) (e1 : va_at (gD G) vwCl (ad G h.1, EE G (mkc h) h.1) H1) (hz : H1.size = H.size + 1) (oq : ∀ q : Nat, q < H.size → H1[q]? = H[q]?) : Rel G (mkc h) H1 locs := by
  obtain ⟨h1, h2, h3, h4⟩ := hr
  refine ⟨fun k q hk => ?_, ⟨by rw [hz]; have := h2.1; omega, fun q z1 z2 => (oq q (Nat.lt_of_lt_of_le z1 h2.1)).trans (h2.2.1 q z1 z2), h2.2.2⟩, by rw [hz, h3]; show _ = _ + (h.1 + 1); omega, by show h.1 + 1 ≤ 1000; omega⟩
  obtain ⟨hl, rfl⟩ := WS_inv G (mkc h) hk
  have hl : k < h.1 + 1 := hl
  by_cases hka : k = h.1
  · subst hka; exact e1
  · rw [EE_mkc hka]
    have hat := h1 k _ (WS_at G h (by omega))
    exact hat.kept (oq _ hat.lt)
section ALLOC
variable {G : GG} {own : String} {ini : Bool} {cc : ByteArray} {nL lvl d pc p1 p2 p3 nx br co : Nat}
/-- what making an object needs of the tables -/
def NWd (own : String) (index : Nat) (C : String) (N : Nat) (ty : Nat → FieldType) : Prop := Cond.classLink own index C ∈ TWL ∧ Cond.instantiable C N ∈ TWL ∧ Cond.initialized C ∈ TWL ∧ ∀ k, k < N → defaultValue (ty k) = if isNum (ty k) then .int 0 else .null
theorem w_new {p : Program} {e : Env} {R : Room} {s : State} {m : MethodId} {args : Array Value} {below : List Frame} {meth : Method} {c : Code} {H : Heap} {locs : List Loc} {cells slots : Nat} {Q : State → Prop} {ci index : Nat} {C : String} {T : u_T} {N : Nat} {ty : Nat → FieldType} {h : Hp} {ls : Array Slot} {rest : List Value}
    (hx : p.tables.exec = Jvm.exec) (hb : c.code = cc) (ho : s.vm.findClass own = some m.cls) (hK : KK G s) (ck : CKd ci C T N ty) (nw : NWd own index C N ty) (hr : Rel G h H locs) (hn : h.1 < 1000) (hc : (LY h.1).1 = ci) (h1 : cells + 1 ≤ R.cells) (h2 : slots + N ≤ R.slots) (hd : decode cc pc = .ok (.new index, 3))
    (kk : ∀ H1 : Heap, Rel G (mkc h) H1 locs → W p G.1 e R s m args below meth c H1 locs (cells + 1) (slots + N) Q (F0 m (pc + 3) ls (.ref (ad G h.1) :: rest))) : W p G.1 e R s m args below meth c H locs cells slots Q (F0 m pc ls rest) := by
  have hts := hK.1.all args
  have hKn := hK.2.1.1 ci _ ck.2.1
  refine W.newcK hx hb ho (hts _ nw.1) (hts _ nw.2.1) (hts _ nw.2.2.1) rfl hd h1 h2 hKn.2.1 rfl fun H1 kC hkC e1 z1 o1 => ?_
  have hadd : ad G h.1 = H.size := by rw [ad_lt G hn, hr.2.2.1]
  have k1 := kk H1 (hr.push hn ?_ z1 o1)
  · rw [hadd] at k1
    exact k1
  · rw [EE_obj ck hc]
    refine ⟨_, ck.2.1, ?_⟩
    rw [hadd]
    refine (u_born ty hts ck.2.2.2.2.1 hKn hkC e1 ck.2.2.1).to fun k hk => ?_
    rw [nw.2.2.2 k hk]
    simp only [vp_V, List.getD_eq_getElem?_getD, List.getElem?_map, List.getElem?_range hk, Option.map_some, Option.getD_some]
    unfold fE
    rw [ck.2.2.2.2.2.1]
    by_cases hi : isNum (ty k) = true <;> simp [mkc, hi, va_rf]
theorem nwO_inv {ci : Nat} {F : FN} {a : DA} {E : En} {h h' : Hp} {v : Nat} (e : nwO ci F a E h = some (v, h')) : h.1 < 1000 ∧ (LY h.1).1 = ci ∧ v = h.1 ∧ ∃ vs h1, a E (mkc h) = some (vs, h1) ∧ F (.ref h.1 :: vs) h1 = some (none, h') := by
  unfold nwO at e
  split at e
  · rename_i hc
    obtain ⟨⟨vs, h1⟩, e1, e⟩ := bind_some2 e
    split at e
    · rename_i hF
      cases e
      exact ⟨hc.1, hc.2, rfl, vs, h1, e1, hF⟩
    · cases e
  · cases e
/-- new C(..) -/
theorem ev_nwO {ci index ix : Nat} {C : String} {T : u_T} {N : Nat} {ty : Nat → FieldType} {y : MethodName} {cy : ByteArray} {ny lv n : Nat} {F : FN} {a : DA} (ck : CKd ci C T N ty) (nw : NWd own index C N ty) (hC : CT G y cy ny none lv F) (hlv : lv < lvl) (mi : MId y cy ny n) (ml : MLd own ix y) (hd1 : decode cc pc = .ok (.new index, 3)) (hd2 : decode cc (pc + 3) = .ok (.dup, 1)) (h1 : EVs G own ini cc nL lvl (d + 2) (pc + 4) p1 a) (hn : ∀ E h v h', a E h = some (v, h') → v.length = n) (h8 : d + 1 ≤ 8) (hd : decode cc p1 = .ok (.invokespecial ix, 3)) : EV .ref G own ini cc nL lvl d pc (p1 + 3) (nwO ci F a) := by
  refine ⟨fun E h v h' ef => ?_, fun p e R s m args below meth c Q n0 nm S E st h v h' hst ef hnm kk => ?_⟩
  · obtain ⟨-, -, -, vs, g1, e1, e2⟩ := nwO_inv ef
    have a1 : h.1 + 1 ≤ g1.1 := h1.1 _ _ _ _ e1
    have a2 := hC.1 _ _ _ _ e2
    omega
  · obtain ⟨c1, c2, rfl, vs, g1, e1, e2⟩ := nwO_inv ef
    have a1 : h.1 + 1 ≤ g1.1 := h1.1 _ _ _ _ e1
    have a2 := hC.1 _ _ _ _ e2
    have hM := hC.2 _ _ _ _ e2
    have hts := S.2.2.2.2.1.1.all args
    have b1 := S.2.2.2.2.2.2.1
    have b2 := S.2.2.2.2.2.2.2.1
    intro ls H locs hl hr hn0
    have q1 := SZ_succ h.1
    rw [LY_size ck c2] at q1
    have q2 := SZ_mono hn0
    have q3 := SZ_mono (show h.1 + 1 ≤ nm by omega)
    refine w_new S.1 S.2.1 S.2.2.2.1 S.2.2.2.2.1 ck nw hr c1 c2 (by omega) (by omega) hd1 fun H1 hr1 => ?_
    have z1 : h.1 - n0 + 1 = (mkc h).1 - n0 := by show _ = h.1 + 1 - n0; omega
    have z2 : SZ h.1 - SZ n0 + N = SZ (mkc h).1 - SZ n0 := by show _ = SZ (h.1 + 1) - SZ n0; omega
    rw [z1, z2]
    refine lv_dup S.1 S.2.1 hd2 rfl ?_
    refine h1.2 p e R s m args below meth c Q n0 nm S E (.ref h.1 :: .ref h.1 :: st) (mkc h) vs g1 (by rw [ct_cons, ct_cons]; show 1 + (1 + _) ≤ _; omega) e1 (Nat.le_trans a2 hnm) ?_ ls H1 locs hl hr1 (by show n0 ≤ h.1 + 1; omega)
    intro ls H locs hl hr hn0
    have s1 := SZ_mono hn0
    have s2 := SZ_mono a2
    have s3 := SZ_mono hnm
    obtain ⟨mi0, mi1, mi3, mi4, mi5, mi6⟩ := mi
    have hp : PreS s H (PC G (.ref h.1 :: vs) g1) (.ref (ad G h.1) :: vs.map (rv G)) := ⟨PC_blind G _ g1, fun U hU hW => ⟨rfl, S.2.2.2.2.1.moved hW, by rw [hU]; exact hr.less⟩⟩
    have hstk : (F0 m p1 ls (List.map (rv G) (vs.reverse ++ Value.ref h.1 :: Value.ref h.1 :: st))).stack = (vs.map (rv G)).reverse ++ .ref (ad G h.1) :: (Value.ref h.1 :: st).map (rv G) := by
      show List.map (rv G) (vs.reverse ++ Value.ref h.1 :: Value.ref h.1 :: st) = _
      simp [rv]
    have hW : 2 * (F0 m p1 ls (List.map (rv G) (vs.reverse ++ Value.ref h.1 :: Value.ref h.1 :: st))).monitorRoom + (((Value.ref h.1 :: st).map (rv G)).map fun v => v.category).sum ≤ 8 := by
      refine lv_room ?_
      have : ((Value.ref h.1 :: st).map (rv G)).map (fun v => v.category) = (Value.ref h.1 :: st).map (fun v => v.category) := by
        rw [List.map_map]
        exact List.map_congr_left fun v _ => rv_cat v
      rw [this]
      have : ct (Value.ref h.1 :: st) ≤ 8 := by rw [ct_cons]; show 1 + _ ≤ _; omega
      exact this
    have hf : g1.1 - n0 + (h'.1 - g1.1) ≤ R.cells ∧ SZ g1.1 - SZ n0 + (SZ h'.1 - SZ g1.1) ≤ R.slots := by
      constructor <;> omega
    have hR : (rmd lv (h'.1 - g1.1) (SZ h'.1 - SZ g1.1)).frames + 1 ≤ R.frames ∧ 8 + (ny + 11) + (rmd lv (h'.1 - g1.1) (SZ h'.1 - SZ g1.1)).locals ≤ R.locals := by
      obtain ⟨a1, a2⟩ := S.2.2.2.2.2.1
      show lv + 1 ≤ R.frames ∧ 8 + (ny + 11) + 60 * lv ≤ R.locals
      constructor <;> omega
    have hln : (vs.map (rv G)).length = n := by simpa using hn _ _ _ _ e1
    rcases ml with ml | ⟨host, ml⟩
    · refine w_run (r := none) (va_runI (As := vs.map (rv G)) (rest := (Value.ref h.1 :: st).map (rv G)) (n := n) (Ts := TWL) ⟨S.1, S.2.1, S.2.2.1, S.2.2.2.1, hts⟩ hM (cwI n hts ?_ rfl rfl rfl (hts _ mi3) (hts _ ml) (hts _ mi1) mi0 mi5 hR) hp rfl hln hl.1 hstk hW hd hf) hr a2 hn0 hl kk
      intro w hw
      simp only [List.mem_cons, List.not_mem_nil, or_false] at hw
      subst hw
      exact gd1 mi4 rfl
    · refine w_run (r := none) (va_runIN (As := vs.map (rv G)) (rest := (Value.ref h.1 :: st).map (rv G)) (n := n) (Ts := TWL) ⟨S.1, S.2.1, S.2.2.1, S.2.2.2.1, hts⟩ hM ⟨va_cnB n hts ?_ rfl rfl rfl (va_Nw.of rfl (hts _ ml)) (hts _ mi3) mi5 hR, mi0, hts _ mi1⟩ hp rfl hln hl.1 hstk hW hd hf) hr a2 hn0 hl kk
      intro w hw
      simp only [List.mem_cons, List.not_mem_nil, or_false] at hw
      subst hw
      exact gd1 mi4 rfl
theorem nwA_inv {ci : Nat} {b : DI} {E : En} {h h' : Hp} {v : Nat} (e : nwA ci b E h = some (v, h')) : ∃ y hy, b E h = some (y, hy) ∧ hy.1 < 1000 ∧ (LY hy.1).1 = ci ∧ y.toInt = (LY hy.1).2 ∧ v = hy.1 ∧ h' = mkc hy := by
  obtain ⟨⟨y, hy⟩, e1, e⟩ := bind_some2 e
  split at e
  · rename_i hc
    cases e
    exact ⟨y, hy, e1, hc.1, hc.2.1, hc.2.2, rfl, rfl⟩
  · cases e
theorem LY_small (a : Nat) : (LY a).2 ≤ 10000 := by
  unfold LY
  by_cases hl : a < LYL.length
  · rw [List.getD_eq_getElem?_getD, List.getElem?_eq_getElem hl]
    have : ∀ q ∈ LYL, q.2 ≤ 10000 := by decide +kernel
    exact this _ (List.getElem_mem hl)
  · rw [List.getD_eq_getElem?_getD, List.getElem?_eq_none (by omega)]
    decide
/-- a row of numbers -/
theorem ev_nwA {ci : Nat} {atype : ArrayType} {ty : FieldType} {t0 : Nat} {b : DI} (hty : newarray.typeOf atype = ty) (hci : ¬ ci < 12 ∧ ci < 15) (hmem : ty ∈ [FieldType.byte, .int, .boolean]) (ht : ∀ G : GG, (atys G)[t0]? = some ((gD G).1 ci, ty)) (hdef : defaultValue ty = .int 0) (hra : ∀ (U : State) (cA : ClassId), va_RA U cA ty → U.vm.findClass ("[" ++ ty.toString) = some cA) (hbytes : componentBytes ty ≤ 8) (h1 : EV .int G own ini cc nL lvl d pc p1 b) (hd : decode cc p1 = .ok (.newarray atype, 2)) : EV .ref G own ini cc nL lvl d pc (p1 + 2) (nwA ci b) := by
  refine ⟨fun E h v h' ef => ?_, fun p e R s m args below meth c Q n0 nm S E st h v h' hst ef hnm kk => ?_⟩
  · obtain ⟨y, hy, e1, -, -, -, -, rfl⟩ := nwA_inv ef
    have := h1.1 _ _ _ _ e1
    show h.1 ≤ hy.1 + 1
    omega
  · obtain ⟨y, hy, e1, c1, c2, c3, rfl, rfl⟩ := nwA_inv ef
    have hnm : hy.1 + 1 ≤ nm := hnm
    have b1 := S.2.2.2.2.2.2.1
    have b2 := S.2.2.2.2.2.2.2.1
    refine h1.2 p e R s m args below meth c Q n0 nm S E st h y hy hst e1 (by omega) ?_
    intro ls H locs hl hr hn0
    have q1 := SZ_succ hy.1
    have q2 := SZ_mono hn0
    have q3 := SZ_mono hnm
    have q4 := LY_small hy.1
    have hneg : ¬ y < 0 := by rw [Int32.lt_iff_toInt_lt, Int32.toInt_zero]; omega
    have hN : y.toNatClampNeg = (LY hy.1).2 := by rw [← Int32.toNat_toInt]; omega
    have hb8 : (LY hy.1).2 * componentBytes ty ≤ 536870912 := Nat.le_trans (Nat.mul_le_mul q4 hbytes) (by decide)
    refine va_newaK S.1 S.2.1 (S.2.2.2.2.1.2.2.1.2.2.2.2 _ (by rw [hty]; exact hmem) args) rfl hd rfl hneg hN (by rw [hty]; exact hb8) (by omega) (by omega) rfl fun H1 cA e2 z1 o1 hAr hNm => ?_
    rw [hty] at e2 hNm
    have hcA : cA = (gD G).1 ci := Option.some.inj (hNm.symm.trans (hra s _ ((S.2.2.2.2.1.2.1.2 t0 _ (ht G)).2)))
    subst hcA
    have hadd : ad G hy.1 = H.size := by rw [ad_lt G c1, hr.2.2.1]
    have k1 := kk ls H1 locs hl (hr.push c1 (by
      rw [EE_num c2 hci.1 hci.2]
      show H1[ad G hy.1]? = some (vp_cell _ _)
      rw [hadd, e2, vp_cell_i, hdef]
      refine congrArg (fun f => some (arrV _ _ f)) (funext fun j => ?_)
      simp [mkc]) z1 o1) (by show n0 ≤ hy.1 + 1; omega)
    have z3 : hy.1 - n0 + 1 = (mkc hy).1 - n0 := by show _ = hy.1 + 1 - n0; omega
    have z4 : SZ hy.1 - SZ n0 + (LY hy.1).2 = SZ (mkc hy).1 - SZ n0 := by show _ = SZ (hy.1 + 1) - SZ n0; omega
    rw [z3, z4]
    have k2 : List.map (rv G) (Value.ref hy.1 :: st) = .ref H.size :: st.map (rv G) := by
      show Value.ref (ad G hy.1) :: _ = _
      rw [hadd]
    rw [k2] at k1
    exact k1
/-- a row of references -/
theorem ev_nwP {ci t0 index : Nat} {C : String} {b : DI} (hci : ¬ ci < 15) (hcl : Cond.classLink own index C ∈ TWL) (hao : ∀ s : State, KK G s → va_AO C s) (ht : ∀ G : GG, (atys G)[t0]? = some ((gD G).1 ci, .object C)) (h1 : EV .int G own ini cc nL lvl d pc p1 b) (hd : decode cc p1 = .ok (.anewarray index, 3)) : EV .ref G own ini cc nL lvl d pc (p1 + 3) (nwA ci b) := by
  refine ⟨fun E h v h' ef => ?_, fun p e R s m args below meth c Q n0 nm S E st h v h' hst ef hnm kk => ?_⟩
  · obtain ⟨y, hy, e1, -, -, -, -, rfl⟩ := nwA_inv ef
    have := h1.1 _ _ _ _ e1
    show h.1 ≤ hy.1 + 1
    omega
  · obtain ⟨y, hy, e1, c1, c2, c3, rfl, rfl⟩ := nwA_inv ef
    have hnm : hy.1 + 1 ≤ nm := hnm
    have b1 := S.2.2.2.2.2.2.1
    have b2 := S.2.2.2.2.2.2.2.1
    refine h1.2 p e R s m args below meth c Q n0 nm S E st h y hy hst e1 (by omega) ?_
    intro ls H locs hl hr hn0
    have q1 := SZ_succ hy.1
    have q2 := SZ_mono hn0
    have q3 := SZ_mono hnm
    have q4 := LY_small hy.1
    have hts := S.2.2.2.2.1.1.all args
    have hneg : ¬ y < 0 := by rw [Int32.lt_iff_toInt_lt, Int32.toInt_zero]; omega
    have hN : y.toNatClampNeg = (LY hy.1).2 := by rw [← Int32.toNat_toInt]; omega
    refine W.anew S.1 S.2.1 S.2.2.2.1 (hts _ hcl) (va_AO.use (hao s S.2.2.2.2.1)) rfl hd rfl hneg (by rw [hN]; omega) (by omega) (by rw [hN]; omega) fun cA kA comp f1 f2 f3 f4 => ?_
    obtain ⟨kA', comp', g1, g2, g3, g4⟩ := (S.2.2.2.2.1.2.1.2 t0 _ (ht G)).2
    have hcA : cA = (gD G).1 ci := Option.some.inj (f1.symm.trans g4)
    subst hcA
    have hadd : ad G hy.1 = H.size := by rw [ad_lt G c1, hr.2.2.1]
    have k1 := kk ls _ locs hl (hr.push (H1 := H.push { cls := (gD G).1 ci, slots := Array.replicate y.toNatClampNeg .null, vm := .none }) c1 (by
      rw [EE_ref c2 hci]
      show (H.push _)[ad G hy.1]? = some (vp_cell _ _)
      rw [hadd, vp_cell_q]
      simp only [Array.getElem?_push_size, Option.some.injEq]
      rw [hN]
      unfold arrV
      congr 1
      apply Array.ext
      · simp
      · intro i h1 h2
        simp [mkc, va_rf]) (by simp) (fun q hq => by simp [Array.getElem?_push, Nat.ne_of_lt hq])) (by show n0 ≤ hy.1 + 1; omega)
    have z3 : hy.1 - n0 + 1 = (mkc hy).1 - n0 := by show _ = hy.1 + 1 - n0; omega
    have z4 : SZ hy.1 - SZ n0 + y.toNatClampNeg = SZ (mkc hy).1 - SZ n0 := by rw [hN]; show _ = SZ (hy.1 + 1) - SZ n0; omega
    rw [z3, z4]
    have k2 : List.map (rv G) (Value.ref hy.1 :: st) = .ref H.size :: st.map (rv G) := by
      show Value.ref (ad G hy.1) :: _ = _
      rw [hadd]
    rw [k2] at k1
    exact k1
/-- the first statement of a constructor -/
theorem s_obj {k : Fin 4} {index : Nat} (hi : (k : Nat) = 0) (hd0 : decode cc pc = .ok (.aload_n k, 1)) (hl : Cond.methodLink own index Lib.objectInit ∈ TWL) (hlv : 0 < lvl) (hw : Cond.instanceMethod Lib.objectInit ∈ TWL ∧ Cond.code Lib.objectInit ⟨#[0xb1]⟩ 1 none ∈ TWL) (hd : decode cc (pc + 1) = .ok (.invokespecial index, 3)) : ST G own ini cc nL lvl pc (pc + 1 + 3) br co sO := by
  refine st_of (fun E h o v E' h' ef => ?_) (fun p e R s m args below meth c Q n0 nm S E h o v E' h' ef hnm kk => ?_)
  · obtain ⟨⟨x, hx⟩, e1, ef⟩ := bind_some2 ef
    cases ef
    exact ⟨by rw [(ldR_inv e1).2]; exact Nat.le_refl _, rfl⟩
  · obtain ⟨⟨x, hx⟩, e1, ef⟩ := bind_some2 ef
    cases ef
    obtain ⟨e2, rfl⟩ := ldR_inv e1
    intro ls H locs hl' hr hn0
    have hts := S.2.2.2.2.1.1.all args
    obtain ⟨a1, a2⟩ := S.2.2.2.2.2.1
    refine lv_aload_n S.1 S.2.1 hd0 hi (hl'.2.2 0 _ e2 rfl) ?_
    refine W.objInit S.1 S.2.1 S.2.2.2.1 (hts _ hl) (hts _ hw.1) (hts _ hw.2) rfl (by rw [S.2.2.1]; exact hl'.1) rfl hd (by omega) ?_ (kk ls H locs hl' hr hn0)
    show 2 * 0 + 0 + 12 ≤ _
    omega
end ALLOC
