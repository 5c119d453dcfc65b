section NODE
variable {G : GG} {own : String} {ini : Bool} {cc : ByteArray} {nL lvl d pc p1 p2 p3 nx br co : Nat}
theorem ln_n : ∀ E h v h', vn E h = some (v, h') → v.length = 0 := fun E h v h' ef => by cases ef; rfl
theorem ln_I {a : DA} {b : DI} {k : Nat} (hk : ∀ E h v h', a E h = some (v, h') → v.length = k) : ∀ E h v h', vI a b E h = some (v, h') → v.length = k + 1 := fun E h v h' ef => by
  obtain ⟨x, e1, ef⟩ := bind_some2 ef
  obtain ⟨y, e2, ef⟩ := bind_some2 ef
  cases ef
  rw [List.length_append, hk _ _ _ _ e1]
  rfl
theorem ln_R {a : DA} {b : DR} {k : Nat} (hk : ∀ E h v h', a E h = some (v, h') → v.length = k) : ∀ E h v h', vR a b E h = some (v, h') → v.length = k + 1 := fun E h v h' ef => by
  obtain ⟨x, e1, ef⟩ := bind_some2 ef
  obtain ⟨y, e2, ef⟩ := bind_some2 ef
  cases ef
  rw [List.length_append, hk _ _ _ _ e1]
  rfl
theorem ln_L {a : DA} {b : DL} {k : Nat} (hk : ∀ E h v h', a E h = some (v, h') → v.length = k) : ∀ E h v h', vL a b E h = some (v, h') → v.length = k + 1 := fun E h v h' ef => by
  obtain ⟨x, e1, ef⟩ := bind_some2 ef
  obtain ⟨y, e2, ef⟩ := bind_some2 ef
  cases ef
  rw [List.length_append, hk _ _ _ _ e1]
  rfl
theorem kI_inv {g : List Value → Hp → Bool} {F : FN} {a : DA} {E : En} {h h' : Hp} {v : Int32} (e : kI g F a E h = some (v, h')) : ∃ vs h1, a E h = some (vs, h1) ∧ g vs h1 = true ∧ F vs h1 = some (some (.int v), h') := by
  obtain ⟨⟨vs, h1⟩, e1, e⟩ := bind_some2 e
  split at e
  · rename_i hg
    split at e
    · rename_i hF
      cases e
      exact ⟨vs, h1, e1, hg, hF⟩
    · cases e
  · cases e
theorem kR_inv {g : List Value → Hp → Bool} {F : FN} {a : DA} {E : En} {h h' : Hp} {v : Nat} (e : kR g F a E h = some (v, h')) : ∃ vs h1, a E h = some (vs, h1) ∧ g vs h1 = true ∧ F vs h1 = some (some (.ref v), h') := by
  obtain ⟨⟨vs, h1⟩, e1, e⟩ := bind_some2 e
  split at e
  · rename_i hg
    split at e
    · rename_i hF
      cases e
      exact ⟨vs, h1, e1, hg, hF⟩
    · cases e
  · cases e
theorem kL_inv {g : List Value → Hp → Bool} {F : FN} {a : DA} {E : En} {h h' : Hp} {v : Int64} (e : kL g F a E h = some (v, h')) : ∃ vs h1, a E h = some (vs, h1) ∧ g vs h1 = true ∧ F vs h1 = some (some (.long v), h') := by
  obtain ⟨⟨vs, h1⟩, e1, e⟩ := bind_some2 e
  split at e
  · rename_i hg
    split at e
    · rename_i hF
      cases e
      exact ⟨vs, h1, e1, hg, hF⟩
    · cases e
  · cases e
theorem kV_inv {g : List Value → Hp → Bool} {F : FN} {a : DA} {E E' : En} {h h' : Hp} {o : Nat} {v : Value} (e : kV g F a E h = some (o, v, E', h')) : ∃ vs h1, a E h = some (vs, h1) ∧ g vs h1 = true ∧ F vs h1 = some (none, h') ∧ o = 0 ∧ E' = E := by
  obtain ⟨⟨vs, h1⟩, e1, e⟩ := bind_some2 e
  split at e
  · rename_i hg
    split at e
    · rename_i hF
      cases e
      exact ⟨vs, h1, e1, hg, hF, rfl, rfl⟩
    · cases e
  · cases e
/-- a call in an expression -/
theorem ev_call {α : Type} {inj : α → Value} {g : List Value → Hp → Bool} {F : FN} {a : DA} {f : En → Hp → Option (α × Hp)} (hinv : ∀ E h v h', f E h = some (v, h') → ∃ vs h1, a E h = some (vs, h1) ∧ g vs h1 = true ∧ F vs h1 = some (some (inj v), h')) (hm : ∀ vs h r h', F vs h = some (r, h') → h.1 ≤ h'.1) (h1 : EVs G own ini cc nL lvl d pc p1 a)
    (hc : ∀ (p : Program) (e : Env) (R : Room) (s : State) (m : MethodId) (args : Array Value) (below : List Frame) (meth : Method) (c : Code) (Q : State → Prop) (n0 nm : Nat), SU G own ini cc nL lvl p s m meth c R n0 nm → ∀ (E : En) (st : List Value) (E0 : En) (g0 h h' : Hp) (vs : List Value) (r : Option Value), ct st ≤ d → a E0 g0 = some (vs, h) → g vs h = true → F vs h = some (r, h') → h'.1 ≤ nm → AT G nL p e R s m args below meth c Q n0 (p1 + 3) E (r.toList ++ st) h' → AT G nL p e R s m args below meth c Q n0 p1 E (vs.reverse ++ st) h) : EV inj G own ini cc nL lvl d pc (p1 + 3) f := by
  refine ⟨fun E h v h' ef => ?_, fun p e R s m args below meth c Q n0 nm S E st h v h' hst ef hnm kk => ?_⟩
  · obtain ⟨vs, g1, e1, -, e2⟩ := hinv _ _ _ _ ef
    exact Nat.le_trans (h1.1 _ _ _ _ e1) (hm _ _ _ _ e2)
  · obtain ⟨vs, g1, e1, hg, e2⟩ := hinv _ _ _ _ ef
    refine h1.2 p e R s m args below meth c Q n0 nm S E st h vs g1 hst e1 (Nat.le_trans (hm _ _ _ _ e2) hnm) ?_
    exact hc p e R s m args below meth c Q n0 nm S E st E h g1 h' vs _ hst e1 hg e2 hnm kk
section NV
variable {y : MethodName} {cy : ByteArray} {ny lv n ci index : Nat} {ret : Option FieldType} {F : FN} {C : String} {T : u_T} {N : Nat} {ty : Nat → FieldType} {a : DA}
theorem ev_vI (hC : CT G y cy ny ret lv F) (hlv : lv < lvl) (mv : MVd y cy ny ret n) (ml : MLd own index y) (ck : CKd ci C T N ty) (hyC : y.cls = C) (h1 : EVs G own ini cc nL lvl d pc p1 a) (hn : ∀ E h v h', a E h = some (v, h') → v.length = n + 1) (h8 : d ≤ 8) (hd : decode cc p1 = .ok (.invokevirtual index, 3)) : EV .int G own ini cc nL lvl d pc (p1 + 3) (kI (rcv ci) F a) :=
  ev_call (fun _ _ _ _ e => kI_inv e) hC.1 h1 (fun p e R s m args below meth c Q n0 nm S E st E0 g0 h h' vs r hst e1 hg hF hnm kk => at_callV S hC hlv mv ml ck hyC hd (Nat.le_trans hst h8) hF hg (hn _ _ _ _ e1) hnm kk)
theorem ev_vR (hC : CT G y cy ny ret lv F) (hlv : lv < lvl) (mv : MVd y cy ny ret n) (ml : MLd own index y) (ck : CKd ci C T N ty) (hyC : y.cls = C) (h1 : EVs G own ini cc nL lvl d pc p1 a) (hn : ∀ E h v h', a E h = some (v, h') → v.length = n + 1) (h8 : d ≤ 8) (hd : decode cc p1 = .ok (.invokevirtual index, 3)) : EV .ref G own ini cc nL lvl d pc (p1 + 3) (kR (rcv ci) F a) :=
  ev_call (fun _ _ _ _ e => kR_inv e) hC.1 h1 (fun p e R s m args below meth c Q n0 nm S E st E0 g0 h h' vs r hst e1 hg hF hnm kk => at_callV S hC hlv mv ml ck hyC hd (Nat.le_trans hst h8) hF hg (hn _ _ _ _ e1) hnm kk)
theorem ev_vL (hC : CT G y cy ny ret lv F) (hlv : lv < lvl) (mv : MVd y cy ny ret n) (ml : MLd own index y) (ck : CKd ci C T N ty) (hyC : y.cls = C) (h1 : EVs G own ini cc nL lvl d pc p1 a) (hn : ∀ E h v h', a E h = some (v, h') → v.length = n + 1) (h8 : d ≤ 8) (hd : decode cc p1 = .ok (.invokevirtual index, 3)) : EV .long G own ini cc nL lvl d pc (p1 + 3) (kL (rcv ci) F a) :=
  ev_call (fun _ _ _ _ e => kL_inv e) hC.1 h1 (fun p e R s m args below meth c Q n0 nm S E st E0 g0 h h' vs r hst e1 hg hF hnm kk => at_callV S hC hlv mv ml ck hyC hd (Nat.le_trans hst h8) hF hg (hn _ _ _ _ e1) hnm kk)
theorem ev_sI (hC : CT G y cy ny ret lv F) (hlv : lv < lvl) (mv : MSd y cy ny ret n) (ml : MLd own index y) (h1 : EVs G own ini cc nL lvl d pc p1 a) (hn : ∀ E h v h', a E h = some (v, h') → v.length = n) (h8 : d ≤ 8) (hd : decode cc p1 = .ok (.invokestatic index, 3)) : EV .int G own ini cc nL lvl d pc (p1 + 3) (kI nog F a) :=
  ev_call (fun _ _ _ _ e => kI_inv e) hC.1 h1 (fun p e R s m args below meth c Q n0 nm S E st E0 g0 h h' vs r hst e1 hg hF hnm kk => at_callS S hC hlv mv ml hd (Nat.le_trans hst h8) hF (hn _ _ _ _ e1) hnm kk)
/-- a call that answers nothing -/
theorem s_vV (hC : CT G y cy ny ret lv F) (hlv : lv < lvl) (mv : MVd y cy ny ret n) (ml : MLd own index y) (ck : CKd ci C T N ty) (hyC : y.cls = C) (h1 : EVs G own ini cc nL lvl 0 pc p1 a) (hn : ∀ E h v h', a E h = some (v, h') → v.length = n + 1) (hd : decode cc p1 = .ok (.invokevirtual index, 3)) : ST G own ini cc nL lvl pc (p1 + 3) br co (kV (rcv ci) F a) := by
  refine st_of (fun E h o v E' h' ef => ?_) (fun p e R s m args below meth c Q n0 nm S E h o v E' h' ef hnm kk => ?_)
  · obtain ⟨vs, g1, e1, -, e2, rfl, -⟩ := kV_inv ef
    exact ⟨Nat.le_trans (h1.1 _ _ _ _ e1) (hC.1 _ _ _ _ e2), rfl⟩
  · obtain ⟨vs, g1, e1, hg, e2, rfl, rfl⟩ := kV_inv ef
    refine h1.2 p e R s m args below meth c Q n0 nm S _ [] h vs g1 (Nat.le_refl _) e1 (Nat.le_trans (hC.1 _ _ _ _ e2) hnm) ?_
    exact at_callV S hC hlv mv ml ck hyC hd (Nat.zero_le _) e2 hg (hn _ _ _ _ e1) hnm kk
theorem s_sV (hC : CT G y cy ny ret lv F) (hlv : lv < lvl) (mv : MSd y cy ny ret n) (ml : MLd own index y) (h1 : EVs G own ini cc nL lvl 0 pc p1 a) (hn : ∀ E h v h', a E h = some (v, h') → v.length = n) (hd : decode cc p1 = .ok (.invokestatic index, 3)) : ST G own ini cc nL lvl pc (p1 + 3) br co (kV nog F a) := by
  refine st_of (fun E h o v E' h' ef => ?_) (fun p e R s m args below meth c Q n0 nm S E h o v E' h' ef hnm kk => ?_)
  · obtain ⟨vs, g1, e1, -, e2, rfl, -⟩ := kV_inv ef
    exact ⟨Nat.le_trans (h1.1 _ _ _ _ e1) (hC.1 _ _ _ _ e2), rfl⟩
  · obtain ⟨vs, g1, e1, hg, e2, rfl, rfl⟩ := kV_inv ef
    refine h1.2 p e R s m args below meth c Q n0 nm S _ [] h vs g1 (Nat.le_refl _) e1 (Nat.le_trans (hC.1 _ _ _ _ e2) hnm) ?_
    exact at_callS S hC hlv mv ml hd (Nat.zero_le _) e2 (hn _ _ _ _ e1) hnm kk
end NV
/-- an answer that nobody takes -/
theorem s_dI {a : DI} (h1 : EV .int G own ini cc nL lvl 0 pc p1 a) (hd : decode cc p1 = .ok (.pop, 1)) : ST G own ini cc nL lvl pc (p1 + 1) br co (dI a) := by
  refine st_of (fun E h o v E' h' ef => ?_) (fun p e R s m args below meth c Q n0 nm S E h o v E' h' ef hnm kk => ?_)
  · obtain ⟨x, e1, ef⟩ := bind_some2 ef
    cases ef
    exact ⟨h1.1 _ _ _ _ e1, rfl⟩
  · obtain ⟨⟨x, hx⟩, e1, ef⟩ := bind_some2 ef
    cases ef
    refine h1.2 p e R s m args below meth c Q n0 nm S _ [] h x _ (Nat.le_refl _) e1 hnm ?_
    intro ls H locs hl hr hn
    exact lv_pop S.1 S.2.1 hd rfl (kk ls H locs hl hr hn)
end NODE
/-! a method: its arguments become its locals -/
def argE (vs : List Value) : En := vs.flatMap fun v => if v.category = 2 then [v, junk] else [v]
def envN (nL : Nat) (vs : List Value) : En := argE vs ++ List.replicate (nL - (argE vs).length) junk
def rok (ret : Option FieldType) (v : Value) : Bool := match ret, v with
  | some .int, .int _ => true
  | some .boolean, .int x => decide (x = 0) || decide (x = 1)
  | some .char, .int x => decide ((x.toUInt32 % 65536).toInt32 = x)
  | some .byte, .int x => decide (x.toInt8.toInt32 = x)
  | some .long, .long _ => true
  | some (.object _), .ref _ => true
  | some (.array _), .ref _ => true
  | _, _ => false
def mkF (nL : Nat) (ret : Option FieldType) (b : Sm) : FN := fun vs h => if (argE vs).length ≤ nL then match b (envN nL vs) h with
  | some (1, _, _, h') => if ret = none then some (none, h') else none
  | some (2, v, _, h') => if rok ret v = true then some (some v, h') else none
  | _ => none else none
theorem mkF_inv {nL : Nat} {ret : Option FieldType} {b : Sm} {vs : List Value} {h h' : Hp} {r : Option Value} (e : mkF nL ret b vs h = some (r, h')) : (argE vs).length ≤ nL ∧ ∃ o v E', b (envN nL vs) h = some (o, v, E', h') ∧ ((o = 1 ∧ r = none ∧ ret = none) ∨ (o = 2 ∧ r = some v ∧ rok ret v = true)) := by
  unfold mkF at e
  split at e
  · rename_i hl
    refine ⟨hl, ?_⟩
    split at e
    · rename_i hb
      split at e
      · rename_i hr
        cases e
        exact ⟨1, _, _, hb, Or.inl ⟨rfl, rfl, hr⟩⟩
      · cases e
    · rename_i hb
      split at e
      · rename_i hr
        cases e
        exact ⟨2, _, _, hb, Or.inr ⟨rfl, rfl, hr⟩⟩
      · cases e
    · cases e
  · cases e
theorem args_mem {G : GG} : ∀ (vs : List Value) (k j : Nat) (v : Value), (argE vs)[j]? = some v → okv v = true → (k + j, rv G v) ∈ lv_args k (vs.map (rv G)) := by
  intro vs
  induction vs with
  | nil => intro k j v e; simp [argE] at e
  | cons w vs ih =>
    intro k j v e hv
    have hsplit : argE (w :: vs) = (if w.category = 2 then [w, junk] else [w]) ++ argE vs := rfl
    rw [hsplit] at e
    show _ ∈ (k, rv G w) :: lv_args (if (rv G w).category = 2 then k + 2 else k + 1) (vs.map (rv G))
    rw [rv_cat]
    by_cases hc : w.category = 2
    · rw [if_pos hc] at e ⊢
      match j, e with
      | 0, e => cases e; exact List.mem_cons_self
      | 1, e => cases e; cases hv
      | j + 2, e =>
        have e' : (argE vs)[j]? = some v := e
        have := ih (k + 2) j v e' hv
        rw [show k + (j + 2) = k + 2 + j by omega]
        exact List.mem_cons_of_mem _ this
    · rw [if_neg hc] at e ⊢
      match j, e with
      | 0, e => cases e; exact List.mem_cons_self
      | j + 1, e =>
        have e' : (argE vs)[j]? = some v := e
        have := ih (k + 1) j v e' hv
        rw [show k + (j + 1) = k + 1 + j by omega]
        exact List.mem_cons_of_mem _ this
theorem LR_entry {G : GG} {nL : Nat} (vs : List Value) {ls : Array Slot} (h : lv_has ls nL (lv_args 0 (vs.map (rv G)))) : LR G nL (envN nL vs) ls := by
  refine ⟨h.1, h.2.1, fun i v e hv => ?_⟩
  unfold envN at e
  by_cases hi : i < (argE vs).length
  · rw [List.getElem?_append_left hi] at e
    have := args_mem (G := G) vs 0 i v e hv
    rw [Nat.zero_add] at this
    exact h.2.2 _ this
  · rw [List.getElem?_append_right (by omega)] at e
    have := List.mem_of_getElem? e
    have hj := List.eq_of_mem_replicate this
    rw [hj] at hv
    cases hv
theorem sl_len {G : GG} (vs : List Value) : (lg_sl (vs.map (rv G))).length = (argE vs).length := by
  induction vs with
  | nil => rfl
  | cons v vs ih =>
    cases v <;> simp [lg_sl, argE, rv, Value.category] at ih ⊢ <;> omega
theorem ct_of {G : GG} {own : String} {ini : Bool} {y : MethodName} {cc : ByteArray} {nL lvl nx br co : Nat} {ret : Option FieldType} {b : Sm} (hy : plainName y.cls = true) (ho : y.cls = own) (hini : ini = true → y.name = "<init>") (hb : ST G own ini cc nL lvl 0 nx br co b) : CT G y cc nL ret lvl (mkF nL ret b) := by
  refine ⟨fun vs h r h' e => ?_, fun vs h r h' e => ?_⟩
  · obtain ⟨-, o, v, E', e1, -⟩ := mkF_inv e
    exact hb.1 _ _ _ _ _ _ e1
  · obtain ⟨hl, o, v, E', e1, hor⟩ := mkF_inv e
    refine Met.ofW (cc := cc) (maxL := nL) (ret := ret) hy rfl ?_
    intro p en s m args below meth c s₁ B hml hv
    obtain ⟨rfl, hKK, hrel⟩ := hv
    subst ho
    have hown : s.vm.findClass y.cls = some m.cls := findClass_of_methodNamed B.named
    have hnm : meth.name = y.name := (name_of_methodNamed B.named B.method).1
    have S : SU G y.cls ini cc nL lvl p s m meth c (headSpec [Cond.code y cc nL ret] (rmd lvl (h'.1 - h.1) (SZ h'.1 - SZ h.1))).room h.1 h'.1 := ⟨B.exec, B.bytes, hml, hown, hKK, ⟨Nat.le_refl _, Nat.le_refl _⟩, Nat.le_refl _, Nat.le_refl _, fun z => by rw [hnm]; exact hini z⟩
    have hle := lv_entry (vs.map (rv G)) (n := nL) (by rw [sl_len]; exact hl)
    rw [lg_entry_eq]
    have hr := B.returns
    have hlk := B.notSynchronized
    have rt : ∀ r', r' = r → RT G cc p en (headSpec [Cond.code y cc nL ret] (rmd lvl (h'.1 - h.1) (SZ h'.1 - SZ h.1))).room s m (vs.map (rv G)).toArray below meth c (MQ below (QC G r h') (vs.map (rv G)).toArray s (h'.1 - h.1) (SZ h'.1 - SZ h.1) (gA G)) h.1 r' h' := by
      intro r' hr' pc ins ls H locs hd hins hR hn
      subst hr'
      rcases hor with ⟨-, rfl, rfl⟩ | ⟨-, rfl, hrok⟩
      · have hins : ins = .return_ := hins
        subst hins
        exact W.vret B.exec B.bytes hr (fun t ht _ => ⟨rfl, by rw [ht]; exact hR.less⟩) hR.2.1.2.2 hd
      · cases v with
        | int x =>
          have hins : ins = .ireturn := hins
          subst hins
          have hrk : ∃ ty, ret = some ty ∧ narrow ty (.int x) = .int x := by
            unfold rok at hrok
            split at hrok
            · exact ⟨_, rfl, rfl⟩
            · rename_i z hz
              cases hz
              simp only [Bool.or_eq_true, decide_eq_true_eq] at hrok
              rcases hrok with rfl | rfl <;> exact ⟨_, rfl, rfl⟩
            · rename_i z hz
              cases hz
              simp only [decide_eq_true_eq] at hrok
              exact ⟨_, rfl, by rw [← hrok]; exact pk_nc _⟩
            · rename_i z hz
              cases hz
              simp only [decide_eq_true_eq] at hrok
              exact ⟨_, rfl, by rw [← hrok]; exact pk_nb _⟩
            · rename_i z hz; cases hz
            · rename_i z hz; cases hz
            · rename_i z hz; cases hz
            · cases hrok
          obtain ⟨ty, rfl, hna⟩ := hrk
          exact W.zret B.exec B.bytes hr hna (fun t ht _ => ⟨rfl, by rw [ht]; exact hR.less⟩) hR.2.1.2.2 hd
        | long x =>
          have hins : ins = .lreturn := hins
          subst hins
          have hrk : ret = some .long := by
            unfold rok at hrok
            split at hrok <;> first | rfl | (rename_i z hz; cases hz) | cases hrok
          subst hrk
          exact W.lret B.exec B.bytes hr (fun t ht _ => ⟨rfl, by rw [ht]; exact hR.less⟩) hR.2.1.2.2 hd
        | ref x =>
          have hins : ins = .areturn := hins
          subst hins
          have hrk : ∃ ty, ret = some ty ∧ ((∃ n, ty = .object n) ∨ ∃ t, ty = .array t) := by
            unfold rok at hrok
            split at hrok
            · rename_i z hz; cases hz
            · rename_i z hz; cases hz
            · rename_i z hz; cases hz
            · rename_i z hz; cases hz
            · rename_i z hz; cases hz
            · exact ⟨_, rfl, Or.inl ⟨_, rfl⟩⟩
            · exact ⟨_, rfl, Or.inr ⟨_, rfl⟩⟩
            · cases hrok
          obtain ⟨ty, rfl, hty⟩ := hrk
          exact W.aret B.exec B.bytes hr hty (Or.inr ⟨_, rfl⟩) (fun t ht _ => ⟨rfl, by rw [ht]; exact hR.less⟩) hR.2.1.2.2 hd
        | _ => exact hins.elim
    have main := hb.2 p en (headSpec [Cond.code y cc nL ret] (rmd lvl (h'.1 - h.1) (SZ h'.1 - SZ h.1))).room s m (vs.map (rv G)).toArray below meth c (MQ below (QC G r h') (vs.map (rv G)).toArray s (h'.1 - h.1) (SZ h'.1 - SZ h.1) (gA G)) h.1 h'.1 S (envN nL vs) h o v E' h' e1 (Nat.le_refl _)
      (fun z => by omega) (fun z => by omega) (fun z => by omega) (fun z => rt none (by rcases hor with ⟨-, q, -⟩ | ⟨q, -, -⟩; exact q.symm; omega)) (fun z => rt (some v) (by rcases hor with ⟨q, -, -⟩ | ⟨-, q, -⟩; omega; exact q.symm)) (by omega)
    have := main _ s.heap [] (LR_entry vs hle) hrel (Nat.le_refl _)
    simpa using this
