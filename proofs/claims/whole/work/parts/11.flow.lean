section FLOW
variable {G : GG} {own : String} {ini : Bool} {cc : ByteArray} {nL lvl pc p1 p2 p3 pt pf nx br co : Nat}
/-- a statement of one expression that always goes on -/
theorem st_of {f : Sm} (hm : ∀ E h o v E' h', f E h = some (o, v, E', h') → h.1 ≤ h'.1 ∧ o = 0)
    (hw : ∀ (p : Program) (e : Env) (R : Room) (s : State) (m : MethodId) (args : Array Value) (below : List Frame) (meth : Method) (c : Code) (Q : State → Prop) (n0 nm : Nat), SU G own ini cc nL lvl p s m meth c R n0 nm → ∀ (E : En) (h : Hp) (o : Nat) (v : Value) (E' : En) (h' : Hp), f E h = some (o, v, E', h') → h'.1 ≤ nm → AT G nL p e R s m args below meth c Q n0 nx E' [] h' → AT G nL p e R s m args below meth c Q n0 pc E [] h) : ST G own ini cc nL lvl pc nx br co f :=
  ⟨fun E h o v E' h' e => (hm E h o v E' h' e).1, fun p e R s m args below meth c Q n0 nm S E h o v E' h' ef hnm k0 _ _ _ _ _ => hw p e R s m args below meth c Q n0 nm S E h o v E' h' ef hnm (k0 (hm E h o v E' h' ef).2)⟩
theorem s_istore_n {k : Fin 4} {i : Nat} {a : DI} (h1 : EV .int G own ini cc nL lvl 0 pc p1 a) (hd : decode cc p1 = .ok (.istore_n k, 1)) (hi : (k : Nat) = i) (hn : i < nL) : ST G own ini cc nL lvl pc (p1 + 1) br co (sI i a) := by
  refine st_of (fun E h o v E' h' ef => ?_) (fun p e R s m args below meth c Q n0 nm S E h o v E' h' ef hnm kk => ?_)
  · obtain ⟨x, e1, ef⟩ := bind_some2 ef
    cases ef
    exact ⟨h1.1 _ _ _ _ e1, rfl⟩
  · obtain ⟨⟨x, hx⟩, e1, ef⟩ := bind_some2 ef
    cases ef
    refine h1.2 p e R s m args below meth c Q n0 nm S E [] h x hx (Nat.le_refl _) e1 hnm ?_
    intro ls H locs hl hr hn0
    exact lv_istore_n S.1 S.2.1 hd hi hl.has hn rfl (fun ls' hl' => kk ls' H locs (hl.put1 rfl hl') hr hn0)
theorem s_istore {i : Nat} {a : DI} (h1 : EV .int G own ini cc nL lvl 0 pc p1 a) (hd : decode cc p1 = .ok (.istore i, 2)) (hn : i < nL) : ST G own ini cc nL lvl pc (p1 + 2) br co (sI i a) := by
  refine st_of (fun E h o v E' h' ef => ?_) (fun p e R s m args below meth c Q n0 nm S E h o v E' h' ef hnm kk => ?_)
  · obtain ⟨x, e1, ef⟩ := bind_some2 ef
    cases ef
    exact ⟨h1.1 _ _ _ _ e1, rfl⟩
  · obtain ⟨⟨x, hx⟩, e1, ef⟩ := bind_some2 ef
    cases ef
    refine h1.2 p e R s m args below meth c Q n0 nm S E [] h x hx (Nat.le_refl _) e1 hnm ?_
    intro ls H locs hl hr hn0
    exact lv_istore S.1 S.2.1 hd hl.has hn rfl (fun ls' hl' => kk ls' H locs (hl.put1 rfl hl') hr hn0)
theorem s_astore_n {k : Fin 4} {i : Nat} {a : DR} (h1 : EV .ref G own ini cc nL lvl 0 pc p1 a) (hd : decode cc p1 = .ok (.astore_n k, 1)) (hi : (k : Nat) = i) (hn : i < nL) : ST G own ini cc nL lvl pc (p1 + 1) br co (sR i a) := by
  refine st_of (fun E h o v E' h' ef => ?_) (fun p e R s m args below meth c Q n0 nm S E h o v E' h' ef hnm kk => ?_)
  · obtain ⟨x, e1, ef⟩ := bind_some2 ef
    cases ef
    exact ⟨h1.1 _ _ _ _ e1, rfl⟩
  · obtain ⟨⟨x, hx⟩, e1, ef⟩ := bind_some2 ef
    cases ef
    refine h1.2 p e R s m args below meth c Q n0 nm S E [] h x hx (Nat.le_refl _) e1 hnm ?_
    intro ls H locs hl hr hn0
    exact lv_astore_n S.1 S.2.1 hd hi hl.has hn rfl (fun ls' hl' => kk ls' H locs (hl.put1 rfl hl') hr hn0)
theorem s_astore {i : Nat} {a : DR} (h1 : EV .ref G own ini cc nL lvl 0 pc p1 a) (hd : decode cc p1 = .ok (.astore i, 2)) (hn : i < nL) : ST G own ini cc nL lvl pc (p1 + 2) br co (sR i a) := by
  refine st_of (fun E h o v E' h' ef => ?_) (fun p e R s m args below meth c Q n0 nm S E h o v E' h' ef hnm kk => ?_)
  · obtain ⟨x, e1, ef⟩ := bind_some2 ef
    cases ef
    exact ⟨h1.1 _ _ _ _ e1, rfl⟩
  · obtain ⟨⟨x, hx⟩, e1, ef⟩ := bind_some2 ef
    cases ef
    refine h1.2 p e R s m args below meth c Q n0 nm S E [] h x hx (Nat.le_refl _) e1 hnm ?_
    intro ls H locs hl hr hn0
    exact lv_astore S.1 S.2.1 hd hl.has hn rfl (fun ls' hl' => kk ls' H locs (hl.put1 rfl hl') hr hn0)
theorem s_lstore_n {k : Fin 4} {i : Nat} {a : DL} (h1 : EV .long G own ini cc nL lvl 0 pc p1 a) (hd : decode cc p1 = .ok (.lstore_n k, 1)) (hi : (k : Nat) = i) (hn : i + 1 < nL) : ST G own ini cc nL lvl pc (p1 + 1) br co (sL i a) := by
  refine st_of (fun E h o v E' h' ef => ?_) (fun p e R s m args below meth c Q n0 nm S E h o v E' h' ef hnm kk => ?_)
  · obtain ⟨x, e1, ef⟩ := bind_some2 ef
    cases ef
    exact ⟨h1.1 _ _ _ _ e1, rfl⟩
  · obtain ⟨⟨x, hx⟩, e1, ef⟩ := bind_some2 ef
    cases ef
    refine h1.2 p e R s m args below meth c Q n0 nm S E [] h x hx (Nat.le_refl _) e1 hnm ?_
    intro ls H locs hl hr hn0
    exact lv_lstore_n S.1 S.2.1 hd hi hl.has hn rfl (fun ls' hl' => kk ls' H locs (hl.put2 rfl hl') hr hn0)
theorem s_lstore {i : Nat} {a : DL} (h1 : EV .long G own ini cc nL lvl 0 pc p1 a) (hd : decode cc p1 = .ok (.lstore i, 2)) (hn : i + 1 < nL) : ST G own ini cc nL lvl pc (p1 + 2) br co (sL i a) := by
  refine st_of (fun E h o v E' h' ef => ?_) (fun p e R s m args below meth c Q n0 nm S E h o v E' h' ef hnm kk => ?_)
  · obtain ⟨x, e1, ef⟩ := bind_some2 ef
    cases ef
    exact ⟨h1.1 _ _ _ _ e1, rfl⟩
  · obtain ⟨⟨x, hx⟩, e1, ef⟩ := bind_some2 ef
    cases ef
    refine h1.2 p e R s m args below meth c Q n0 nm S E [] h x hx (Nat.le_refl _) e1 hnm ?_
    intro ls H locs hl hr hn0
    exact lv_lstore S.1 S.2.1 hd hl.has hn rfl (fun ls' hl' => kk ls' H locs (hl.put2 rfl hl') hr hn0)
theorem s_iinc {i : Nat} {n : Int} {k : Int32} (hd : decode cc pc = .ok (.iinc i n, 3)) (hk : Int32.ofInt n = k) (hn : i < nL) : ST G own ini cc nL lvl pc (pc + 3) br co (sC i k) := by
  refine st_of (fun E h o v E' h' ef => ?_) (fun p e R s m args below meth c Q n0 nm S E h o v E' h' ef hnm kk => ?_)
  · obtain ⟨⟨x, hx⟩, e1, ef⟩ := bind_some2 ef
    cases ef
    exact ⟨by rw [(ldI_inv e1).2]; exact Nat.le_refl _, rfl⟩
  · obtain ⟨⟨x, hx⟩, e1, ef⟩ := bind_some2 ef
    cases ef
    obtain ⟨e2, rfl⟩ := ldI_inv e1
    intro ls H locs hl hr hn0
    obtain ⟨q, hq⟩ := List.getElem?_of_mem ((lE_mem (G := G) (q := (i, .int x))).mpr ⟨.int x, e2, rfl, rfl⟩)
    exact lv_iinc (k := q) S.1 S.2.1 hd hl.has hq (by rw [hk]) hn rfl (fun ls' hl' => kk ls' H locs (hl.put1 rfl hl') hr hn0)
theorem s_skip : ST G own ini cc nL lvl pc pc br co sk :=
  st_of (fun E h o v E' h' ef => by cases ef; exact ⟨Nat.le_refl _, rfl⟩) (fun p e R s m args below meth c Q n0 nm S E h o v E' h' ef hnm kk => by cases ef; exact kk)
theorem s_br : ST G own ini cc nL lvl br nx br co sbr :=
  ⟨fun E h o v E' h' ef => by cases ef; exact Nat.le_refl _, fun p e R s m args below meth c Q n0 nm S E h o v E' h' ef hnm k0 k3 k4 k1 k2 ho => by cases ef; exact k3 rfl⟩
theorem s_co : ST G own ini cc nL lvl co nx br co sco :=
  ⟨fun E h o v E' h' ef => by cases ef; exact Nat.le_refl _, fun p e R s m args below meth c Q n0 nm S E h o v E' h' ef hnm k0 k3 k4 k1 k2 ho => by cases ef; exact k4 rfl⟩
/-- a goto in front -/
theorem s_gob {f : Sm} {off : Int} (hd : decode cc pc = .ok (.goto off, 3)) (ht : (pc : Int) + off = (p1 : Int)) (h1 : ST G own ini cc nL lvl p1 nx br co f) : ST G own ini cc nL lvl pc nx br co f :=
  ⟨h1.1, fun p e R s m args below meth c Q n0 nm S E h o v E' h' ef hnm k0 k3 k4 k1 k2 ho => at_goto S hd ht (h1.2 p e R s m args below meth c Q n0 nm S E h o v E' h' ef hnm k0 k3 k4 k1 k2 ho)⟩
/-- a goto behind -/
theorem s_goto {f : Sm} {off : Int} (h1 : ST G own ini cc nL lvl pc p1 br co f) (hd : decode cc p1 = .ok (.goto off, 3)) (ht : (p1 : Int) + off = (nx : Int)) : ST G own ini cc nL lvl pc nx br co f :=
  ⟨h1.1, fun p e R s m args below meth c Q n0 nm S E h o v E' h' ef hnm k0 k3 k4 k1 k2 ho => h1.2 p e R s m args below meth c Q n0 nm S E h o v E' h' ef hnm (fun z => at_goto S hd ht (k0 z)) k3 k4 k1 k2 ho⟩
/-- every statement here ends in one of five ways -/
def five (f : Sm) : Prop := ∀ E h o v E' h', f E h = some (o, v, E', h') → o = 0 ∨ o = 1 ∨ o = 2 ∨ o = 3 ∨ o = 4
theorem s_sq {a b : Sm} (h1 : ST G own ini cc nL lvl pc p1 br co a) (h2 : ST G own ini cc nL lvl p1 nx br co b) : ST G own ini cc nL lvl pc nx br co (sq a b) := by
  refine ⟨fun E h o v E' h' ef => ?_, fun p e R s m args below meth c Q n0 nm S E h o v E' h' ef hnm k0 k3 k4 k1 k2 ho => ?_⟩
  · obtain ⟨⟨o1, v1, E1, g1⟩, e1, ef⟩ := bind_some2 ef
    split at ef
    · exact Nat.le_trans (h1.1 _ _ _ _ _ _ e1) (h2.1 _ _ _ _ _ _ ef)
    · cases ef
      exact h1.1 _ _ _ _ _ _ e1
  · obtain ⟨⟨o1, v1, E1, g1⟩, e1, ef⟩ := bind_some2 ef
    split at ef
    · rename_i hz
      have hz : o1 = 0 := hz
      subst hz
      refine h1.2 p e R s m args below meth c Q n0 nm S E h 0 v1 E1 g1 e1 (Nat.le_trans (h2.1 _ _ _ _ _ _ ef) hnm) (fun _ => ?_) (fun z => by omega) (fun z => by omega) (fun z => by omega) (fun z => by omega) (Or.inl rfl)
      exact h2.2 p e R s m args below meth c Q n0 nm S E1 g1 o v E' h' ef hnm k0 k3 k4 k1 k2 ho
    · rename_i hz
      cases ef
      exact h1.2 p e R s m args below meth c Q n0 nm S E h _ _ _ _ e1 hnm (fun z => absurd z hz) k3 k4 k1 k2 ho
theorem s_if {c : DC} {a b : Sm} (h0 : CJ G own ini cc nL lvl 0 pc pt pf c) (h1 : ST G own ini cc nL lvl pt nx br co a) (h2 : ST G own ini cc nL lvl pf nx br co b) : ST G own ini cc nL lvl pc nx br co (si c a b) := by
  refine ⟨fun E h o v E' h' ef => ?_, fun p e R s m args below meth cd Q n0 nm S E h o v E' h' ef hnm k0 k3 k4 k1 k2 ho => ?_⟩
  · obtain ⟨⟨t, g⟩, e1, ef⟩ := bind_some2 ef
    split at ef
    · exact Nat.le_trans (h0.1 _ _ _ _ e1) (h1.1 _ _ _ _ _ _ ef)
    · exact Nat.le_trans (h0.1 _ _ _ _ e1) (h2.1 _ _ _ _ _ _ ef)
  · obtain ⟨⟨t, g⟩, e1, ef⟩ := bind_some2 ef
    split at ef
    · rename_i hz
      refine h0.2 p e R s m args below meth cd Q n0 nm S E [] h t g (Nat.le_refl _) e1 (Nat.le_trans (h1.1 _ _ _ _ _ _ ef) hnm) ?_
      rw [if_pos hz]
      exact h1.2 p e R s m args below meth cd Q n0 nm S E g o v E' h' ef hnm k0 k3 k4 k1 k2 ho
    · rename_i hz
      refine h0.2 p e R s m args below meth cd Q n0 nm S E [] h t g (Nat.le_refl _) e1 (Nat.le_trans (h2.1 _ _ _ _ _ _ ef) hnm) ?_
      rw [if_neg hz]
      exact h2.2 p e R s m args below meth cd Q n0 nm S E g o v E' h' ef hnm k0 k3 k4 k1 k2 ho
/-- a loop: its head at pc, its body at pt, its step at p1 that comes back to the head, its end at pf -/
theorem s_lp {c : DC} {b t : Sm} (h0 : CJ G own ini cc nL lvl 0 pc pt pf c) (h1 : ST G own ini cc nL lvl pt p1 pf p1 b) (h2 : ST G own ini cc nL lvl p1 pc pf p1 t) : ST G own ini cc nL lvl pc pf br co (lp c b t) := by
  have mono : ∀ (n : Nat) E h o v E' h', lpN c b t n E h = some (o, v, E', h') → h.1 ≤ h'.1 := by
    intro n
    induction n with
    | zero => intro E h o v E' h' ef; cases ef
    | succ n ih =>
      intro E h o v E' h' ef
      unfold lpN at ef
      obtain ⟨⟨t, g⟩, e1, ef⟩ := bind_some2 ef
      have m1 := h0.1 _ _ _ _ e1
      split at ef
      · obtain ⟨⟨o1, v1, E1, g1⟩, e2, ef⟩ := bind_some2 ef
        have m2 := h1.1 _ _ _ _ _ _ e2
        split at ef
        · obtain ⟨⟨o2, v2, E2, g2⟩, e3, ef⟩ := bind_some2 ef
          have m3 := h2.1 _ _ _ _ _ _ e3
          split at ef
          · exact Nat.le_trans m1 (Nat.le_trans m2 (Nat.le_trans m3 (ih _ _ _ _ _ _ ef)))
          · cases ef
        · split at ef
          · cases ef; exact Nat.le_trans m1 m2
          · cases ef; exact Nat.le_trans m1 m2
      · cases ef; exact m1
  refine ⟨fun E h o v E' h' ef => ?_, fun p e R s m args below meth cd Q n0 nm S E h o v E' h' ef hnm k0 k3 k4 k1 k2 ho => ?_⟩
  · obtain ⟨n, ef⟩ := lp_to ef
    exact mono n _ _ _ _ _ _ ef
  · obtain ⟨n, ef⟩ := lp_to ef
    have main : ∀ (n : Nat) (E : En) (h : Hp), lpN c b t n E h = some (o, v, E', h') → AT G nL p e R s m args below meth cd Q n0 pc E [] h := by
      intro n
      induction n with
      | zero => intro E h ef; cases ef
      | succ n ih =>
        intro E h ef
        unfold lpN at ef
        obtain ⟨⟨x, g⟩, e1, ef⟩ := bind_some2 ef
        split at ef
        · rename_i hz
          obtain ⟨⟨o1, v1, E1, g1⟩, e2, ef⟩ := bind_some2 ef
          have m2 := h1.1 _ _ _ _ _ _ e2
          split at ef
          · rename_i hy
            obtain ⟨⟨o2, v2, E2, g2⟩, e3, ef⟩ := bind_some2 ef
            have m3 := h2.1 _ _ _ _ _ _ e3
            split at ef
            · rename_i hq
              have hq : o2 = 0 := hq
              have m4 := mono _ _ _ _ _ _ _ ef
              have b1 : g1.1 ≤ nm := Nat.le_trans m3 (Nat.le_trans m4 hnm)
              have step : AT G nL p e R s m args below meth cd Q n0 p1 E1 [] g1 := by
                refine h2.2 p e R s m args below meth cd Q n0 nm S E1 g1 o2 v2 E2 g2 e3 (Nat.le_trans m4 hnm) (fun _ => ih _ _ ef) (fun z => by omega) (fun z => by omega) (fun z => by omega) (fun z => by omega) (Or.inl hq)
              refine h0.2 p e R s m args below meth cd Q n0 nm S E [] h x g (Nat.le_refl _) e1 (Nat.le_trans m2 b1) ?_
              rw [if_pos hz]
              have hy : o1 = 0 ∨ o1 = 4 := hy
              exact h1.2 p e R s m args below meth cd Q n0 nm S E g o1 v1 E1 g1 e2 b1 (fun _ => step) (fun z => by omega) (fun _ => step) (fun z => by omega) (fun z => by omega) (by omega)
            · cases ef
          · rename_i hy
            have hy : ¬ (o1 = 0 ∨ o1 = 4) := hy
            split at ef
            · rename_i h3
              have h3 : o1 = 3 := h3
              cases ef
              refine h0.2 p e R s m args below meth cd Q n0 nm S E [] h x g (Nat.le_refl _) e1 (Nat.le_trans m2 hnm) ?_
              rw [if_pos hz]
              exact h1.2 p e R s m args below meth cd Q n0 nm S E g o1 v1 _ _ e2 hnm (fun z => by omega) (fun _ => k0 rfl) (fun z => by omega) (fun z => by omega) (fun z => by omega) (by omega)
            · rename_i h3
              have h3 : ¬ o1 = 3 := h3
              cases ef
              refine h0.2 p e R s m args below meth cd Q n0 nm S E [] h x g (Nat.le_refl _) e1 (Nat.le_trans m2 hnm) ?_
              rw [if_pos hz]
              exact h1.2 p e R s m args below meth cd Q n0 nm S E g _ _ _ _ e2 hnm (fun z => absurd (Or.inl z) hy) (fun z => absurd z h3) (fun z => absurd (Or.inr z) hy) k1 k2 ho
        · rename_i hz
          cases ef
          refine h0.2 p e R s m args below meth cd Q n0 nm S _ [] _ x _ (Nat.le_refl _) e1 hnm ?_
          rw [if_neg hz]
          exact k0 rfl
    exact main n E h ef
theorem s_rV (hd : decode cc pc = .ok (.return_, 1)) : ST G own ini cc nL lvl pc nx br co rV :=
  ⟨fun E h o v E' h' ef => by cases ef; exact Nat.le_refl _, fun p e R s m args below meth c Q n0 nm S E h o v E' h' ef hnm k0 k3 k4 k1 k2 ho => by
    cases ef
    intro ls H locs hl hr hn
    exact k1 rfl pc _ ls H locs hd rfl hr hn⟩
theorem s_rI {a : DI} (h1 : EV .int G own ini cc nL lvl 0 pc p1 a) (hd : decode cc p1 = .ok (.ireturn, 1)) : ST G own ini cc nL lvl pc nx br co (rI a) := by
  refine ⟨fun E h o v E' h' ef => ?_, fun p e R s m args below meth c Q n0 nm S E h o v E' h' ef hnm k0 k3 k4 k1 k2 ho => ?_⟩
  · obtain ⟨x, e1, ef⟩ := bind_some2 ef
    cases ef
    exact h1.1 _ _ _ _ e1
  · obtain ⟨⟨x, hx⟩, e1, ef⟩ := bind_some2 ef
    cases ef
    refine h1.2 p e R s m args below meth c Q n0 nm S E [] h x _ (Nat.le_refl _) e1 hnm ?_
    intro ls H locs hl hr hn
    exact k2 rfl p1 _ ls H locs hd rfl hr hn
theorem s_rR {a : DR} (h1 : EV .ref G own ini cc nL lvl 0 pc p1 a) (hd : decode cc p1 = .ok (.areturn, 1)) : ST G own ini cc nL lvl pc nx br co (rR a) := by
  refine ⟨fun E h o v E' h' ef => ?_, fun p e R s m args below meth c Q n0 nm S E h o v E' h' ef hnm k0 k3 k4 k1 k2 ho => ?_⟩
  · obtain ⟨x, e1, ef⟩ := bind_some2 ef
    cases ef
    exact h1.1 _ _ _ _ e1
  · obtain ⟨⟨x, hx⟩, e1, ef⟩ := bind_some2 ef
    cases ef
    refine h1.2 p e R s m args below meth c Q n0 nm S E [] h x _ (Nat.le_refl _) e1 hnm ?_
    intro ls H locs hl hr hn
    exact k2 rfl p1 _ ls H locs hd rfl hr hn
theorem s_rL {a : DL} (h1 : EV .long G own ini cc nL lvl 0 pc p1 a) (hd : decode cc p1 = .ok (.lreturn, 1)) : ST G own ini cc nL lvl pc nx br co (rL a) := by
  refine ⟨fun E h o v E' h' ef => ?_, fun p e R s m args below meth c Q n0 nm S E h o v E' h' ef hnm k0 k3 k4 k1 k2 ho => ?_⟩
  · obtain ⟨x, e1, ef⟩ := bind_some2 ef
    cases ef
    exact h1.1 _ _ _ _ e1
  · obtain ⟨⟨x, hx⟩, e1, ef⟩ := bind_some2 ef
    cases ef
    refine h1.2 p e R s m args below meth c Q n0 nm S E [] h x _ (Nat.le_refl _) e1 hnm ?_
    intro ls H locs hl hr hn
    exact k2 rfl p1 _ ls H locs hd rfl hr hn
end FLOW
