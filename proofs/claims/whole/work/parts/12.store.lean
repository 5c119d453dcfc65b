/-! writing -/
def pI (c k : Nat) (a : DR) (b : DI) : Sm := fun E h => (a E h).bind fun x => (b E x.2).bind fun y => if x.1 < y.2.1 ∧ (LY x.1).1 = c then some (0, .null, E, wI y.2 x.1 k y.1) else none
def pZ (c k : Nat) (a : DR) (b : DI) : Sm := fun E h => (a E h).bind fun x => (b E x.2).bind fun y => if x.1 < y.2.1 ∧ (LY x.1).1 = c ∧ (y.1 = 0 ∨ y.1 = 1) then some (0, .null, E, wI y.2 x.1 k y.1) else none
def pR (c k : Nat) (a b : DR) : Sm := fun E h => (a E h).bind fun x => (b E x.2).bind fun y => if x.1 < y.2.1 ∧ (LY x.1).1 = c then some (0, .null, E, wR y.2 x.1 k (some y.1)) else none
/-- x.f op= b -/
def pU (c k : Nat) (op : Int32 → Int32 → Int32) (a : DR) (b : DI) : Sm := fun E h => (a E h).bind fun x => if x.1 < x.2.1 ∧ (LY x.1).1 = c then (b E x.2).bind fun y => some (0, .null, E, wI y.2 x.1 k (op (x.2.2.1 x.1 k) y.1)) else none
def qI (c : Nat) (a : DR) (i b : DI) : Sm := fun E h => (a E h).bind fun x => (i E x.2).bind fun j => (b E j.2).bind fun y => if x.1 < y.2.1 ∧ (LY x.1).1 = c ∧ inI j.1 (LY x.1).2 = true then some (0, .null, E, wI y.2 x.1 j.1.toNatClampNeg y.1) else none
def qB (c : Nat) (a : DR) (i b : DI) : Sm := fun E h => (a E h).bind fun x => (i E x.2).bind fun j => (b E j.2).bind fun y => if x.1 < y.2.1 ∧ (LY x.1).1 = c ∧ inI j.1 (LY x.1).2 = true then some (0, .null, E, wI y.2 x.1 j.1.toNatClampNeg y.1.toInt8.toInt32) else none
def qZ (c : Nat) (a : DR) (i b : DI) : Sm := fun E h => (a E h).bind fun x => (i E x.2).bind fun j => (b E j.2).bind fun y => if x.1 < y.2.1 ∧ (LY x.1).1 = c ∧ inI j.1 (LY x.1).2 = true ∧ (y.1 = 0 ∨ y.1 = 1) then some (0, .null, E, wI y.2 x.1 j.1.toNatClampNeg y.1) else none
/-- a[i] op= b -/
def qU (c : Nat) (op : Int32 → Int32 → Int32) (a : DR) (i b : DI) : Sm := fun E h => (a E h).bind fun x => (i E x.2).bind fun j => if x.1 < j.2.1 ∧ (LY x.1).1 = c ∧ inI j.1 (LY x.1).2 = true then (b E j.2).bind fun y => some (0, .null, E, wI y.2 x.1 j.1.toNatClampNeg (op (j.2.2.1 x.1 j.1.toNatClampNeg) y.1)) else none
def qR (c ce : Nat) (a : DR) (i : DI) (b : DR) : Sm := fun E h => (a E h).bind fun x => (i E x.2).bind fun j => (b E j.2).bind fun y => if x.1 < y.2.1 ∧ (LY x.1).1 = c ∧ inI j.1 (LY x.1).2 = true ∧ y.1 < y.2.1 ∧ (LY y.1).1 = ce then some (0, .null, E, wR y.2 x.1 j.1.toNatClampNeg (some y.1)) else none
theorem Rel.set {G : GG} {h h' : Hp} {H H1 : Heap} {locs : List Loc} {a j : Nat} (hr : Rel G h H locs) (ha : a < h.1) (e1 : va_at (gD G) vwCl (ad G a, EE G h' a) H1) (hz : H1.size = H.size) (oq : ∀ q : Nat, q ≠ ad G a → H1[q]? = H[q]?) (hn : h'.1 = h.1) (hb : ∀ b, b ≠ a → EE G h' b = EE G h b) : Rel G h' H1 (locs ++ [⟨ad G a, j⟩]) := by
  obtain ⟨h1, h2, h3, h4⟩ := hr
  refine ⟨fun k q hk => ?_, h2.put hz oq ?_, by rw [hz, h3, hn], by rw [hn]; exact h4⟩
  · obtain ⟨hl, rfl⟩ := WS_inv G h' hk
    by_cases hka : k = a
    · subst hka; exact e1
    · rw [hb k hka]
      refine (h1 k _ (WS_at G h (by omega))).kept (oq _ ?_)
      show ad G k ≠ ad G a
      rw [ad_lt G (by omega), ad_lt G (by omega)]
      omega
  · show (gH G).size ≤ ad G a
    rw [ad_lt G (by omega)]
    omega
theorem EE_wI {G : GG} {h : Hp} {a k b : Nat} {v : Int32} (hb : b ≠ a) : EE G (wI h a k v) b = EE G h b := by
  have h1 : (wI h a k v).2.1 b = h.2.1 b := funext fun j => by simp [wI, hb]
  have h2 : (wI h a k v).2.2 = h.2.2 := rfl
  have h3 : fE G (wI h a k v) (LY b).1 b = fE G h (LY b).1 b := funext fun j => by unfold fE; rw [h1, h2]
  unfold EE
  rw [h1, h2, h3]
theorem EE_wR {G : GG} {h : Hp} {a k b : Nat} {v : Option Nat} (hb : b ≠ a) : EE G (wR h a k v) b = EE G h b := by
  have h1 : (wR h a k v).2.2 b = h.2.2 b := funext fun j => by simp [wR, hb]
  have h2 : (wR h a k v).2.1 = h.2.1 := rfl
  have h3 : fE G (wR h a k v) (LY b).1 b = fE G h (LY b).1 b := funext fun j => by unfold fE; rw [h1, h2]
  unfold EE
  rw [h1, h2, h3]
theorem map_set {α : Type} (f g : Nat → α) (N k : Nat) (w : α) (hk : g k = w) (ho : ∀ j, j ≠ k → g j = f j) : ((List.range N).map f).set k w = (List.range N).map g := by
  apply List.ext_getElem?
  intro j
  by_cases hj : k = j
  · subst hj
    by_cases hl : k < N
    · rw [List.getElem?_set_self (by simpa using hl)]
      simp [hl, hk]
    · rw [List.getElem?_eq_none (by simp; omega), List.getElem?_eq_none (by simp; omega)]
  · rw [List.getElem?_set_ne hj]
    by_cases hl : j < N
    · simp [hl, ho j (Ne.symm hj)]
    · rw [List.getElem?_eq_none (by simp; omega), List.getElem?_eq_none (by simp; omega)]
section STORE
variable {G : GG} {own : String} {ini : Bool} {cc : ByteArray} {nL lvl d pc p1 p2 p3 p4 nx br co : Nat}
/-- may the field be written here: not final, or in its class's own constructor -/
def FNd (own : String) (ini : Bool) (index : Nat) (T : u_T) (k : Nat) : Prop := ((T k).2.2.2 = false ∧ LKd own index T k) ∨ ((T k).2.2.2 = true ∧ ini = true ∧ (T k).1 = own ∧ Cond.fieldLink own index (T k).1 (T k).2.1 (T k).2.2.1 ∈ TWL)
theorem w_put {p : Program} {e : Env} {R : Room} {s : State} {m : MethodId} {args : Array Value} {below : List Frame} {meth : Method} {c : Code} {H : Heap} {locs : List Loc} {cells slots : Nat} {Q : State → Prop} {ci k index a : Nat} {C : String} {T : u_T} {N : Nat} {ty : Nat → FieldType} {h h' : Hp} {ls : Array Slot} {rest : List Value} {w : Value}
    (hx : p.tables.exec = Jvm.exec) (hb : c.code = cc) (ho : s.vm.findClass own = some m.cls) (hin : ini = true → meth.name = "<init>") (hK : KK G s) (ck : CKd ci C T N ty) (hk : k < N) (hl : FNd own ini index T k) (hr : Rel G h H locs) (ha : a < h.1) (hc : (LY a).1 = ci) (hnw : narrow (ty k) w = w) (hfit : fits (ty k) w = true)
    (hE : EE G h' a = .inr (ci, ((List.range N).map (fE G h ci a)).set k w)) (hn : h'.1 = h.1) (hoth : ∀ b, b ≠ a → EE G h' b = EE G h b) (hd : decode cc pc = .ok (.putfield index, 3))
    (kk : ∀ (H1 : Heap) (locs1 : List Loc), Rel G h' H1 locs1 → W p G.1 e R s m args below meth c H1 locs1 cells slots Q (F0 m (pc + 3) ls rest)) : W p G.1 e R s m args below meth c H locs cells slots Q (F0 m pc ls (w :: .ref (ad G a) :: rest)) := by
  have he : (WS G h)[a]? = some (ad G a, .inr (ci, (List.range N).map (fE G h ci a))) := by rw [WS_at G h ha, EE_obj ck hc]
  have hts := hK.1.all args
  have hu := ck.2.2.2.2.1
  have hap := va_apart (own := own) hts hu ty ck.2.2.1 ck.2.2.2.1 hK.2.1 ck.2.1
  obtain ⟨r, h1, cell, q1, q2, q3, q4⟩ := hr.1 a _ he
  have hrr : r = (C, T, N) := Option.some.inj (h1.symm.trans ck.2.1)
  subst hrr
  obtain ⟨hS, hfc, kC, hkC, hkind⟩ := hK.2.1.1 ci _ ck.2.1
  obtain ⟨cf, kf, fi, f, hi, hsl⟩ := hS k hk
  have hlay := hts _ (hu _ (u_in_lay hk))
  unfold u_lay at hlay
  have hst := (u_facts hfc hkC (u_lays hts hu hk) hi).1
  have hlen : k < ((List.range N).map (fE G h ci a)).length := by simpa using hk
  have fin : ∀ (H' : Heap), H'[ad G a]? = some (cell.setSlot f.slot w) → H'.size = H.size → (∀ q, q ≠ ad G a → H'[q]? = H[q]?) → W p G.1 e R s m args below meth c H' (locs ++ [⟨ad G a, f.slot⟩]) cells slots Q (F0 m (pc + 3) ls rest) := by
    intro H' e1 e2 e3
    refine kk H' _ (hr.set ha ?_ e2 e3 hn hoth)
    rw [hE]
    rw [hsl] at e1
    exact ⟨_, ck.2.1, t_OB.to (V := updV (vp_V ((List.range N).map (fE G h ci a))) k w) ⟨_, e1, q2, q3, t_set q4 hap hk w⟩ (fun j _ => vp_updV_set hlen w j)⟩
  rcases hl with ⟨hf, hl⟩ | ⟨hf, hi1, hown, hl⟩
  · rw [if_neg (by rw [hf]; decide)] at hlay
    have h6 := u_store hfc hkC hkind hlay hi (ck.2.2.1 k hk) hnw hfit
    rcases hl with hl | ⟨host, hl⟩
    · exact W.putK hx hb (f := f) ⟨ho, hts _ hl, ⟨_, _, _, hi⟩, hst⟩ (by rw [q2]; exact h6) q1 q3 (by rw [hsl]; exact k2_hasslot (q4 k hk)) rfl rfl hd fin
    · exact va_WputK hx hb (f := f) ho (hts _ hl) hi hst (by rw [q2]; exact h6) q1 q3 (by rw [hsl]; exact k2_hasslot (q4 k hk)) rfl rfl hd fin
  · rw [if_pos hf] at hlay
    have hcf : m.cls = cf := by
      obtain ⟨_, _, c', _, _, _, -, -, hf', -, -, -, hown2, -⟩ := Cond.laysFinal_spec hlay
      have e1 : c' = cf := by have := hi.symm.trans hf'; simp at this; exact this.1.symm
      rw [hown] at hown2
      rw [← e1]; exact Option.some.inj (ho.symm.trans hown2)
    have h6 := u_fits hfc hkC hkind (Or.inr hlay) hi (ck.2.2.1 k hk) hnw hfit
    exact W.putFinK hx hb ho (hts _ hl) hi hst hcf (hin hi1) (by rw [q2]; exact h6) q1 q3 (by rw [hsl]; exact k2_hasslot (q4 k hk)) rfl rfl hd fin
theorem EE_pI {h : Hp} {ci k a : Nat} {C : String} {T : u_T} {N : Nat} {ty : Nat → FieldType} {v : Int32} (ck : CKd ci C T N ty) (hn : isNum (ty k) = true) (hc : (LY a).1 = ci) : EE G (wI h a k v) a = .inr (ci, ((List.range N).map (fE G h ci a)).set k (.int v)) := by
  rw [EE_obj ck hc, map_set (fE G h ci a) (fE G (wI h a k v) ci a) N k (.int v)]
  · unfold fE
    rw [ck.2.2.2.2.2.1, if_pos hn]
    simp [wI]
  · intro j hj
    unfold fE
    simp [wI, hj]
theorem EE_pR {h : Hp} {ci k a : Nat} {C : String} {T : u_T} {N : Nat} {ty : Nat → FieldType} {v : Nat} (ck : CKd ci C T N ty) (hn : isNum (ty k) = false) (hc : (LY a).1 = ci) : EE G (wR h a k (some v)) a = .inr (ci, ((List.range N).map (fE G h ci a)).set k (.ref (ad G v))) := by
  rw [EE_obj ck hc, map_set (fE G h ci a) (fE G (wR h a k (some v)) ci a) N k (.ref (ad G v))]
  · unfold fE
    rw [ck.2.2.2.2.2.1, if_neg (by rw [hn]; decide)]
    simp [wR, va_rf]
  · intro j hj
    unfold fE
    simp [wR, hj]
theorem s_pI {ci k index : Nat} {C : String} {T : u_T} {N : Nat} {ty : Nat → FieldType} {a : DR} {b : DI} (ck : CKd ci C T N ty) (hk : k < N) (hty : ty k = .int) (hl : FNd own ini index T k) (h1 : EV .ref G own ini cc nL lvl 0 pc p1 a) (h2 : EV .int G own ini cc nL lvl 1 p1 p2 b) (hd : decode cc p2 = .ok (.putfield index, 3)) : ST G own ini cc nL lvl pc (p2 + 3) br co (pI ci k a b) := by
  have key : ∀ {E h o v E' h'}, pI ci k a b E h = some (o, v, E', h') → ∃ x hx y hy, a E h = some (x, hx) ∧ b E hx = some (y, hy) ∧ x < hy.1 ∧ (LY x).1 = ci ∧ o = 0 ∧ E' = E ∧ h' = wI hy x k y := by
    intro E h o v E' h' ef
    obtain ⟨⟨x, hx⟩, e1, ef⟩ := bind_some2 ef
    obtain ⟨⟨y, hy⟩, e2, ef⟩ := bind_some2 ef
    split at ef
    · rename_i hc
      cases ef
      exact ⟨x, hx, y, hy, e1, e2, hc.1, hc.2, rfl, rfl, rfl⟩
    · cases ef
  refine st_of (fun E h o v E' h' ef => ?_) (fun p e R s m args below meth c Q n0 nm S E h o v E' h' ef hnm kk => ?_)
  · obtain ⟨x, hx, y, hy, e1, e2, -, -, rfl, -, rfl⟩ := key ef
    exact ⟨show h.1 ≤ hy.1 from Nat.le_trans (h1.1 _ _ _ _ e1) (h2.1 _ _ _ _ e2), rfl⟩
  · obtain ⟨x, hx, y, hy, e1, e2, c1, c2, rfl, rfl, rfl⟩ := key ef
    refine h1.2 p e R s m args below meth c Q n0 nm S _ [] h x hx (Nat.le_refl _) e1 (Nat.le_trans (h2.1 _ _ _ _ e2) hnm) ?_
    refine h2.2 p e R s m args below meth c Q n0 nm S _ [.ref x] hx y hy (Nat.le_refl _) e2 hnm ?_
    intro ls H locs hl' hr hn'
    refine w_put S.1 S.2.1 S.2.2.2.1 S.2.2.2.2.2.2.2.2 S.2.2.2.2.1 ck hk hl hr c1 c2 (by rw [hty]; rfl) (by rw [hty]; rfl) (EE_pI ck (by rw [hty]; rfl) c2) rfl (fun b hb => EE_wI hb) hd (fun H1 locs1 hr1 => kk ls H1 locs1 hl' hr1 hn')
theorem s_pZ {ci k index : Nat} {C : String} {T : u_T} {N : Nat} {ty : Nat → FieldType} {a : DR} {b : DI} (ck : CKd ci C T N ty) (hk : k < N) (hty : ty k = .boolean) (hl : FNd own ini index T k) (h1 : EV .ref G own ini cc nL lvl 0 pc p1 a) (h2 : EV .int G own ini cc nL lvl 1 p1 p2 b) (hd : decode cc p2 = .ok (.putfield index, 3)) : ST G own ini cc nL lvl pc (p2 + 3) br co (pZ ci k a b) := by
  have key : ∀ {E h o v E' h'}, pZ ci k a b E h = some (o, v, E', h') → ∃ x hx y hy, a E h = some (x, hx) ∧ b E hx = some (y, hy) ∧ x < hy.1 ∧ (LY x).1 = ci ∧ (y = 0 ∨ y = 1) ∧ o = 0 ∧ E' = E ∧ h' = wI hy x k y := by
    intro E h o v E' h' ef
    obtain ⟨⟨x, hx⟩, e1, ef⟩ := bind_some2 ef
    obtain ⟨⟨y, hy⟩, e2, ef⟩ := bind_some2 ef
    split at ef
    · rename_i hc
      cases ef
      exact ⟨x, hx, y, hy, e1, e2, hc.1, hc.2.1, hc.2.2, rfl, rfl, rfl⟩
    · cases ef
  refine st_of (fun E h o v E' h' ef => ?_) (fun p e R s m args below meth c Q n0 nm S E h o v E' h' ef hnm kk => ?_)
  · obtain ⟨x, hx, y, hy, e1, e2, -, -, -, rfl, -, rfl⟩ := key ef
    exact ⟨show h.1 ≤ hy.1 from Nat.le_trans (h1.1 _ _ _ _ e1) (h2.1 _ _ _ _ e2), rfl⟩
  · obtain ⟨x, hx, y, hy, e1, e2, c1, c2, c3, rfl, rfl, rfl⟩ := key ef
    refine h1.2 p e R s m args below meth c Q n0 nm S _ [] h x hx (Nat.le_refl _) e1 (Nat.le_trans (h2.1 _ _ _ _ e2) hnm) ?_
    refine h2.2 p e R s m args below meth c Q n0 nm S _ [.ref x] hx y hy (Nat.le_refl _) e2 hnm ?_
    intro ls H locs hl' hr hn'
    refine w_put S.1 S.2.1 S.2.2.2.1 S.2.2.2.2.2.2.2.2 S.2.2.2.2.1 ck hk hl hr c1 c2 (by rw [hty]; rcases c3 with rfl | rfl <;> rfl) (by rw [hty]; rcases c3 with rfl | rfl <;> rfl) (EE_pI ck (by rw [hty]; rfl) c2) rfl (fun b hb => EE_wI hb) hd (fun H1 locs1 hr1 => kk ls H1 locs1 hl' hr1 hn')
theorem s_pR {ci k index : Nat} {C : String} {T : u_T} {N : Nat} {ty : Nat → FieldType} {a b : DR} (ck : CKd ci C T N ty) (hk : k < N) (hty : (∃ q, ty k = .object q) ∨ ∃ q, ty k = .array q) (hl : FNd own ini index T k) (h1 : EV .ref G own ini cc nL lvl 0 pc p1 a) (h2 : EV .ref G own ini cc nL lvl 1 p1 p2 b) (hd : decode cc p2 = .ok (.putfield index, 3)) : ST G own ini cc nL lvl pc (p2 + 3) br co (pR ci k a b) := by
  have key : ∀ {E h o v E' h'}, pR ci k a b E h = some (o, v, E', h') → ∃ x hx y hy, a E h = some (x, hx) ∧ b E hx = some (y, hy) ∧ x < hy.1 ∧ (LY x).1 = ci ∧ o = 0 ∧ E' = E ∧ h' = wR hy x k (some y) := by
    intro E h o v E' h' ef
    obtain ⟨⟨x, hx⟩, e1, ef⟩ := bind_some2 ef
    obtain ⟨⟨y, hy⟩, e2, ef⟩ := bind_some2 ef
    split at ef
    · rename_i hc
      cases ef
      exact ⟨x, hx, y, hy, e1, e2, hc.1, hc.2, rfl, rfl, rfl⟩
    · cases ef
  refine st_of (fun E h o v E' h' ef => ?_) (fun p e R s m args below meth c Q n0 nm S E h o v E' h' ef hnm kk => ?_)
  · obtain ⟨x, hx, y, hy, e1, e2, -, -, rfl, -, rfl⟩ := key ef
    exact ⟨show h.1 ≤ hy.1 from Nat.le_trans (h1.1 _ _ _ _ e1) (h2.1 _ _ _ _ e2), rfl⟩
  · obtain ⟨x, hx, y, hy, e1, e2, c1, c2, rfl, rfl, rfl⟩ := key ef
    refine h1.2 p e R s m args below meth c Q n0 nm S _ [] h x hx (Nat.le_refl _) e1 (Nat.le_trans (h2.1 _ _ _ _ e2) hnm) ?_
    refine h2.2 p e R s m args below meth c Q n0 nm S _ [.ref x] hx y hy (Nat.le_refl _) e2 hnm ?_
    intro ls H locs hl' hr hn'
    refine w_put S.1 S.2.1 S.2.2.2.1 S.2.2.2.2.2.2.2.2 S.2.2.2.2.1 ck hk hl hr c1 c2 (by rcases hty with ⟨q, e⟩ | ⟨q, e⟩ <;> rw [e] <;> rfl) (by rcases hty with ⟨q, e⟩ | ⟨q, e⟩ <;> rw [e] <;> rfl) (EE_pR ck (by rcases hty with ⟨q, e⟩ | ⟨q, e⟩ <;> rw [e] <;> rfl) c2) rfl (fun b hb => EE_wR hb) hd (fun H1 locs1 hr1 => kk ls H1 locs1 hl' hr1 hn')
theorem s_pU {ci k index : Nat} {C : String} {T : u_T} {N : Nat} {ty : Nat → FieldType} {ins : Instr} {op : Int32 → Int32 → Int32} {a : DR} {b : DI} (ck : CKd ci C T N ty) (hk : k < N) (hty : ty k = .int) (hg : LKd own index T k) (hl : FNd own ini index T k) (hB : B2 .int .int .int ins op) (h1 : EV .ref G own ini cc nL lvl 0 pc p1 a) (hd1 : decode cc p1 = .ok (.dup, 1)) (hd2 : decode cc (p1 + 1) = .ok (.getfield index, 3)) (h2 : EV .int G own ini cc nL lvl 2 (p1 + 1 + 3) p2 b) (hd3 : decode cc p2 = .ok (ins, 1)) (hd : decode cc (p2 + 1) = .ok (.putfield index, 3)) : ST G own ini cc nL lvl pc (p2 + 1 + 3) br co (pU ci k op a b) := by
  have key : ∀ {E h o v E' h'}, pU ci k op a b E h = some (o, v, E', h') → ∃ x hx y hy, a E h = some (x, hx) ∧ b E hx = some (y, hy) ∧ x < hx.1 ∧ (LY x).1 = ci ∧ o = 0 ∧ E' = E ∧ h' = wI hy x k (op (hx.2.1 x k) y) := by
    intro E h o v E' h' ef
    obtain ⟨⟨x, hx⟩, e1, ef⟩ := bind_some2 ef
    split at ef
    · rename_i hc
      obtain ⟨⟨y, hy⟩, e2, ef⟩ := bind_some2 ef
      cases ef
      exact ⟨x, hx, y, hy, e1, e2, hc.1, hc.2, rfl, rfl, rfl⟩
    · cases ef
  refine st_of (fun E h o v E' h' ef => ?_) (fun p e R s m args below meth c Q n0 nm S E h o v E' h' ef hnm kk => ?_)
  · obtain ⟨x, hx, y, hy, e1, e2, -, -, rfl, -, rfl⟩ := key ef
    exact ⟨show h.1 ≤ hy.1 from Nat.le_trans (h1.1 _ _ _ _ e1) (h2.1 _ _ _ _ e2), rfl⟩
  · obtain ⟨x, hx, y, hy, e1, e2, c1, c2, rfl, rfl, rfl⟩ := key ef
    have m2 := h2.1 _ _ _ _ e2
    refine h1.2 p e R s m args below meth c Q n0 nm S _ [] h x hx (Nat.le_refl _) e1 (Nat.le_trans m2 hnm) ?_
    intro ls H locs hl' hr hn'
    refine lv_dup S.1 S.2.1 hd1 rfl ?_
    have hf : fE G hx ci x k = .int (hx.2.1 x k) := by unfold fE; rw [ck.2.2.2.2.2.1, hty]; rfl
    refine w_get S.1 S.2.1 S.2.2.2.1 S.2.2.2.2.1 ck hk hg hr c1 c2 hd2 ?_
    rw [hf]
    refine h2.2 p e R s m args below meth c Q n0 nm S _ [.int (hx.2.1 x k), .ref x] hx y hy (Nat.le_refl _) e2 hnm ?_ ls H locs hl' hr hn'
    intro ls H locs hl' hr hn'
    refine hB p _ e R s m args below meth c H locs _ _ Q cc p2 ls _ _ y S.1 S.2.1 hd3 ?_
    exact w_put S.1 S.2.1 S.2.2.2.1 S.2.2.2.2.2.2.2.2 S.2.2.2.2.1 ck hk hl hr (Nat.lt_of_lt_of_le c1 m2) c2 (by rw [hty]; rfl) (by rw [hty]; rfl) (EE_pI ck (by rw [hty]; rfl) c2) rfl (fun b hb => EE_wI hb) hd (fun H1 locs1 hr1 => kk ls H1 locs1 hl' hr1 hn')
end STORE
