section ROWS
variable {G : GG} {own : String} {ini : Bool} {cc : ByteArray} {nL lvl d pc p1 p2 p3 p4 nx br co : Nat}
theorem EE_qI {h : Hp} {ci k a : Nat} {v : Int32} (hc : (LY a).1 = ci) (h1 : ¬ ci < 12) (h2 : ci < 15) : EE G (wI h a k v) a = .inl ((gD G).1 ci, (LY a).2, .inl (fun j => if j = k then v else h.2.1 a j)) := by
  rw [EE_num hc h1 h2]
  have : (wI h a k v).2.1 a = fun j => if j = k then v else h.2.1 a j := funext fun j => by simp [wI]
  rw [this]
theorem EE_qR {h : Hp} {ci k a : Nat} {v : Nat} (hc : (LY a).1 = ci) (h1 : ¬ ci < 15) : EE G (wR h a k (some v)) a = .inl ((gD G).1 ci, (LY a).2, .inr (.inr (.inr (.inr (fun j => if j = k then some (ad G v) else (h.2.2 a j).map (ad G)))))) := by
  rw [EE_ref hc h1]
  have : (fun j => ((wR h a k (some v)).2.2 a j).map (ad G)) = fun j => if j = k then some (ad G v) else (h.2.2 a j).map (ad G) := funext fun j => by
    by_cases hj : j = k <;> simp [wR, hj]
  rw [this]
/-- a number is stored in a row -/
theorem w_ast {p : Program} {e : Env} {R : Room} {s : State} {m : MethodId} {args : Array Value} {below : List Frame} {meth : Method} {c : Code} {H : Heap} {locs : List Loc} {cells slots : Nat} {Q : State → Prop} {ci a : Nat} {h : Hp} {ls : Array Slot} {rest : List Value} {j x y : Int32} {ins : Instr}
    (hx : p.tables.exec = Jvm.exec) (hb : c.code = cc) (hK : KK G s) (hi : (ci = 13 ∧ ins = .iastore ∧ y = x) ∨ (ci = 12 ∧ ins = .bastore ∧ y = x.toInt8.toInt32) ∨ (ci = 14 ∧ ins = .bastore ∧ y = x ∧ (x = 0 ∨ x = 1))) (hr : Rel G h H locs) (ha : a < h.1) (hc : (LY a).1 = ci) (hin : inI j (LY a).2 = true) (hd : decode cc pc = .ok (ins, 1))
    (kk : ∀ (H1 : Heap) (locs1 : List Loc), Rel G (wI h a j.toNatClampNeg y) H1 locs1 → W p G.1 e R s m args below meth c H1 locs1 cells slots Q (F0 m (pc + 1) ls rest)) : W p G.1 e R s m args below meth c H locs cells slots Q (F0 m pc ls (.int x :: .int j :: .ref (ad G a) :: rest)) := by
  have hin' := inI_vp hin
  have hat := hr.1 a _ (WS_at G h ha)
  rw [EE_num hc (by omega) (by omega)] at hat
  have fin : ∀ (H' : Heap), H'[ad G a]? = some ((vp_cell ((gD G).1 ci) ((LY a).2, .inl (h.2.1 a))).setSlot j.toNatClampNeg (.int y)) → H'.size = H.size → (∀ q, q ≠ ad G a → H'[q]? = H[q]?) → W p G.1 e R s m args below meth c H' (locs ++ [⟨ad G a, j.toNatClampNeg⟩]) cells slots Q (F0 m (pc + 1) ls rest) := by
    intro H' e1 e2 e3
    refine kk H' _ (hr.set ha ?_ e2 e3 rfl (fun b hb => EE_wI hb))
    rw [EE_qI hc (by omega) (by omega)]
    show H'[ad G a]? = some (vp_cell _ _)
    rw [e1, vp_cell_i, vp_cell_i, arrV_store]
    refine congrArg (fun f => some (arrV _ _ f)) (funext fun i => ?_)
    by_cases hij : i = j.toNatClampNeg <;> simp [updV, hij]
  have hsz : ¬ (j < 0 ∨ (vp_cell ((gD G).1 ci) ((LY a).2, .inl (h.2.1 a))).slots.size ≤ j.toNatClampNeg) := by
    show ¬ (j < 0 ∨ (arrV _ _ _).slots.size ≤ _)
    rw [arrV_size]
    exact hin'
  rcases hi with ⟨rfl, rfl, rfl⟩ | ⟨rfl, rfl, rfl⟩ | ⟨rfl, rfl, rfl, h01⟩
  · exact W.iast hx hb hat ((hK.2.1.2 1 _ rfl).1 _ (fun j => .int (h.2.1 a j))) (fun q => by cases q) hsz rfl rfl hd fin
  · exact W.bast hx hb hat ((hK.2.1.2 0 _ rfl).1 _ (fun j => .int (h.2.1 a j))) (fun q => by cases q) hsz rfl rfl hd fin
  · refine W.zast hx hb hat ((hK.2.1.2 2 _ rfl).1 _ (fun j => .int (h.2.1 a j))) (fun q => by cases q) hsz rfl rfl hd (fun H' e1 => fin H' ?_)
    rw [e1]
    rcases h01 with rfl | rfl <;> rfl
theorem row3 {a : DR} {i b : DI} {E : En} {h : Hp} {P : Nat → Int32 → Hp → Int32 → Hp → Prop} [∀ x j hj y hy, Decidable (P x j hj y hy)] {g : Nat → Int32 → Hp → Int32 → Hp → Rs} {r : Rs} (ef : ((a E h).bind fun x => (i E x.2).bind fun j => (b E j.2).bind fun y => if P x.1 j.1 j.2 y.1 y.2 then some (g x.1 j.1 j.2 y.1 y.2) else none) = some r) :
    ∃ x hx j hj y hy, a E h = some (x, hx) ∧ i E hx = some (j, hj) ∧ b E hj = some (y, hy) ∧ P x j hj y hy ∧ r = g x j hj y hy := by
  obtain ⟨⟨x, hx⟩, e1, ef⟩ := bind_some2 ef
  obtain ⟨⟨j, hj⟩, e2, ef⟩ := bind_some2 ef
  obtain ⟨⟨y, hy⟩, e3, ef⟩ := bind_some2 ef
  split at ef
  · rename_i hc
    cases ef
    exact ⟨x, hx, j, hj, y, hy, e1, e2, e3, hc, rfl⟩
  · cases ef
theorem s_qI {a : DR} {i b : DI} (h1 : EV .ref G own ini cc nL lvl 0 pc p1 a) (h2 : EV .int G own ini cc nL lvl 1 p1 p2 i) (h3 : EV .int G own ini cc nL lvl 2 p2 p3 b) (hd : decode cc p3 = .ok (.iastore, 1)) : ST G own ini cc nL lvl pc (p3 + 1) br co (qI 13 a i b) := by
  refine st_of (fun E h o v E' h' ef => ?_) (fun p e R s m args below meth c Q n0 nm S E h o v E' h' ef hnm kk => ?_)
  · obtain ⟨x, hx, j, hj, y, hy, e1, e2, e3, -, er⟩ := row3 (P := fun x j _ _ hy => x < hy.1 ∧ (LY x).1 = 13 ∧ inI j (LY x).2 = true) (g := fun x j _ y hy => (0, .null, E, wI hy x j.toNatClampNeg y)) ef
    cases er
    exact ⟨show h.1 ≤ hy.1 from Nat.le_trans (h1.1 _ _ _ _ e1) (Nat.le_trans (h2.1 _ _ _ _ e2) (h3.1 _ _ _ _ e3)), rfl⟩
  · obtain ⟨x, hx, j, hj, y, hy, e1, e2, e3, hc, er⟩ := row3 (P := fun x j _ _ hy => x < hy.1 ∧ (LY x).1 = 13 ∧ inI j (LY x).2 = true) (g := fun x j _ y hy => (0, .null, E, wI hy x j.toNatClampNeg y)) ef
    cases er
    refine h1.2 p e R s m args below meth c Q n0 nm S _ [] h x hx (Nat.le_refl _) e1 (Nat.le_trans (h2.1 _ _ _ _ e2) (Nat.le_trans (h3.1 _ _ _ _ e3) hnm)) ?_
    refine h2.2 p e R s m args below meth c Q n0 nm S _ [.ref x] hx j hj (Nat.le_refl _) e2 (Nat.le_trans (h3.1 _ _ _ _ e3) hnm) ?_
    refine h3.2 p e R s m args below meth c Q n0 nm S _ [.int j, .ref x] hj y hy (Nat.le_refl _) e3 hnm ?_
    intro ls H locs hl' hr hn'
    exact w_ast S.1 S.2.1 S.2.2.2.2.1 (Or.inl ⟨rfl, rfl, rfl⟩) hr hc.1 hc.2.1 hc.2.2 hd (fun H1 locs1 hr1 => kk ls H1 locs1 hl' hr1 hn')
theorem s_qB {a : DR} {i b : DI} (h1 : EV .ref G own ini cc nL lvl 0 pc p1 a) (h2 : EV .int G own ini cc nL lvl 1 p1 p2 i) (h3 : EV .int G own ini cc nL lvl 2 p2 p3 b) (hd : decode cc p3 = .ok (.bastore, 1)) : ST G own ini cc nL lvl pc (p3 + 1) br co (qB 12 a i b) := by
  refine st_of (fun E h o v E' h' ef => ?_) (fun p e R s m args below meth c Q n0 nm S E h o v E' h' ef hnm kk => ?_)
  · obtain ⟨x, hx, j, hj, y, hy, e1, e2, e3, -, er⟩ := row3 (P := fun x j _ _ hy => x < hy.1 ∧ (LY x).1 = 12 ∧ inI j (LY x).2 = true) (g := fun x j _ y hy => (0, .null, E, wI hy x j.toNatClampNeg y.toInt8.toInt32)) ef
    cases er
    exact ⟨show h.1 ≤ hy.1 from Nat.le_trans (h1.1 _ _ _ _ e1) (Nat.le_trans (h2.1 _ _ _ _ e2) (h3.1 _ _ _ _ e3)), rfl⟩
  · obtain ⟨x, hx, j, hj, y, hy, e1, e2, e3, hc, er⟩ := row3 (P := fun x j _ _ hy => x < hy.1 ∧ (LY x).1 = 12 ∧ inI j (LY x).2 = true) (g := fun x j _ y hy => (0, .null, E, wI hy x j.toNatClampNeg y.toInt8.toInt32)) ef
    cases er
    refine h1.2 p e R s m args below meth c Q n0 nm S _ [] h x hx (Nat.le_refl _) e1 (Nat.le_trans (h2.1 _ _ _ _ e2) (Nat.le_trans (h3.1 _ _ _ _ e3) hnm)) ?_
    refine h2.2 p e R s m args below meth c Q n0 nm S _ [.ref x] hx j hj (Nat.le_refl _) e2 (Nat.le_trans (h3.1 _ _ _ _ e3) hnm) ?_
    refine h3.2 p e R s m args below meth c Q n0 nm S _ [.int j, .ref x] hj y hy (Nat.le_refl _) e3 hnm ?_
    intro ls H locs hl' hr hn'
    exact w_ast S.1 S.2.1 S.2.2.2.2.1 (Or.inr (Or.inl ⟨rfl, rfl, rfl⟩)) hr hc.1 hc.2.1 hc.2.2 hd (fun H1 locs1 hr1 => kk ls H1 locs1 hl' hr1 hn')
theorem s_qZ {a : DR} {i b : DI} (h1 : EV .ref G own ini cc nL lvl 0 pc p1 a) (h2 : EV .int G own ini cc nL lvl 1 p1 p2 i) (h3 : EV .int G own ini cc nL lvl 2 p2 p3 b) (hd : decode cc p3 = .ok (.bastore, 1)) : ST G own ini cc nL lvl pc (p3 + 1) br co (qZ 14 a i b) := by
  refine st_of (fun E h o v E' h' ef => ?_) (fun p e R s m args below meth c Q n0 nm S E h o v E' h' ef hnm kk => ?_)
  · obtain ⟨x, hx, j, hj, y, hy, e1, e2, e3, -, er⟩ := row3 (P := fun x j _ y hy => x < hy.1 ∧ (LY x).1 = 14 ∧ inI j (LY x).2 = true ∧ (y = 0 ∨ y = 1)) (g := fun x j _ y hy => (0, .null, E, wI hy x j.toNatClampNeg y)) ef
    cases er
    exact ⟨show h.1 ≤ hy.1 from Nat.le_trans (h1.1 _ _ _ _ e1) (Nat.le_trans (h2.1 _ _ _ _ e2) (h3.1 _ _ _ _ e3)), rfl⟩
  · obtain ⟨x, hx, j, hj, y, hy, e1, e2, e3, hc, er⟩ := row3 (P := fun x j _ y hy => x < hy.1 ∧ (LY x).1 = 14 ∧ inI j (LY x).2 = true ∧ (y = 0 ∨ y = 1)) (g := fun x j _ y hy => (0, .null, E, wI hy x j.toNatClampNeg y)) ef
    cases er
    refine h1.2 p e R s m args below meth c Q n0 nm S _ [] h x hx (Nat.le_refl _) e1 (Nat.le_trans (h2.1 _ _ _ _ e2) (Nat.le_trans (h3.1 _ _ _ _ e3) hnm)) ?_
    refine h2.2 p e R s m args below meth c Q n0 nm S _ [.ref x] hx j hj (Nat.le_refl _) e2 (Nat.le_trans (h3.1 _ _ _ _ e3) hnm) ?_
    refine h3.2 p e R s m args below meth c Q n0 nm S _ [.int j, .ref x] hj y hy (Nat.le_refl _) e3 hnm ?_
    intro ls H locs hl' hr hn'
    exact w_ast S.1 S.2.1 S.2.2.2.2.1 (Or.inr (Or.inr ⟨rfl, rfl, rfl, hc.2.2.2⟩)) hr hc.1 hc.2.1 hc.2.2.1 hd (fun H1 locs1 hr1 => kk ls H1 locs1 hl' hr1 hn')
theorem s_qU {ins : Instr} {op : Int32 → Int32 → Int32} {a : DR} {i b : DI} (hB : B2 .int .int .int ins op) (h1 : EV .ref G own ini cc nL lvl 0 pc p1 a) (h2 : EV .int G own ini cc nL lvl 1 p1 p2 i) (hd1 : decode cc p2 = .ok (.dup2, 1)) (hd2 : decode cc (p2 + 1) = .ok (.iaload, 1)) (h3 : EV .int G own ini cc nL lvl 3 (p2 + 1 + 1) p3 b) (hd3 : decode cc p3 = .ok (ins, 1)) (hd : decode cc (p3 + 1) = .ok (.iastore, 1)) : ST G own ini cc nL lvl pc (p3 + 1 + 1) br co (qU 13 op a i b) := by
  have key : ∀ {E h o v E' h'}, qU 13 op a i b E h = some (o, v, E', h') → ∃ x hx j hj y hy, a E h = some (x, hx) ∧ i E hx = some (j, hj) ∧ b E hj = some (y, hy) ∧ x < hj.1 ∧ (LY x).1 = 13 ∧ inI j (LY x).2 = true ∧ o = 0 ∧ E' = E ∧ h' = wI hy x j.toNatClampNeg (op (hj.2.1 x j.toNatClampNeg) y) := by
    intro E h o v E' h' ef
    obtain ⟨⟨x, hx⟩, e1, ef⟩ := bind_some2 ef
    obtain ⟨⟨j, hj⟩, e2, ef⟩ := bind_some2 ef
    split at ef
    · rename_i hc
      obtain ⟨⟨y, hy⟩, e3, ef⟩ := bind_some2 ef
      cases ef
      exact ⟨x, hx, j, hj, y, hy, e1, e2, e3, hc.1, hc.2.1, hc.2.2, rfl, rfl, rfl⟩
    · cases ef
  refine st_of (fun E h o v E' h' ef => ?_) (fun p e R s m args below meth c Q n0 nm S E h o v E' h' ef hnm kk => ?_)
  · obtain ⟨x, hx, j, hj, y, hy, e1, e2, e3, -, -, -, rfl, -, rfl⟩ := key ef
    exact ⟨show h.1 ≤ hy.1 from Nat.le_trans (h1.1 _ _ _ _ e1) (Nat.le_trans (h2.1 _ _ _ _ e2) (h3.1 _ _ _ _ e3)), rfl⟩
  · obtain ⟨x, hx, j, hj, y, hy, e1, e2, e3, c1, c2, c3, rfl, rfl, rfl⟩ := key ef
    have m3 := h3.1 _ _ _ _ e3
    refine h1.2 p e R s m args below meth c Q n0 nm S _ [] h x hx (Nat.le_refl _) e1 (Nat.le_trans (h2.1 _ _ _ _ e2) (Nat.le_trans m3 hnm)) ?_
    refine h2.2 p e R s m args below meth c Q n0 nm S _ [.ref x] hx j hj (Nat.le_refl _) e2 (Nat.le_trans m3 hnm) ?_
    intro ls H locs hl' hr hn'
    refine lv_dup2_11 S.1 S.2.1 hd1 rfl rfl ?_
    refine va_iald S.1 S.2.1 S.2.2.2.2.1.2.1 hr.1 x 1 (by rw [WS_at G hj c1, EE_num c2 (by decide) (by decide)]) rfl (inI_vp c3) hd2 ?_
    refine h3.2 p e R s m args below meth c Q n0 nm S _ [.int (hj.2.1 x j.toNatClampNeg), .int j, .ref x] hj y hy (Nat.le_refl _) e3 hnm ?_ ls H locs hl' hr hn'
    intro ls H locs hl' hr hn'
    refine hB p _ e R s m args below meth c H locs _ _ Q cc p3 ls _ _ y S.1 S.2.1 hd3 ?_
    exact w_ast S.1 S.2.1 S.2.2.2.2.1 (Or.inl ⟨rfl, rfl, rfl⟩) hr (Nat.lt_of_lt_of_le c1 m3) c2 c3 hd (fun H1 locs1 hr1 => kk ls H1 locs1 hl' hr1 hn')
/-- a reference is stored in a row of references -/
theorem s_qR {ci ce t0 : Nat} {C : String} {T : u_T} {N : Nat} {ty : Nat → FieldType} {a b : DR} {i : DI} (hci : ¬ ci < 15) (ck : CKd ce C T N ty) (ht : ∀ G : GG, (atys G)[t0]? = some ((gD G).1 ci, .object C)) (h1 : EV .ref G own ini cc nL lvl 0 pc p1 a) (h2 : EV .int G own ini cc nL lvl 1 p1 p2 i) (h3 : EV .ref G own ini cc nL lvl 2 p2 p3 b) (hd : decode cc p3 = .ok (.aastore, 1)) : ST G own ini cc nL lvl pc (p3 + 1) br co (qR ci ce a i b) := by
  have key : ∀ {E h o v E' h'}, qR ci ce a i b E h = some (o, v, E', h') → ∃ x hx j hj y hy, a E h = some (x, hx) ∧ i E hx = some (j, hj) ∧ b E hj = some (y, hy) ∧ (x < hy.1 ∧ (LY x).1 = ci ∧ inI j (LY x).2 = true ∧ y < hy.1 ∧ (LY y).1 = ce) ∧ o = 0 ∧ E' = E ∧ h' = wR hy x j.toNatClampNeg (some y) := by
    intro E h o v E' h' ef
    obtain ⟨⟨x, hx⟩, e1, ef⟩ := bind_some2 ef
    obtain ⟨⟨j, hj⟩, e2, ef⟩ := bind_some2 ef
    obtain ⟨⟨y, hy⟩, e3, ef⟩ := bind_some2 ef
    split at ef
    · rename_i hc
      cases ef
      exact ⟨x, hx, j, hj, y, hy, e1, e2, e3, hc, rfl, rfl, rfl⟩
    · cases ef
  refine st_of (fun E h o v E' h' ef => ?_) (fun p e R s m args below meth c Q n0 nm S E h o v E' h' ef hnm kk => ?_)
  · obtain ⟨x, hx, j, hj, y, hy, e1, e2, e3, -, rfl, -, rfl⟩ := key ef
    exact ⟨show h.1 ≤ hy.1 from Nat.le_trans (h1.1 _ _ _ _ e1) (Nat.le_trans (h2.1 _ _ _ _ e2) (h3.1 _ _ _ _ e3)), rfl⟩
  · obtain ⟨x, hx, j, hj, y, hy, e1, e2, e3, ⟨c1, c2, c3, c4, c5⟩, rfl, rfl, rfl⟩ := key ef
    have m3 := h3.1 _ _ _ _ e3
    refine h1.2 p e R s m args below meth c Q n0 nm S _ [] h x hx (Nat.le_refl _) e1 (Nat.le_trans (h2.1 _ _ _ _ e2) (Nat.le_trans m3 hnm)) ?_
    refine h2.2 p e R s m args below meth c Q n0 nm S _ [.ref x] hx j hj (Nat.le_refl _) e2 (Nat.le_trans m3 hnm) ?_
    refine h3.2 p e R s m args below meth c Q n0 nm S _ [.int j, .ref x] hj y hy (Nat.le_refl _) e3 hnm ?_
    intro ls H locs hl' hr hn'
    have hin' := inI_vp c3
    have hat := hr.1 x _ (WS_at G hy c1)
    rw [EE_ref c2 hci] at hat
    have hK := S.2.2.2.2.1
    have hlt : j.toNatClampNeg < (LY x).2 := Nat.not_le.mp fun q => hin' (Or.inr q)
    have h0 : ¬ j < 0 := fun q => hin' (Or.inl q)
    have hv := hr.1 y _ (WS_at G hy c4)
    rw [EE_obj ck c5] at hv
    obtain ⟨r', hr', cellV, g1, g2, g3, -⟩ := hv
    have hcls := (hK.2.1.1 ce _ ck.2.1).2
    obtain ⟨kA, comp, k1, k2, k3, -⟩ := (hK.2.1.2 t0 _ (ht G)).2
    have hcomp : comp = (gD G).1 ce := Option.some.inj (k3.symm.trans hcls.1)
    subst hcomp
    obtain ⟨kC, hkC, -⟩ := hcls.2
    refine W.aast S.1 S.2.1 hat (fun q h => by cases h) (fun h => by cases h) k1 k2 rfl hkC ⟨h0, by show _ < (arrV _ _ _).slots.size; rw [arrV_size]; exact hlt⟩ g1 (fun q h => by rw [g3] at h; cases h) (by rw [g2]; exact hkC) (by rw [g2]; exact va_assign hcls) rfl rfl hd fun H1 e z oq => ?_
    refine kk ls H1 _ hl' (hr.set c1 ?_ z oq rfl (fun b hb => EE_wR hb)) hn'
    rw [EE_qR c2 hci]
    show H1[ad G x]? = some (vp_cell _ _)
    rw [e]
    dsimp only
    rw [vp_cell_q, vp_cell_q, arrV_store]
    refine congrArg (fun f => some (arrV _ _ f)) (funext fun i => ?_)
    by_cases hij : i = j.toNatClampNeg <;> simp [updV, hij, va_rf]
end ROWS
