def TWL : List Cond := lw_tbl.filter warmable
theorem TW.all {s : State} (h : TW s) (A : Array Value) : ∀ w ∈ TWL, w.before A s = true := fun w hw => by
  obtain ⟨h1, h2⟩ := List.mem_filter.mp hw
  exact h.use h1 h2 A
theorem tb {w : Cond} (i : Nat) (h : tables_1[i]? = some w) (hw : warmable w = true) : w ∈ TWL := List.mem_filter.mpr ⟨List.mem_append_right _ (List.mem_of_getElem? h), hw⟩
theorem tbs {ws : List Cond} (ps : List Nat) (h : ws.map some = ps.map (fun i => tables_1[i]?)) (hw : ws.all warmable = true) : ∀ w ∈ ws, w ∈ TWL := by
  intro w hm
  have h1 : some w ∈ ws.map some := List.mem_map.mpr ⟨w, hm, rfl⟩
  rw [h] at h1
  obtain ⟨i, -, hi⟩ := List.mem_map.mp h1
  exact tb i hi (List.all_eq_true.mp hw w hm)
theorem tbp {y : MethodName} (i : Nat) (h : (lw_privs[i]?).map (fun q => q.1) = some y) : Cond.selects y.cls y y ∈ lw_tbl := by
  refine List.mem_append_left _ (List.mem_map.mpr ?_)
  cases hq : lw_privs[i]? with
  | none => rw [hq] at h; cases h
  | some q =>
    rw [hq] at h
    cases h
    exact ⟨q, List.mem_of_getElem? hq, rfl⟩
/-- what is known of a class: its fields, their types, its words among the tables' -/
def CKd (c : Nat) (C : String) (T : u_T) (N : Nat) (ty : Nat → FieldType) : Prop :=
  c < 12 ∧ vwCl[c]? = some (C, T, N) ∧ (∀ k, k < N → parseFieldDescriptor (T k).2.2.1 = some (ty k)) ∧ (∀ a, a < N → ∀ b, b < N → a ≠ b → (T a).2.1 ≠ (T b).2.1) ∧ (∀ w ∈ u_ws C T N, w ∈ TWL) ∧ tyK c = ty ∧ (∀ q ∈ LYL, q.1 = c → q.2 = N) ∧ (∀ k, k < N → (T k).1 = C)
set_option maxRecDepth 20000 in
theorem ck0 : CKd 0 RX0 TX0 5 tyX0 := ⟨by decide, rfl, tyX0_ok, nmX0, tbs [321, 323, 325, 327, 329] (by decide +kernel) (by decide +kernel), rfl, by decide +kernel, by decide +kernel⟩
set_option maxRecDepth 20000 in
theorem ck1 : CKd 1 RX1 TX1 16 tyX1 := ⟨by decide, rfl, tyX1_ok, nmX1, tbs [252, 254, 256, 258, 260, 262, 264, 266, 268, 270, 272, 274, 276, 278, 280, 282] (by decide +kernel) (by decide +kernel), rfl, by decide +kernel, by decide +kernel⟩
set_option maxRecDepth 20000 in
theorem ck2 : CKd 2 RX2 TX2 5 tyX2 := ⟨by decide, rfl, tyX2_ok, nmX2, tbs [296, 298, 300, 302, 304] (by decide +kernel) (by decide +kernel), rfl, by decide +kernel, by decide +kernel⟩
set_option maxRecDepth 20000 in
theorem ck3 : CKd 3 RX3 TX3 6 tyX3 := ⟨by decide, rfl, tyX3_ok, nmX3, tbs [91, 93, 95, 97, 99, 101] (by decide +kernel) (by decide +kernel), rfl, by decide +kernel, by decide +kernel⟩
set_option maxRecDepth 20000 in
theorem ck4 : CKd 4 RX4 TX4 5 tyX4 := ⟨by decide, rfl, tyX4_ok, nmX4, tbs [199, 201, 203, 205, 207] (by decide +kernel) (by decide +kernel), rfl, by decide +kernel, by decide +kernel⟩
set_option maxRecDepth 20000 in
theorem ck5 : CKd 5 RX5 TX5 8 tyX5 := ⟨by decide, rfl, tyX5_ok, nmX5, tbs [141, 143, 145, 147, 149, 151, 153, 155] (by decide +kernel) (by decide +kernel), rfl, by decide +kernel, by decide +kernel⟩
set_option maxRecDepth 20000 in
theorem ck6 : CKd 6 RX6 TX6 2 tyX6 := ⟨by decide, rfl, tyX6_ok, nmX6, tbs [225, 227] (by decide +kernel) (by decide +kernel), rfl, by decide +kernel, by decide +kernel⟩
set_option maxRecDepth 20000 in
theorem ck7 : CKd 7 RX7 TX7 2 tyX7 := ⟨by decide, rfl, tyX7_ok, nmX7, tbs [66, 68] (by decide +kernel) (by decide +kernel), rfl, by decide +kernel, by decide +kernel⟩
set_option maxRecDepth 20000 in
theorem ck8 : CKd 8 RX8 TX8 2 tyX8 := ⟨by decide, rfl, tyX8_ok, nmX8, tbs [46, 48] (by decide +kernel) (by decide +kernel), rfl, by decide +kernel, by decide +kernel⟩
set_option maxRecDepth 20000 in
theorem ck9 : CKd 9 RX9 TX9 5 tyX9 := ⟨by decide, rfl, tyX9_ok, nmX9, tbs [176, 178, 180, 182, 184] (by decide +kernel) (by decide +kernel), rfl, by decide +kernel, by decide +kernel⟩
set_option maxRecDepth 20000 in
theorem ck10 : CKd 10 RX10 TX10 15 tyX10 := ⟨by decide, rfl, tyX10_ok, nmX10, tbs [347, 349, 351, 353, 355, 357, 359, 361, 363, 365, 367, 369, 371, 373, 375] (by decide +kernel) (by decide +kernel), rfl, by decide +kernel, by decide +kernel⟩
set_option maxRecDepth 20000 in
theorem ck11 : CKd 11 RX11 TX11 62 tyX11 := ⟨by decide, rfl, tyX11_ok, nmX11, tbs [986, 988, 990, 992, 994, 996, 998, 1000, 1002, 1004, 1006, 1008, 1010, 1012, 1014, 1016, 1018, 1020, 1022, 1024, 1026, 1028, 1030, 1032, 1034, 1036, 1038, 1040, 1042, 1044, 1046, 1048, 1050, 1052, 1054, 1056, 1058, 1060, 1062, 1064, 1066, 1068, 1070, 1072, 1074, 1076, 1078, 1080, 1082, 1084, 1086, 1088, 1090, 1092, 1094, 1096, 1098, 1100, 1102, 1104, 1106, 1108] (by decide +kernel) (by decide +kernel), rfl, by decide +kernel, by decide +kernel⟩
