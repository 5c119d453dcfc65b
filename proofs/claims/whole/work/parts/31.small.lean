/-! small methods, each by an equation -/
theorem fq_eq {F : FN} {vs : List Value} {h H : Hp} {R : Option Value} : fq F vs h (fun r h' => r = R ∧ h' = H) ↔ F vs h = some (R, H) := by
  constructor
  · rintro ⟨r, h', e, rfl, rfl⟩
    exact e
  · intro e
    exact ⟨R, H, e, rfl, rfl⟩
theorem fq_of {F : FN} {vs : List Value} {h : Hp} {R : Option Value} {H : Hp} {P : Option Value → Hp → Prop} (e : F vs h = some (R, H)) : fq F vs h P ↔ P R H := by
  constructor
  · rintro ⟨r, h', e2, p⟩
    rw [e] at e2
    cases e2
    exact p
  · intro p
    exact ⟨R, H, e, p⟩
theorem fq_ite {F : FN} {vs : List Value} {h : Hp} {c : Prop} [Decidable c] {x y : Option Value × Hp} {P : Option Value → Hp → Prop} (e : F vs h = if c then some x else some y) : fq F vs h P ↔ (c → P x.1 x.2) ∧ (¬ c → P y.1 y.2) := by
  by_cases hc : c
  · rw [if_pos hc] at e
    rw [fq_of e]
    exact ⟨fun p => ⟨fun _ => p, fun q => absurd hc q⟩, fun p => p.1 hc⟩
  · rw [if_neg hc] at e
    rw [fq_of e]
    exact ⟨fun p => ⟨fun q => absurd q hc, fun _ => p⟩, fun p => p.2 hc⟩
theorem eq_of_fq {F : FN} {vs : List Value} {h : Hp} {x : Option (Option Value × Hp)} (e : fq F vs h fun r h' => some (r, h') = x) : F vs h = x := by
  obtain ⟨r, h', e1, e2⟩ := e
  rw [e1, e2]
def b2 (c : Prop) [Decidable c] : Int32 := if c then 1 else 0
theorem b2_ok {c : Prop} [Decidable c] : b2 c = 0 ∨ b2 c = 1 := by unfold b2; split <;> simp
theorem b2_0 {c : Prop} [Decidable c] : b2 c = 0 ↔ ¬ c := by unfold b2; split <;> simp_all
theorem b2_1 {c : Prop} [Decidable c] : b2 c = 1 ↔ c := by unfold b2; split <;> simp_all
theorem ly0 : LY 0 = (10, 15) := rfl
theorem ly1 : LY 1 = (13, 12) := rfl
theorem ly2 : LY 2 = (13, 12) := rfl
theorem ly3 : LY 3 = (17, 4) := rfl
theorem ly4 : LY 4 = (15, 6) := rfl
theorem ly5 : LY 5 = (18, 6) := rfl
theorem ly6 : LY 6 = (13, 9) := rfl
theorem ly7 : LY 7 = (13, 9) := rfl
theorem ly8 : LY 8 = (13, 9) := rfl
theorem ly9 : LY 9 = (13, 9) := rfl
theorem ly10 : LY 10 = (13, 9) := rfl
theorem ly11 : LY 11 = (13, 9) := rfl
theorem ly12 : LY 12 = (8, 2) := rfl
theorem ly13 : LY 13 = (12, 200) := rfl
theorem ly14 : LY 14 = (7, 2) := rfl
theorem ly15 : LY 15 = (18, 6) := rfl
theorem ly16 : LY 16 = (13, 6) := rfl
theorem ly17 : LY 17 = (13, 6) := rfl
theorem ly18 : LY 18 = (13, 6) := rfl
theorem ly19 : LY 19 = (13, 6) := rfl
theorem ly20 : LY 20 = (13, 6) := rfl
theorem ly21 : LY 21 = (13, 6) := rfl
theorem ly22 : LY 22 = (13, 6) := rfl
theorem ly23 : LY 23 = (3, 6) := rfl
theorem ly24 : LY 24 = (13, 160) := rfl
theorem ly25 : LY 25 = (13, 160) := rfl
theorem ly26 : LY 26 = (13, 12) := rfl
theorem ly27 : LY 27 = (13, 12) := rfl
theorem ly28 : LY 28 = (9, 5) := rfl
theorem ly29 : LY 29 = (16, 20) := rfl
theorem ly30 : LY 30 = (5, 8) := rfl
theorem ly31 : LY 31 = (5, 8) := rfl
theorem ly32 : LY 32 = (5, 8) := rfl
theorem ly33 : LY 33 = (5, 8) := rfl
theorem ly34 : LY 34 = (5, 8) := rfl
theorem ly35 : LY 35 = (5, 8) := rfl
theorem ly36 : LY 36 = (5, 8) := rfl
theorem ly37 : LY 37 = (5, 8) := rfl
theorem ly38 : LY 38 = (5, 8) := rfl
theorem ly39 : LY 39 = (5, 8) := rfl
theorem ly40 : LY 40 = (5, 8) := rfl
theorem ly41 : LY 41 = (5, 8) := rfl
theorem ly42 : LY 42 = (5, 8) := rfl
theorem ly43 : LY 43 = (5, 8) := rfl
theorem ly44 : LY 44 = (5, 8) := rfl
theorem ly45 : LY 45 = (5, 8) := rfl
theorem ly46 : LY 46 = (5, 8) := rfl
theorem ly47 : LY 47 = (5, 8) := rfl
theorem ly48 : LY 48 = (5, 8) := rfl
theorem ly49 : LY 49 = (5, 8) := rfl
theorem ly50 : LY 50 = (9, 5) := rfl
theorem ly51 : LY 51 = (16, 20) := rfl
theorem ly52 : LY 52 = (5, 8) := rfl
theorem ly53 : LY 53 = (5, 8) := rfl
theorem ly54 : LY 54 = (5, 8) := rfl
theorem ly55 : LY 55 = (5, 8) := rfl
theorem ly56 : LY 56 = (5, 8) := rfl
theorem ly57 : LY 57 = (5, 8) := rfl
theorem ly58 : LY 58 = (5, 8) := rfl
theorem ly59 : LY 59 = (5, 8) := rfl
theorem ly60 : LY 60 = (5, 8) := rfl
theorem ly61 : LY 61 = (5, 8) := rfl
theorem ly62 : LY 62 = (5, 8) := rfl
theorem ly63 : LY 63 = (5, 8) := rfl
theorem ly64 : LY 64 = (5, 8) := rfl
theorem ly65 : LY 65 = (5, 8) := rfl
theorem ly66 : LY 66 = (5, 8) := rfl
theorem ly67 : LY 67 = (5, 8) := rfl
theorem ly68 : LY 68 = (5, 8) := rfl
theorem ly69 : LY 69 = (5, 8) := rfl
theorem ly70 : LY 70 = (5, 8) := rfl
theorem ly71 : LY 71 = (5, 8) := rfl
theorem ly72 : LY 72 = (9, 5) := rfl
theorem ly73 : LY 73 = (16, 20) := rfl
theorem ly74 : LY 74 = (5, 8) := rfl
theorem ly75 : LY 75 = (5, 8) := rfl
theorem ly76 : LY 76 = (5, 8) := rfl
theorem ly77 : LY 77 = (5, 8) := rfl
theorem ly78 : LY 78 = (5, 8) := rfl
theorem ly79 : LY 79 = (5, 8) := rfl
theorem ly80 : LY 80 = (5, 8) := rfl
theorem ly81 : LY 81 = (5, 8) := rfl
theorem ly82 : LY 82 = (5, 8) := rfl
theorem ly83 : LY 83 = (5, 8) := rfl
theorem ly84 : LY 84 = (5, 8) := rfl
theorem ly85 : LY 85 = (5, 8) := rfl
theorem ly86 : LY 86 = (5, 8) := rfl
theorem ly87 : LY 87 = (5, 8) := rfl
theorem ly88 : LY 88 = (5, 8) := rfl
theorem ly89 : LY 89 = (5, 8) := rfl
theorem ly90 : LY 90 = (5, 8) := rfl
theorem ly91 : LY 91 = (5, 8) := rfl
theorem ly92 : LY 92 = (5, 8) := rfl
theorem ly93 : LY 93 = (5, 8) := rfl
theorem ly94 : LY 94 = (9, 5) := rfl
theorem ly95 : LY 95 = (16, 20) := rfl
theorem ly96 : LY 96 = (5, 8) := rfl
theorem ly97 : LY 97 = (5, 8) := rfl
theorem ly98 : LY 98 = (5, 8) := rfl
theorem ly99 : LY 99 = (5, 8) := rfl
theorem ly100 : LY 100 = (5, 8) := rfl
theorem ly101 : LY 101 = (5, 8) := rfl
theorem ly102 : LY 102 = (5, 8) := rfl
theorem ly103 : LY 103 = (5, 8) := rfl
theorem ly104 : LY 104 = (5, 8) := rfl
theorem ly105 : LY 105 = (5, 8) := rfl
theorem ly106 : LY 106 = (5, 8) := rfl
theorem ly107 : LY 107 = (5, 8) := rfl
theorem ly108 : LY 108 = (5, 8) := rfl
theorem ly109 : LY 109 = (5, 8) := rfl
theorem ly110 : LY 110 = (5, 8) := rfl
theorem ly111 : LY 111 = (5, 8) := rfl
theorem ly112 : LY 112 = (5, 8) := rfl
theorem ly113 : LY 113 = (5, 8) := rfl
theorem ly114 : LY 114 = (5, 8) := rfl
theorem ly115 : LY 115 = (5, 8) := rfl
theorem ly116 : LY 116 = (3, 6) := rfl
theorem ly117 : LY 117 = (13, 160) := rfl
theorem ly118 : LY 118 = (13, 160) := rfl
theorem ly119 : LY 119 = (13, 12) := rfl
theorem ly120 : LY 120 = (13, 12) := rfl
theorem ly121 : LY 121 = (3, 6) := rfl
theorem ly122 : LY 122 = (13, 160) := rfl
theorem ly123 : LY 123 = (13, 160) := rfl
theorem ly124 : LY 124 = (13, 12) := rfl
theorem ly125 : LY 125 = (13, 12) := rfl
theorem ly126 : LY 126 = (3, 6) := rfl
theorem ly127 : LY 127 = (13, 160) := rfl
theorem ly128 : LY 128 = (13, 160) := rfl
theorem ly129 : LY 129 = (13, 12) := rfl
theorem ly130 : LY 130 = (13, 12) := rfl
theorem ly131 : LY 131 = (3, 6) := rfl
theorem ly132 : LY 132 = (13, 160) := rfl
theorem ly133 : LY 133 = (13, 160) := rfl
theorem ly134 : LY 134 = (13, 12) := rfl
theorem ly135 : LY 135 = (13, 12) := rfl
theorem ly136 : LY 136 = (3, 6) := rfl
theorem ly137 : LY 137 = (13, 160) := rfl
theorem ly138 : LY 138 = (13, 160) := rfl
theorem ly139 : LY 139 = (13, 12) := rfl
theorem ly140 : LY 140 = (13, 12) := rfl
theorem ly141 : LY 141 = (3, 6) := rfl
theorem ly142 : LY 142 = (13, 160) := rfl
theorem ly143 : LY 143 = (13, 160) := rfl
theorem ly144 : LY 144 = (13, 12) := rfl
theorem ly145 : LY 145 = (13, 12) := rfl
theorem ly146 : LY 146 = (4, 5) := rfl
theorem ly147 : LY 147 = (1, 16) := rfl
theorem ly148 : LY 148 = (6, 2) := rfl
theorem ly149 : LY 149 = (13, 13) := rfl
theorem ly150 : LY 150 = (13, 64) := rfl
theorem ly151 : LY 151 = (13, 21) := rfl
theorem ly152 : LY 152 = (13, 20) := rfl
theorem ly153 : LY 153 = (13, 20) := rfl
theorem ly154 : LY 154 = (13, 20) := rfl
theorem ly155 : LY 155 = (13, 1200) := rfl
theorem ly156 : LY 156 = (13, 1200) := rfl
theorem ly157 : LY 157 = (2, 5) := rfl
theorem ly158 : LY 158 = (13, 21) := rfl
theorem ly159 : LY 159 = (13, 1260) := rfl
theorem ly160 : LY 160 = (13, 21) := rfl
theorem ly161 : LY 161 = (13, 21) := rfl
theorem ly162 : LY 162 = (0, 5) := rfl
theorem ly163 : LY 163 = (13, 20) := rfl
theorem ly164 : LY 164 = (13, 20) := rfl
theorem ly165 : LY 165 = (13, 12) := rfl
theorem ly166 : LY 166 = (11, 62) := rfl
theorem ly167 : LY 167 = (13, 12) := rfl
theorem ly168 : LY 168 = (13, 12) := rfl
theorem ly169 : LY 169 = (13, 4) := rfl
theorem ly170 : LY 170 = (13, 4) := rfl
theorem ly171 : LY 171 = (13, 4) := rfl
theorem ly172 : LY 172 = (13, 4) := rfl
theorem ly173 : LY 173 = (13, 88) := rfl
theorem ly174 : LY 174 = (13, 88) := rfl
theorem ly175 : LY 175 = (13, 88) := rfl
theorem ly176 : LY 176 = (13, 88) := rfl
theorem ly177 : LY 177 = (13, 88) := rfl
theorem ly178 : LY 178 = (13, 88) := rfl
theorem ly179 : LY 179 = (13, 88) := rfl
theorem ly180 : LY 180 = (13, 88) := rfl
theorem ly181 : LY 181 = (13, 54) := rfl
theorem ly182 : LY 182 = (13, 36) := rfl
theorem ly183 : LY 183 = (12, 200) := rfl
theorem ly184 : LY 184 = (13, 180) := rfl
theorem ly185 : LY 185 = (13, 180) := rfl
theorem ly186 : LY 186 = (13, 12) := rfl
theorem ly187 : LY 187 = (13, 12) := rfl
theorem ly188 : LY 188 = (13, 12) := rfl
theorem ly189 : LY 189 = (13, 1080) := rfl
theorem ly190 : LY 190 = (13, 6) := rfl
theorem ly191 : LY 191 = (13, 72) := rfl
theorem ly192 : LY 192 = (13, 72) := rfl
theorem ly193 : LY 193 = (13, 72) := rfl
theorem ly194 : LY 194 = (13, 180) := rfl
theorem ly195 : LY 195 = (13, 13) := rfl
theorem ly196 : LY 196 = (13, 22) := rfl
theorem ly197 : LY 197 = (13, 22) := rfl
theorem ly198 : LY 198 = (13, 22) := rfl
theorem ly199 : LY 199 = (13, 22) := rfl
theorem ly200 : LY 200 = (13, 22) := rfl
theorem ly201 : LY 201 = (13, 22) := rfl
theorem ly202 : LY 202 = (13, 22) := rfl
theorem ly203 : LY 203 = (14, 22) := rfl
theorem ly204 : LY 204 = (13, 20) := rfl
theorem ly205 : LY 205 = (13, 9) := rfl
theorem ly206 : LY 206 = (13, 6561) := rfl
theorem ly207 : LY 207 = (13, 20) := rfl
theorem ly208 : LY 208 = (13, 20) := rfl
theorem ly209 : LY 209 = (13, 12) := rfl
theorem ly210 : LY 210 = (13, 6) := rfl
theorem ly211 : LY 211 = (13, 4) := rfl
theorem e_m_in (v lo hi : Int32) (h : Hp) : F_X11_in [.int v, .int lo, .int hi] h = some (some (.int (b2 (lo ≤ v ∧ v ≤ hi))), h) := by
  rw [← fq_eq]
  unfold F_X11_in
  simp only [f_mkF, w_sI, w_sR, w_sL, w_sC, w_sk, w_sbr, w_sco, w_rV, w_rI, w_rR, w_rL, w_dI, w_sO, w_sq, w_si, w_pI, w_pZ, w_pR, w_pU, w_qI, w_qB, w_qZ, w_qU, w_qR, w_kV, q_icst, q_lcst, q_xR, q_ldI, q_ldR, q_ldL, q_bn, q_un, q_dv, q_fI, q_fR, q_aI, q_aR, q_aN, q_tn, q_cmp, q_cmz, q_cnt, q_ctt, q_cand, q_cor, q_vn, q_vI, q_vR, q_vL, q_kI, q_kR, q_kL, q_ckI, envN, argE, List.flatMap_cons, List.flatMap_nil, Value.category, junk, oadd, osub, omul, oand, oor, oxor, odiv, orem, oshl, oshr, oushr, omax, omin]
  simp [rok, b2]
  grind
theorem e_x_isWithin (v lo hi : Int32) (h : Hp) : F_X10_isWithin [.int v, .int lo, .int hi] h = some (some (.int (b2 (lo ≤ v ∧ v ≤ hi))), h) := by
  rw [← fq_eq]
  unfold F_X10_isWithin
  simp only [f_mkF, w_sI, w_sR, w_sL, w_sC, w_sk, w_sbr, w_sco, w_rV, w_rI, w_rR, w_rL, w_dI, w_sO, w_sq, w_si, w_pI, w_pZ, w_pR, w_pU, w_qI, w_qB, w_qZ, w_qU, w_qR, w_kV, q_icst, q_lcst, q_xR, q_ldI, q_ldR, q_ldL, q_bn, q_un, q_dv, q_fI, q_fR, q_aI, q_aR, q_aN, q_tn, q_cmp, q_cmz, q_cnt, q_ctt, q_cand, q_cor, q_vn, q_vI, q_vR, q_vL, q_kI, q_kR, q_kL, q_ckI, envN, argE, List.flatMap_cons, List.flatMap_nil, Value.category, junk, oadd, osub, omul, oand, oor, oxor, odiv, orem, oshl, oshr, oushr, omax, omin]
  simp [rok, b2]
  grind
theorem e_m_isLand (v : Int32) (h : Hp) : F_X11_isLand [.int v] h = some (some (.int (b2 (0 ≤ v ∧ v ≤ 5))), h) := by
  rw [← fq_eq]
  unfold F_X11_isLand
  simp only [f_mkF, w_sI, w_sR, w_sL, w_sC, w_sk, w_sbr, w_sco, w_rV, w_rI, w_rR, w_rL, w_dI, w_sO, w_sq, w_si, w_pI, w_pZ, w_pR, w_pU, w_qI, w_qB, w_qZ, w_qU, w_qR, w_kV, q_icst, q_lcst, q_xR, q_ldI, q_ldR, q_ldL, q_bn, q_un, q_dv, q_fI, q_fR, q_aI, q_aR, q_aN, q_tn, q_cmp, q_cmz, q_cnt, q_ctt, q_cand, q_cor, q_vn, q_vI, q_vR, q_vL, q_kI, q_kR, q_kL, q_ckI, envN, argE, List.flatMap_cons, List.flatMap_nil, Value.category, junk, oadd, osub, omul, oand, oor, oxor, odiv, orem, oshl, oshr, oushr, omax, omin]
  simp [rok, b2]
  grind
theorem e_x_isLand (v : Int32) (h : Hp) : F_X10_isLand [.int v] h = some (some (.int (b2 (0 ≤ v ∧ v ≤ 5))), h) := by
  rw [← fq_eq]
  unfold F_X10_isLand
  simp only [f_mkF, w_sI, w_sR, w_sL, w_sC, w_sk, w_sbr, w_sco, w_rV, w_rI, w_rR, w_rL, w_dI, w_sO, w_sq, w_si, w_pI, w_pZ, w_pR, w_pU, w_qI, w_qB, w_qZ, w_qU, w_qR, w_kV, q_icst, q_lcst, q_xR, q_ldI, q_ldR, q_ldL, q_bn, q_un, q_dv, q_fI, q_fR, q_aI, q_aR, q_aN, q_tn, q_cmp, q_cmz, q_cnt, q_ctt, q_cand, q_cor, q_vn, q_vI, q_vR, q_vL, q_kI, q_kR, q_kL, q_ckI, envN, argE, List.flatMap_cons, List.flatMap_nil, Value.category, junk, oadd, osub, omul, oand, oor, oxor, odiv, orem, oshl, oshr, oushr, omax, omin]
  simp [rok, fq_of (e_x_isWithin _ _ _ _), nog, b2_ok, b2]
  try grind
theorem e_m_isPerson (v : Int32) (h : Hp) (hn : h.1 = 212) : F_X11_isPerson [.ref 166, .int v] h = some (some (.int (b2 (0 ≤ v ∧ v < h.2.1 166 1))), h) := by
  rw [← fq_eq]
  unfold F_X11_isPerson
  simp only [f_mkF, w_sI, w_sR, w_sL, w_sC, w_sk, w_sbr, w_sco, w_rV, w_rI, w_rR, w_rL, w_dI, w_sO, w_sq, w_si, w_pI, w_pZ, w_pR, w_pU, w_qI, w_qB, w_qZ, w_qU, w_qR, w_kV, q_icst, q_lcst, q_xR, q_ldI, q_ldR, q_ldL, q_bn, q_un, q_dv, q_fI, q_fR, q_aI, q_aR, q_aN, q_tn, q_cmp, q_cmz, q_cnt, q_ctt, q_cand, q_cor, q_vn, q_vI, q_vR, q_vL, q_kI, q_kR, q_kL, q_ckI, envN, argE, List.flatMap_cons, List.flatMap_nil, Value.category, junk, oadd, osub, omul, oand, oor, oxor, odiv, orem, oshl, oshr, oushr, omax, omin]
  simp [rok, b2, hn, ly166]
  grind
theorem e_m_isThing (v : Int32) (h : Hp) (hn : h.1 = 212) : F_X11_isThing [.ref 166, .int v] h = some (some (.int (b2 (0 ≤ v ∧ v < h.2.1 166 2))), h) := by
  rw [← fq_eq]
  unfold F_X11_isThing
  simp only [f_mkF, w_sI, w_sR, w_sL, w_sC, w_sk, w_sbr, w_sco, w_rV, w_rI, w_rR, w_rL, w_dI, w_sO, w_sq, w_si, w_pI, w_pZ, w_pR, w_pU, w_qI, w_qB, w_qZ, w_qU, w_qR, w_kV, q_icst, q_lcst, q_xR, q_ldI, q_ldR, q_ldL, q_bn, q_un, q_dv, q_fI, q_fR, q_aI, q_aR, q_aN, q_tn, q_cmp, q_cmz, q_cnt, q_ctt, q_cand, q_cor, q_vn, q_vI, q_vR, q_vL, q_kI, q_kR, q_kL, q_ckI, envN, argE, List.flatMap_cons, List.flatMap_nil, Value.category, junk, oadd, osub, omul, oand, oor, oxor, odiv, orem, oshl, oshr, oushr, omax, omin]
  simp [rok, b2, hn, ly166]
  grind
theorem e_x_isPerson (v : Int32) (h : Hp) (hn : h.1 = 212) : F_X10_isPerson [.ref 0, .int v] h = some (some (.int (b2 (0 ≤ v ∧ v ≤ h.2.1 0 13 - 1))), h) := by
  rw [← fq_eq]
  unfold F_X10_isPerson
  simp only [f_mkF, w_sI, w_sR, w_sL, w_sC, w_sk, w_sbr, w_sco, w_rV, w_rI, w_rR, w_rL, w_dI, w_sO, w_sq, w_si, w_pI, w_pZ, w_pR, w_pU, w_qI, w_qB, w_qZ, w_qU, w_qR, w_kV, q_icst, q_lcst, q_xR, q_ldI, q_ldR, q_ldL, q_bn, q_un, q_dv, q_fI, q_fR, q_aI, q_aR, q_aN, q_tn, q_cmp, q_cmz, q_cnt, q_ctt, q_cand, q_cor, q_vn, q_vI, q_vR, q_vL, q_kI, q_kR, q_kL, q_ckI, envN, argE, List.flatMap_cons, List.flatMap_nil, Value.category, junk, oadd, osub, omul, oand, oor, oxor, odiv, orem, oshl, oshr, oushr, omax, omin]
  simp [rok, fq_of (e_x_isWithin _ _ _ _), nog, b2_ok, b2, hn, ly0]
  try grind
theorem e_x_isThing (v : Int32) (h : Hp) (hn : h.1 = 212) : F_X10_isThing [.ref 0, .int v] h = some (some (.int (b2 (0 ≤ v ∧ v ≤ h.2.1 0 14 - 1))), h) := by
  rw [← fq_eq]
  unfold F_X10_isThing
  simp only [f_mkF, w_sI, w_sR, w_sL, w_sC, w_sk, w_sbr, w_sco, w_rV, w_rI, w_rR, w_rL, w_dI, w_sO, w_sq, w_si, w_pI, w_pZ, w_pR, w_pU, w_qI, w_qB, w_qZ, w_qU, w_qR, w_kV, q_icst, q_lcst, q_xR, q_ldI, q_ldR, q_ldL, q_bn, q_un, q_dv, q_fI, q_fR, q_aI, q_aR, q_aN, q_tn, q_cmp, q_cmz, q_cnt, q_ctt, q_cand, q_cor, q_vn, q_vI, q_vR, q_vL, q_kI, q_kR, q_kL, q_ckI, envN, argE, List.flatMap_cons, List.flatMap_nil, Value.category, junk, oadd, osub, omul, oand, oor, oxor, odiv, orem, oshl, oshr, oushr, omax, omin]
  simp [rok, fq_of (e_x_isWithin _ _ _ _), nog, b2_ok, b2, hn, ly0]
  try grind
theorem e_m_now (v : Int32) (h : Hp) (hn : h.1 = 212) : F_X11_now [.ref 166, .int v] h = if h.2.1 166 0 ≤ v ∧ v ≤ 599 then some (some (.int 1), wI h 166 0 v) else some (some (.int 0), h) := by
  apply eq_of_fq
  unfold F_X11_now
  simp only [f_mkF, w_sI, w_sR, w_sL, w_sC, w_sk, w_sbr, w_sco, w_rV, w_rI, w_rR, w_rL, w_dI, w_sO, w_sq, w_si, w_pI, w_pZ, w_pR, w_pU, w_qI, w_qB, w_qZ, w_qU, w_qR, w_kV, q_icst, q_lcst, q_xR, q_ldI, q_ldR, q_ldL, q_bn, q_un, q_dv, q_fI, q_fR, q_aI, q_aR, q_aN, q_tn, q_cmp, q_cmz, q_cnt, q_ctt, q_cand, q_cor, q_vn, q_vI, q_vR, q_vL, q_kI, q_kR, q_kL, q_ckI, envN, argE, List.flatMap_cons, List.flatMap_nil, Value.category, junk, oadd, osub, omul, oand, oor, oxor, odiv, orem, oshl, oshr, oushr, omax, omin]
  simp [rok, fq_of (e_m_in _ _ _ _), nog, hn, ly166, b2_0]
  try grind
theorem e_x_now (v : Int32) (h : Hp) (hn : h.1 = 212) : F_X10_now [.ref 0, .int v] h = if h.2.1 0 12 ≤ v ∧ v ≤ 599 then some (some (.int 1), wI h 0 12 v) else some (some (.int 0), h) := by
  apply eq_of_fq
  unfold F_X10_now
  simp only [f_mkF, w_sI, w_sR, w_sL, w_sC, w_sk, w_sbr, w_sco, w_rV, w_rI, w_rR, w_rL, w_dI, w_sO, w_sq, w_si, w_pI, w_pZ, w_pR, w_pU, w_qI, w_qB, w_qZ, w_qU, w_qR, w_kV, q_icst, q_lcst, q_xR, q_ldI, q_ldR, q_ldL, q_bn, q_un, q_dv, q_fI, q_fR, q_aI, q_aR, q_aN, q_tn, q_cmp, q_cmz, q_cnt, q_ctt, q_cand, q_cor, q_vn, q_vI, q_vR, q_vL, q_kI, q_kR, q_kL, q_ckI, envN, argE, List.flatMap_cons, List.flatMap_nil, Value.category, junk, oadd, osub, omul, oand, oor, oxor, odiv, orem, oshl, oshr, oushr, omax, omin]
  simp [rok, fq_of (e_x_isWithin _ _ _ _), nog, hn, ly0, b2_0]
  try grind
