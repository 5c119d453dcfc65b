/-! the constructors: the reference -/
def LG : List (Nat × Nat × Nat) := (166, 61, 211) :: (166, 60, 210) :: (166, 59, 209) :: (166, 58, 208) :: (166, 57, 207) :: (166, 55, 206) :: (166, 54, 205) :: (166, 53, 204) :: (166, 49, 203) :: (166, 48, 202) :: (166, 47, 201) :: (166, 46, 200) :: (166, 45, 199) :: (166, 44, 198) :: (166, 43, 197) :: (166, 42, 196) :: (166, 40, 195) :: (166, 39, 194) :: (166, 38, 193) :: (166, 37, 192) :: (166, 36, 191) :: (166, 35, 190) :: (166, 34, 189) :: (166, 33, 188) :: (166, 32, 187) :: (166, 31, 186) :: (166, 30, 185) :: (166, 29, 184) :: (166, 19, 183) :: (166, 18, 182) :: (166, 17, 181) :: (166, 16, 180) :: (166, 15, 179) :: (166, 14, 178) :: (166, 13, 177) :: (166, 12, 176) :: (166, 11, 175) :: (166, 10, 174) :: (166, 9, 173) :: (166, 8, 172) :: (166, 7, 171) :: (166, 6, 170) :: (166, 5, 169) :: (166, 4, 168) :: (166, 3, 167) :: LF
theorem n_ref {h : Hp} (q : HS 167 LF h) (hN : NR 6 h.2.1) : fq F_X11_init [.ref 166] h fun r h' => r = none ∧ HS 212 LG h' ∧ (∀ k, k < 54 → h'.2.1 181 k = 1) ∧ (∀ k, k < 36 → h'.2.1 182 k = -1) ∧ ∀ x k, x ≠ 181 → x ≠ 182 → h'.2.1 x k = h.2.1 x k := by
  have k54 : (54 : Int32) = nI 54 := rfl
  have k36 : (36 : Int32) = nI 36 := rfl
  unfold F_X11_init
  refine f_mkE [.ref 166, junk] rfl (by simp [argE, Value.category]) ?_
  refine w_s0 (a := 166) rfl ?_
  refine w_pA (a := 166) q rfl (by omega) rfl (by omega) ly167 rfl fun h167 q167 e167 => ?_
  refine w_pA (a := 166) q167 rfl (by omega) rfl (by omega) ly168 rfl fun h168 q168 e168 => ?_
  rw [e167] at e168
  clear q167 e167
  refine w_pA (a := 166) q168 rfl (by omega) rfl (by omega) ly169 rfl fun h169 q169 e169 => ?_
  rw [e168] at e169
  clear q168 e168
  refine w_pA (a := 166) q169 rfl (by omega) rfl (by omega) ly170 rfl fun h170 q170 e170 => ?_
  rw [e169] at e170
  clear q169 e169
  refine w_pA (a := 166) q170 rfl (by omega) rfl (by omega) ly171 rfl fun h171 q171 e171 => ?_
  rw [e170] at e171
  clear q170 e170
  refine w_pA (a := 166) q171 rfl (by omega) rfl (by omega) ly172 rfl fun h172 q172 e172 => ?_
  rw [e171] at e172
  clear q171 e171
  refine w_pA (a := 166) q172 rfl (by omega) rfl (by omega) ly173 rfl fun h173 q173 e173 => ?_
  rw [e172] at e173
  clear q172 e172
  refine w_pA (a := 166) q173 rfl (by omega) rfl (by omega) ly174 rfl fun h174 q174 e174 => ?_
  rw [e173] at e174
  clear q173 e173
  refine w_pA (a := 166) q174 rfl (by omega) rfl (by omega) ly175 rfl fun h175 q175 e175 => ?_
  rw [e174] at e175
  clear q174 e174
  refine w_pA (a := 166) q175 rfl (by omega) rfl (by omega) ly176 rfl fun h176 q176 e176 => ?_
  rw [e175] at e176
  clear q175 e175
  refine w_pA (a := 166) q176 rfl (by omega) rfl (by omega) ly177 rfl fun h177 q177 e177 => ?_
  rw [e176] at e177
  clear q176 e176
  refine w_pA (a := 166) q177 rfl (by omega) rfl (by omega) ly178 rfl fun h178 q178 e178 => ?_
  rw [e177] at e178
  clear q177 e177
  refine w_pA (a := 166) q178 rfl (by omega) rfl (by omega) ly179 rfl fun h179 q179 e179 => ?_
  rw [e178] at e179
  clear q178 e178
  refine w_pA (a := 166) q179 rfl (by omega) rfl (by omega) ly180 rfl fun h180 q180 e180 => ?_
  rw [e179] at e180
  clear q179 e179
  refine w_pA (a := 166) q180 rfl (by omega) rfl (by omega) ly181 rfl fun h181 q181 e181 => ?_
  rw [e180] at e181
  clear q180 e180
  refine w_pA (a := 166) q181 rfl (by omega) rfl (by omega) ly182 rfl fun h182 q182 e182 => ?_
  rw [e181] at e182
  clear q181 e181
  refine w_pA (a := 166) q182 rfl (by omega) rfl (by omega) ly183 rfl fun h183 q183 e183 => ?_
  rw [e182] at e183
  clear q182 e182
  refine w_pA (a := 166) q183 rfl (by omega) rfl (by omega) ly184 rfl fun h184 q184 e184 => ?_
  rw [e183] at e184
  clear q183 e183
  refine w_pA (a := 166) q184 rfl (by omega) rfl (by omega) ly185 rfl fun h185 q185 e185 => ?_
  rw [e184] at e185
  clear q184 e184
  refine w_pA (a := 166) q185 rfl (by omega) rfl (by omega) ly186 rfl fun h186 q186 e186 => ?_
  rw [e185] at e186
  clear q185 e185
  refine w_pA (a := 166) q186 rfl (by omega) rfl (by omega) ly187 rfl fun h187 q187 e187 => ?_
  rw [e186] at e187
  clear q186 e186
  refine w_pA (a := 166) q187 rfl (by omega) rfl (by omega) ly188 rfl fun h188 q188 e188 => ?_
  rw [e187] at e188
  clear q187 e187
  refine w_pA (a := 166) q188 rfl (by omega) rfl (by omega) ly189 rfl fun h189 q189 e189 => ?_
  rw [e188] at e189
  clear q188 e188
  refine w_pA (a := 166) q189 rfl (by omega) rfl (by omega) ly190 rfl fun h190 q190 e190 => ?_
  rw [e189] at e190
  clear q189 e189
  refine w_pA (a := 166) q190 rfl (by omega) rfl (by omega) ly191 rfl fun h191 q191 e191 => ?_
  rw [e190] at e191
  clear q190 e190
  refine w_pA (a := 166) q191 rfl (by omega) rfl (by omega) ly192 rfl fun h192 q192 e192 => ?_
  rw [e191] at e192
  clear q191 e191
  refine w_pA (a := 166) q192 rfl (by omega) rfl (by omega) ly193 rfl fun h193 q193 e193 => ?_
  rw [e192] at e193
  clear q192 e192
  refine w_pA (a := 166) q193 rfl (by omega) rfl (by omega) ly194 rfl fun h194 q194 e194 => ?_
  rw [e193] at e194
  clear q193 e193
  refine w_pA (a := 166) q194 rfl (by omega) rfl (by omega) ly195 rfl fun h195 q195 e195 => ?_
  rw [e194] at e195
  clear q194 e194
  refine w_pA (a := 166) q195 rfl (by omega) rfl (by omega) ly196 rfl fun h196 q196 e196 => ?_
  rw [e195] at e196
  clear q195 e195
  refine w_pA (a := 166) q196 rfl (by omega) rfl (by omega) ly197 rfl fun h197 q197 e197 => ?_
  rw [e196] at e197
  clear q196 e196
  refine w_pA (a := 166) q197 rfl (by omega) rfl (by omega) ly198 rfl fun h198 q198 e198 => ?_
  rw [e197] at e198
  clear q197 e197
  refine w_pA (a := 166) q198 rfl (by omega) rfl (by omega) ly199 rfl fun h199 q199 e199 => ?_
  rw [e198] at e199
  clear q198 e198
  refine w_pA (a := 166) q199 rfl (by omega) rfl (by omega) ly200 rfl fun h200 q200 e200 => ?_
  rw [e199] at e200
  clear q199 e199
  refine w_pA (a := 166) q200 rfl (by omega) rfl (by omega) ly201 rfl fun h201 q201 e201 => ?_
  rw [e200] at e201
  clear q200 e200
  refine w_pA (a := 166) q201 rfl (by omega) rfl (by omega) ly202 rfl fun h202 q202 e202 => ?_
  rw [e201] at e202
  clear q201 e201
  refine w_pA (a := 166) q202 rfl (by omega) rfl (by omega) ly203 rfl fun h203 q203 e203 => ?_
  rw [e202] at e203
  clear q202 e202
  refine w_pA (a := 166) q203 rfl (by omega) rfl (by omega) ly204 rfl fun h204 q204 e204 => ?_
  rw [e203] at e204
  clear q203 e203
  refine w_pA (a := 166) q204 rfl (by omega) rfl (by omega) ly205 rfl fun h205 q205 e205 => ?_
  rw [e204] at e205
  clear q204 e204
  refine w_pA (a := 166) q205 rfl (by omega) rfl (by omega) ly206 rfl fun h206 q206 e206 => ?_
  rw [e205] at e206
  clear q205 e205
  refine w_pA (a := 166) q206 rfl (by omega) rfl (by omega) ly207 rfl fun h207 q207 e207 => ?_
  rw [e206] at e207
  clear q206 e206
  refine w_pA (a := 166) q207 rfl (by omega) rfl (by omega) ly208 rfl fun h208 q208 e208 => ?_
  rw [e207] at e208
  clear q207 e207
  refine w_pA (a := 166) q208 rfl (by omega) rfl (by omega) ly209 rfl fun h209 q209 e209 => ?_
  rw [e208] at e209
  clear q208 e208
  refine w_pA (a := 166) q209 rfl (by omega) rfl (by omega) ly210 rfl fun h210 q210 e210 => ?_
  rw [e209] at e210
  clear q209 e209
  refine w_pA (a := 166) q210 rfl (by omega) rfl (by omega) ly211 rfl fun h211 q211 e211 => ?_
  rw [e210] at e211
  clear q210 e210
  have q0 : HS 212 LG h211 := q211
  clear q211
  generalize h211 = h1 at *
  have g0 : ∀ h', HS 212 LG h' → h'.1 = 212 ∧ h'.2.2 166 17 = some 181 ∧ h'.2.2 166 18 = some 182 := by
    intro h' q'
    exact ⟨q'.1, by rw [q'.2.1]; rfl, by rw [q'.2.1]; rfl⟩
  have fr0 : ∀ {h' : Hp} {j : Nat} {A : Nat} {v : Int32}, HS 212 LG h' → A < 212 → HS 212 LG (wI h' A j v) := by
    intro h' j A v q' hA
    refine ⟨q'.1, q'.2.1, q'.2.2.1, fun x k hx => ?_⟩
    rw [wI_i, if_neg (by omega)]
    exact q'.2.2.2 x k hx
  refine w_sqS (fun E1 h2 => (∃ v, E1 = [.ref 166, v] ∧ v.category = 1) ∧ HS 212 LG h2 ∧ (∀ k, k < 54 → h2.2.1 181 k = 1) ∧ ∀ x k, x ≠ 181 → h2.2.1 x k = h.2.1 x k) ?_ ?_
  · refine w_sqI (E' := [.ref 166, .int (nI 0)]) (nI 0) (by simp only [f_mkF, w_sI, w_sR, w_sL, w_sC, w_sk, w_sbr, w_sco, w_rV, w_rI, w_rR, w_rL, w_dI, w_sO, w_sq, w_si, w_pI, w_pZ, w_pR, w_pU, w_qI, w_qB, w_qZ, w_qU, w_qR, w_kV, q_icst, q_lcst, q_xR, q_ldI, q_ldR, q_ldL, q_bn, q_un, q_dv, q_fI, q_fR, q_aI, q_aR, q_aN, q_tn, q_cmp, q_cmz, q_cnt, q_ctt, q_cand, q_cor, q_vn, q_vI, q_vR, q_vL, q_kI, q_kR, q_kL, q_ckI, envN, argE, List.flatMap_cons, List.flatMap_nil, Value.category, junk, oadd, osub, omul, oand, oor, oxor, odiv, orem, oshl, oshr, oushr, omax, omin]; simp [nI_0]) rfl ?_
    refine w_for (lo := 0) (hi := 54) (fun j E h' => E = [.ref 166, .int (nI j)] ∧ HS 212 LG h' ∧ (∀ k, k < j → h'.2.1 181 k = 1) ∧ ∀ x k, x ≠ 181 → h'.2.1 x k = h.2.1 x k) (fun j E h' => E = [.ref 166, .int (nI j)] ∧ HS 212 LG h' ∧ (∀ k, k < j + 1 → h'.2.1 181 k = 1) ∧ ∀ x k, x ≠ 181 → h'.2.1 x k = h.2.1 x k) (by omega) ⟨rfl, q0, fun k z => by omega, fun x k _ => by rw [e211]⟩ ?_ ?_
    · rintro j E h2 - hj ⟨rfl, q2, z2, y2⟩
      obtain ⟨g1, g2, g3⟩ := g0 h2 q2
      by_cases hj5 : j < 54
      · refine ev_T ?_ ⟨rfl, fun _ => ⟨hj5, ?_⟩, fun z => by cases z⟩
        · simp only [f_mkF, w_sI, w_sR, w_sL, w_sC, w_sk, w_sbr, w_sco, w_rV, w_rI, w_rR, w_rL, w_dI, w_sO, w_sq, w_si, w_pI, w_pZ, w_pR, w_pU, w_qI, w_qB, w_qZ, w_qU, w_qR, w_kV, q_icst, q_lcst, q_xR, q_ldI, q_ldR, q_ldL, q_bn, q_un, q_dv, q_fI, q_fR, q_aI, q_aR, q_aN, q_tn, q_cmp, q_cmz, q_cnt, q_ctt, q_cand, q_cor, q_vn, q_vI, q_vR, q_vL, q_kI, q_kR, q_kL, q_ckI, envN, argE, List.flatMap_cons, List.flatMap_nil, Value.category, junk, oadd, osub, omul, oand, oor, oxor, odiv, orem, oshl, oshr, oushr, omax, omin]
          simp (disch := first | omega | simp) [rk_i, rk_b, rk_o, st1, kill, Value.category, rcv, nog, inI_b, nI_clamp, nI_ltI, nI_leI, nI_eq, nI_9, nI_6, nI_22, nI_12, nI_180, nI_add, nI_1, k54, hj5]
        refine w_qIe 181 j 1 (by simp only [f_mkF, w_sI, w_sR, w_sL, w_sC, w_sk, w_sbr, w_sco, w_rV, w_rI, w_rR, w_rL, w_dI, w_sO, w_sq, w_si, w_pI, w_pZ, w_pR, w_pU, w_qI, w_qB, w_qZ, w_qU, w_qR, w_kV, q_icst, q_lcst, q_xR, q_ldI, q_ldR, q_ldL, q_bn, q_un, q_dv, q_fI, q_fR, q_aI, q_aR, q_aN, q_tn, q_cmp, q_cmz, q_cnt, q_ctt, q_cand, q_cor, q_vn, q_vI, q_vR, q_vL, q_kI, q_kR, q_kL, q_ckI, envN, argE, List.flatMap_cons, List.flatMap_nil, Value.category, junk, oadd, osub, omul, oand, oor, oxor, odiv, orem, oshl, oshr, oushr, omax, omin]; simp [g1, g2, ly166]) (by simp only [f_mkF, w_sI, w_sR, w_sL, w_sC, w_sk, w_sbr, w_sco, w_rV, w_rI, w_rR, w_rL, w_dI, w_sO, w_sq, w_si, w_pI, w_pZ, w_pR, w_pU, w_qI, w_qB, w_qZ, w_qU, w_qR, w_kV, q_icst, q_lcst, q_xR, q_ldI, q_ldR, q_ldL, q_bn, q_un, q_dv, q_fI, q_fR, q_aI, q_aR, q_aN, q_tn, q_cmp, q_cmz, q_cnt, q_ctt, q_cand, q_cor, q_vn, q_vI, q_vR, q_vL, q_kI, q_kR, q_kL, q_ckI, envN, argE, List.flatMap_cons, List.flatMap_nil, Value.category, junk, oadd, osub, omul, oand, oor, oxor, odiv, orem, oshl, oshr, oushr, omax, omin]; simp) (by simp only [f_mkF, w_sI, w_sR, w_sL, w_sC, w_sk, w_sbr, w_sco, w_rV, w_rI, w_rR, w_rL, w_dI, w_sO, w_sq, w_si, w_pI, w_pZ, w_pR, w_pU, w_qI, w_qB, w_qZ, w_qU, w_qR, w_kV, q_icst, q_lcst, q_xR, q_ldI, q_ldR, q_ldL, q_bn, q_un, q_dv, q_fI, q_fR, q_aI, q_aR, q_aN, q_tn, q_cmp, q_cmz, q_cnt, q_ctt, q_cand, q_cor, q_vn, q_vI, q_vR, q_vL, q_kI, q_kR, q_kL, q_ckI, envN, argE, List.flatMap_cons, List.flatMap_nil, Value.category, junk, oadd, osub, omul, oand, oor, oxor, odiv, orem, oshl, oshr, oushr, omax, omin]; simp) (by omega) ly181 hj5 (by omega) ⟨rfl, rfl, fr0 q2 (by omega), fun k hk => ?_, fun x k hx => by rw [wI_i, if_neg (by omega)]; exact y2 x k hx⟩
        rw [wI_i]
        by_cases e : k = j
        · rw [if_pos ⟨rfl, e⟩]
        · rw [if_neg (by omega)]; exact z2 k (by omega)
      · have : j = 54 := by omega
        subst this
        refine ev_F ?_ ⟨rfl, (fun z => by cases z), fun _ => ⟨rfl, ⟨_, rfl, rfl⟩, q2, z2, y2⟩⟩
        simp only [f_mkF, w_sI, w_sR, w_sL, w_sC, w_sk, w_sbr, w_sco, w_rV, w_rI, w_rR, w_rL, w_dI, w_sO, w_sq, w_si, w_pI, w_pZ, w_pR, w_pU, w_qI, w_qB, w_qZ, w_qU, w_qR, w_kV, q_icst, q_lcst, q_xR, q_ldI, q_ldR, q_ldL, q_bn, q_un, q_dv, q_fI, q_fR, q_aI, q_aR, q_aN, q_tn, q_cmp, q_cmz, q_cnt, q_ctt, q_cand, q_cor, q_vn, q_vI, q_vR, q_vL, q_kI, q_kR, q_kL, q_ckI, envN, argE, List.flatMap_cons, List.flatMap_nil, Value.category, junk, oadd, osub, omul, oand, oor, oxor, odiv, orem, oshl, oshr, oushr, omax, omin]
        simp (disch := first | omega | simp) [rk_i, rk_b, rk_o, st1, kill, Value.category, rcv, nog, inI_b, nI_clamp, nI_ltI, nI_leI, nI_eq, nI_9, nI_6, nI_22, nI_12, nI_180, nI_add, nI_1, k54]
    · rintro j E h2 - - ⟨rfl, q2, e2⟩
      exact ⟨rfl, by simp [st1, kill, Value.category], q2, e2⟩
  rintro E2 h2 ⟨⟨v, rfl, cv⟩, q2, z2, y2⟩
  refine w_sqS (fun E1 h3 => HS 212 LG h3 ∧ (∀ k, k < 36 → h3.2.1 182 k = -1) ∧ ∀ x k, x ≠ 182 → h3.2.1 x k = h2.2.1 x k) ?_ ?_
  · refine w_sqI (E' := [.ref 166, .int (nI 0)]) (nI 0) (by simp only [f_mkF, w_sI, w_sR, w_sL, w_sC, w_sk, w_sbr, w_sco, w_rV, w_rI, w_rR, w_rL, w_dI, w_sO, w_sq, w_si, w_pI, w_pZ, w_pR, w_pU, w_qI, w_qB, w_qZ, w_qU, w_qR, w_kV, q_icst, q_lcst, q_xR, q_ldI, q_ldR, q_ldL, q_bn, q_un, q_dv, q_fI, q_fR, q_aI, q_aR, q_aN, q_tn, q_cmp, q_cmz, q_cnt, q_ctt, q_cand, q_cor, q_vn, q_vI, q_vR, q_vL, q_kI, q_kR, q_kL, q_ckI, envN, argE, List.flatMap_cons, List.flatMap_nil, Value.category, junk, oadd, osub, omul, oand, oor, oxor, odiv, orem, oshl, oshr, oushr, omax, omin]; simp [nI_0]) (by simp [st1, kill, Value.category]) ?_
    refine w_for (lo := 0) (hi := 36) (fun j E h' => E = [.ref 166, .int (nI j)] ∧ HS 212 LG h' ∧ (∀ k, k < j → h'.2.1 182 k = -1) ∧ ∀ x k, x ≠ 182 → h'.2.1 x k = h2.2.1 x k) (fun j E h' => E = [.ref 166, .int (nI j)] ∧ HS 212 LG h' ∧ (∀ k, k < j + 1 → h'.2.1 182 k = -1) ∧ ∀ x k, x ≠ 182 → h'.2.1 x k = h2.2.1 x k) (by omega) ⟨rfl, q2, fun k z => by omega, fun x k _ => rfl⟩ ?_ ?_
    · rintro j E h3 - hj ⟨rfl, q3, z3, y3⟩
      obtain ⟨g1, g2, g3⟩ := g0 h3 q3
      by_cases hj5 : j < 36
      · refine ev_T ?_ ⟨rfl, fun _ => ⟨hj5, ?_⟩, fun z => by cases z⟩
        · simp only [f_mkF, w_sI, w_sR, w_sL, w_sC, w_sk, w_sbr, w_sco, w_rV, w_rI, w_rR, w_rL, w_dI, w_sO, w_sq, w_si, w_pI, w_pZ, w_pR, w_pU, w_qI, w_qB, w_qZ, w_qU, w_qR, w_kV, q_icst, q_lcst, q_xR, q_ldI, q_ldR, q_ldL, q_bn, q_un, q_dv, q_fI, q_fR, q_aI, q_aR, q_aN, q_tn, q_cmp, q_cmz, q_cnt, q_ctt, q_cand, q_cor, q_vn, q_vI, q_vR, q_vL, q_kI, q_kR, q_kL, q_ckI, envN, argE, List.flatMap_cons, List.flatMap_nil, Value.category, junk, oadd, osub, omul, oand, oor, oxor, odiv, orem, oshl, oshr, oushr, omax, omin]
          simp (disch := first | omega | simp) [rk_i, rk_b, rk_o, st1, kill, Value.category, rcv, nog, inI_b, nI_clamp, nI_ltI, nI_leI, nI_eq, nI_9, nI_6, nI_22, nI_12, nI_180, nI_add, nI_1, k36, hj5]
        refine w_qIe 182 j (-1) (by simp only [f_mkF, w_sI, w_sR, w_sL, w_sC, w_sk, w_sbr, w_sco, w_rV, w_rI, w_rR, w_rL, w_dI, w_sO, w_sq, w_si, w_pI, w_pZ, w_pR, w_pU, w_qI, w_qB, w_qZ, w_qU, w_qR, w_kV, q_icst, q_lcst, q_xR, q_ldI, q_ldR, q_ldL, q_bn, q_un, q_dv, q_fI, q_fR, q_aI, q_aR, q_aN, q_tn, q_cmp, q_cmz, q_cnt, q_ctt, q_cand, q_cor, q_vn, q_vI, q_vR, q_vL, q_kI, q_kR, q_kL, q_ckI, envN, argE, List.flatMap_cons, List.flatMap_nil, Value.category, junk, oadd, osub, omul, oand, oor, oxor, odiv, orem, oshl, oshr, oushr, omax, omin]; simp [g1, g3, ly166]) (by simp only [f_mkF, w_sI, w_sR, w_sL, w_sC, w_sk, w_sbr, w_sco, w_rV, w_rI, w_rR, w_rL, w_dI, w_sO, w_sq, w_si, w_pI, w_pZ, w_pR, w_pU, w_qI, w_qB, w_qZ, w_qU, w_qR, w_kV, q_icst, q_lcst, q_xR, q_ldI, q_ldR, q_ldL, q_bn, q_un, q_dv, q_fI, q_fR, q_aI, q_aR, q_aN, q_tn, q_cmp, q_cmz, q_cnt, q_ctt, q_cand, q_cor, q_vn, q_vI, q_vR, q_vL, q_kI, q_kR, q_kL, q_ckI, envN, argE, List.flatMap_cons, List.flatMap_nil, Value.category, junk, oadd, osub, omul, oand, oor, oxor, odiv, orem, oshl, oshr, oushr, omax, omin]; simp) (by simp only [f_mkF, w_sI, w_sR, w_sL, w_sC, w_sk, w_sbr, w_sco, w_rV, w_rI, w_rR, w_rL, w_dI, w_sO, w_sq, w_si, w_pI, w_pZ, w_pR, w_pU, w_qI, w_qB, w_qZ, w_qU, w_qR, w_kV, q_icst, q_lcst, q_xR, q_ldI, q_ldR, q_ldL, q_bn, q_un, q_dv, q_fI, q_fR, q_aI, q_aR, q_aN, q_tn, q_cmp, q_cmz, q_cnt, q_ctt, q_cand, q_cor, q_vn, q_vI, q_vR, q_vL, q_kI, q_kR, q_kL, q_ckI, envN, argE, List.flatMap_cons, List.flatMap_nil, Value.category, junk, oadd, osub, omul, oand, oor, oxor, odiv, orem, oshl, oshr, oushr, omax, omin]; simp) (by omega) ly182 hj5 (by omega) ⟨rfl, rfl, fr0 q3 (by omega), fun k hk => ?_, fun x k hx => by rw [wI_i, if_neg (by omega)]; exact y3 x k hx⟩
        rw [wI_i]
        by_cases e : k = j
        · rw [if_pos ⟨rfl, e⟩]
        · rw [if_neg (by omega)]; exact z3 k (by omega)
      · have : j = 36 := by omega
        subst this
        refine ev_F ?_ ⟨rfl, (fun z => by cases z), fun _ => ⟨rfl, q3, z3, y3⟩⟩
        simp only [f_mkF, w_sI, w_sR, w_sL, w_sC, w_sk, w_sbr, w_sco, w_rV, w_rI, w_rR, w_rL, w_dI, w_sO, w_sq, w_si, w_pI, w_pZ, w_pR, w_pU, w_qI, w_qB, w_qZ, w_qU, w_qR, w_kV, q_icst, q_lcst, q_xR, q_ldI, q_ldR, q_ldL, q_bn, q_un, q_dv, q_fI, q_fR, q_aI, q_aR, q_aN, q_tn, q_cmp, q_cmz, q_cnt, q_ctt, q_cand, q_cor, q_vn, q_vI, q_vR, q_vL, q_kI, q_kR, q_kL, q_ckI, envN, argE, List.flatMap_cons, List.flatMap_nil, Value.category, junk, oadd, osub, omul, oand, oor, oxor, odiv, orem, oshl, oshr, oushr, omax, omin]
        simp (disch := first | omega | simp) [rk_i, rk_b, rk_o, st1, kill, Value.category, rcv, nog, inI_b, nI_clamp, nI_ltI, nI_leI, nI_eq, nI_9, nI_6, nI_22, nI_12, nI_180, nI_add, nI_1, k36]
    · rintro j E h2 - - ⟨rfl, q2, e2⟩
      exact ⟨rfl, by simp [st1, kill, Value.category], q2, e2⟩
  rintro E3 h3 ⟨q3, z3, y3⟩
  rw [w_rV]
  exact Or.inl ⟨rfl, rfl, rfl, q3, fun k hk => by rw [y3 _ _ (by omega)]; exact z2 k hk, z3, fun x k h1 h2 => by rw [y3 x k h2, y2 x k h1]⟩
