set_option maxRecDepth 20000 in
theorem lk11_147 : LKd RX11 147 TX11 1 := Or.inl (tb 925 (by decide +kernel) rfl)
set_option maxRecDepth 20000 in
theorem lk11_151 : LKd RX11 151 TX11 2 := Or.inl (tb 926 (by decide +kernel) rfl)
set_option maxRecDepth 20000 in
theorem ml11_154 : MLd RX11 154 yX11_isThing := Or.inl (tb 1139 (by decide +kernel) rfl)
set_option maxRecDepth 20000 in
theorem mv_X11_isThing : MVd yX11_isThing cX11_isThing 2 (some .boolean) 1 := ⟨tb 1141 (by decide +kernel) rfl, List.mem_filter.mpr ⟨tbp 72 (by decide +kernel), rfl⟩, tb 13 (by decide +kernel) rfl, tb 1142 (by decide +kernel) rfl, (by decide +kernel), Nat.le_of_ble_eq_true rfl⟩
set_option maxRecDepth 20000 in
theorem lk11_25 : LKd RX11 25 TX11 8 := Or.inl (tb 932 (by decide +kernel) rfl)
set_option maxRecDepth 20000 in
theorem lk11_158 : LKd RX11 158 TX11 0 := Or.inl (tb 924 (by decide +kernel) rfl)
set_option maxRecDepth 20000 in
theorem ml11_161 : MLd RX11 161 yX11_in := Or.inl (tb 1116 (by decide +kernel) rfl)
set_option maxRecDepth 20000 in
theorem ms_X11_in : MSd yX11_in cX11_in 3 (some .boolean) 3 := ⟨tb 1117 (by decide +kernel) rfl, tb 13 (by decide +kernel) rfl, tb 1118 (by decide +kernel) rfl, (by decide +kernel), Nat.le_of_ble_eq_true rfl⟩
set_option maxRecDepth 20000 in
theorem fn11_158 {ini : Bool} : FNd RX11 ini 158 TX11 0 := Or.inl ⟨rfl, lk11_158⟩
set_option maxRecDepth 20000 in
theorem ml11_165 : MLd RX11 165 yX11_isLand := Or.inl (tb 1123 (by decide +kernel) rfl)
set_option maxRecDepth 20000 in
theorem ms_X11_isLand : MSd yX11_isLand cX11_isLand 1 (some .boolean) 1 := ⟨tb 1124 (by decide +kernel) rfl, tb 13 (by decide +kernel) rfl, tb 1125 (by decide +kernel) rfl, (by decide +kernel), Nat.le_of_ble_eq_true rfl⟩
set_option maxRecDepth 20000 in
theorem kc_X11_168 : Cond.constant RX11 168 1000000 ∈ lw_tbl := List.mem_append_right _ (List.mem_of_getElem? (i := 1126) (by decide +kernel))
set_option maxRecDepth 20000 in
theorem lk11_7 : LKd RX11 7 TX11 3 := Or.inl (tb 927 (by decide +kernel) rfl)
set_option maxRecDepth 20000 in
theorem lk11_13 : LKd RX11 13 TX11 4 := Or.inl (tb 928 (by decide +kernel) rfl)
set_option maxRecDepth 20000 in
theorem fn11_147 {ini : Bool} : FNd RX11 ini 147 TX11 1 := Or.inl ⟨rfl, lk11_147⟩
set_option maxRecDepth 20000 in
theorem ml11_169 : MLd RX11 169 yX11_isPerson := Or.inl (tb 1131 (by decide +kernel) rfl)
set_option maxRecDepth 20000 in
theorem mv_X11_isPerson : MVd yX11_isPerson cX11_isPerson 2 (some .boolean) 1 := ⟨tb 1133 (by decide +kernel) rfl, List.mem_filter.mpr ⟨tbp 71 (by decide +kernel), rfl⟩, tb 13 (by decide +kernel) rfl, tb 1134 (by decide +kernel) rfl, (by decide +kernel), Nat.le_of_ble_eq_true rfl⟩
set_option maxRecDepth 20000 in
theorem lk11_16 : LKd RX11 16 TX11 5 := Or.inl (tb 929 (by decide +kernel) rfl)
set_option maxRecDepth 20000 in
theorem lk11_19 : LKd RX11 19 TX11 6 := Or.inl (tb 930 (by decide +kernel) rfl)
set_option maxRecDepth 20000 in
theorem lk11_22 : LKd RX11 22 TX11 7 := Or.inl (tb 931 (by decide +kernel) rfl)
set_option maxRecDepth 20000 in
theorem fn11_151 {ini : Bool} : FNd RX11 ini 151 TX11 2 := Or.inl ⟨rfl, lk11_151⟩
set_option maxRecDepth 20000 in
theorem lk11_31 : LKd RX11 31 TX11 10 := Or.inl (tb 934 (by decide +kernel) rfl)
set_option maxRecDepth 20000 in
theorem lk11_28 : LKd RX11 28 TX11 9 := Or.inl (tb 933 (by decide +kernel) rfl)
set_option maxRecDepth 20000 in
theorem lk11_34 : LKd RX11 34 TX11 11 := Or.inl (tb 935 (by decide +kernel) rfl)
set_option maxRecDepth 20000 in
theorem lk11_37 : LKd RX11 37 TX11 12 := Or.inl (tb 936 (by decide +kernel) rfl)
set_option maxRecDepth 20000 in
theorem lk11_40 : LKd RX11 40 TX11 13 := Or.inl (tb 937 (by decide +kernel) rfl)
set_option maxRecDepth 20000 in
theorem lk11_43 : LKd RX11 43 TX11 14 := Or.inl (tb 938 (by decide +kernel) rfl)
set_option maxRecDepth 20000 in
theorem lk11_46 : LKd RX11 46 TX11 15 := Or.inl (tb 939 (by decide +kernel) rfl)
set_option maxRecDepth 20000 in
theorem lk11_49 : LKd RX11 49 TX11 16 := Or.inl (tb 940 (by decide +kernel) rfl)
set_option maxRecDepth 20000 in
theorem ml11_172 : MLd RX11 172 yX11_isMind := Or.inl (tb 1143 (by decide +kernel) rfl)
set_option maxRecDepth 20000 in
theorem ms_X11_isMind : MSd yX11_isMind cX11_isMind 2 (some .boolean) 2 := ⟨tb 1144 (by decide +kernel) rfl, tb 13 (by decide +kernel) rfl, tb 1145 (by decide +kernel) rfl, (by decide +kernel), Nat.le_of_ble_eq_true rfl⟩
set_option maxRecDepth 20000 in
theorem ml11_176 : MLd RX11 176 yX11_fromOf := Or.inl (tb 1146 (by decide +kernel) rfl)
set_option maxRecDepth 20000 in
theorem mv_X11_fromOf : MVd yX11_fromOf cX11_fromOf 3 (some .int) 2 := ⟨tb 1148 (by decide +kernel) rfl, List.mem_filter.mpr ⟨tbp 73 (by decide +kernel), rfl⟩, tb 13 (by decide +kernel) rfl, tb 1149 (by decide +kernel) rfl, (by decide +kernel), Nat.le_of_ble_eq_true rfl⟩
set_option maxRecDepth 20000 in
theorem ml11_180 : MLd RX11 180 yX11_moves := Or.inl (tb 1150 (by decide +kernel) rfl)
set_option maxRecDepth 20000 in
theorem mv_X11_moves : MVd yX11_moves cX11_moves 3 none 2 := ⟨tb 1152 (by decide +kernel) rfl, List.mem_filter.mpr ⟨tbp 74 (by decide +kernel), rfl⟩, tb 13 (by decide +kernel) rfl, tb 1153 (by decide +kernel) rfl, (by decide +kernel), Nat.le_of_ble_eq_true rfl⟩
set_option maxRecDepth 20000 in
theorem ml11_184 : MLd RX11 184 yX11_puts := Or.inl (tb 1154 (by decide +kernel) rfl)
set_option maxRecDepth 20000 in
theorem mv_X11_puts : MVd yX11_puts cX11_puts 10 none 9 := ⟨tb 1156 (by decide +kernel) rfl, List.mem_filter.mpr ⟨tbp 75 (by decide +kernel), rfl⟩, tb 13 (by decide +kernel) rfl, tb 1157 (by decide +kernel) rfl, (by decide +kernel), Nat.le_of_ble_eq_true rfl⟩
set_option maxRecDepth 20000 in
theorem ml11_188 : MLd RX11 188 yX11_isPassing := Or.inl (tb 1162 (by decide +kernel) rfl)
set_option maxRecDepth 20000 in
theorem mv_X11_isPassing : MVd yX11_isPassing cX11_isPassing 3 (some .boolean) 2 := ⟨tb 1164 (by decide +kernel) rfl, List.mem_filter.mpr ⟨tbp 76 (by decide +kernel), rfl⟩, tb 13 (by decide +kernel) rfl, tb 1165 (by decide +kernel) rfl, (by decide +kernel), Nat.le_of_ble_eq_true rfl⟩
set_option maxRecDepth 20000 in
theorem ml11_191 : MLd RX11 191 yX11_holderOf := Or.inl (tb 1170 (by decide +kernel) rfl)
set_option maxRecDepth 20000 in
theorem mv_X11_holderOf : MVd yX11_holderOf cX11_holderOf 2 (some .int) 1 := ⟨tb 1172 (by decide +kernel) rfl, List.mem_filter.mpr ⟨tbp 77 (by decide +kernel), rfl⟩, tb 13 (by decide +kernel) rfl, tb 1173 (by decide +kernel) rfl, (by decide +kernel), Nat.le_of_ble_eq_true rfl⟩
set_option maxRecDepth 20000 in
theorem ml11_195 : MLd RX11 195 yX11_registered := Or.inl (tb 1178 (by decide +kernel) rfl)
set_option maxRecDepth 20000 in
theorem mv_X11_registered : MVd yX11_registered cX11_registered 5 (some .int) 2 := ⟨tb 1180 (by decide +kernel) rfl, List.mem_filter.mpr ⟨tbp 78 (by decide +kernel), rfl⟩, tb 13 (by decide +kernel) rfl, tb 1181 (by decide +kernel) rfl, (by decide +kernel), Nat.le_of_ble_eq_true rfl⟩
set_option maxRecDepth 20000 in
theorem lk11_52 : LKd RX11 52 TX11 17 := Or.inl (tb 941 (by decide +kernel) rfl)
set_option maxRecDepth 20000 in
theorem lk11_55 : LKd RX11 55 TX11 18 := Or.inl (tb 942 (by decide +kernel) rfl)
set_option maxRecDepth 20000 in
theorem lk11_58 : LKd RX11 58 TX11 19 := Or.inl (tb 943 (by decide +kernel) rfl)
set_option maxRecDepth 20000 in
theorem lk11_198 : LKd RX11 198 TX11 20 := Or.inl (tb 944 (by decide +kernel) rfl)
set_option maxRecDepth 20000 in
theorem fn11_198 {ini : Bool} : FNd RX11 ini 198 TX11 20 := Or.inl ⟨rfl, lk11_198⟩
set_option maxRecDepth 20000 in
theorem ml11_201 : MLd RX11 201 yX11_types := Or.inl (tb 1194 (by decide +kernel) rfl)
set_option maxRecDepth 20000 in
theorem mv_X11_types : MVd yX11_types cX11_types 3 none 1 := ⟨tb 1196 (by decide +kernel) rfl, List.mem_filter.mpr ⟨tbp 79 (by decide +kernel), rfl⟩, tb 13 (by decide +kernel) rfl, tb 1197 (by decide +kernel) rfl, (by decide +kernel), Nat.le_of_ble_eq_true rfl⟩
set_option maxRecDepth 20000 in
theorem lk11_205 : LKd RX11 205 TX11 21 := Or.inl (tb 945 (by decide +kernel) rfl)
set_option maxRecDepth 20000 in
theorem lk11_208 : LKd RX11 208 TX11 22 := Or.inl (tb 946 (by decide +kernel) rfl)
set_option maxRecDepth 20000 in
theorem ml11_211 : MLd RX11 211 yX11_here := Or.inl (tb 1206 (by decide +kernel) rfl)
set_option maxRecDepth 20000 in
theorem mv_X11_here : MVd yX11_here cX11_here 1 (some .int) 0 := ⟨tb 1208 (by decide +kernel) rfl, List.mem_filter.mpr ⟨tbp 81 (by decide +kernel), rfl⟩, tb 13 (by decide +kernel) rfl, tb 1209 (by decide +kernel) rfl, (by decide +kernel), Nat.le_of_ble_eq_true rfl⟩
set_option maxRecDepth 20000 in
theorem lk11_215 : LKd RX11 215 TX11 23 := Or.inl (tb 947 (by decide +kernel) rfl)
set_option maxRecDepth 20000 in
theorem fn11_215 {ini : Bool} : FNd RX11 ini 215 TX11 23 := Or.inl ⟨rfl, lk11_215⟩
set_option maxRecDepth 20000 in
theorem ml11_218 : MLd RX11 218 yX11_wrong := Or.inl (tb 1213 (by decide +kernel) rfl)
set_option maxRecDepth 20000 in
theorem mv_X11_wrong : MVd yX11_wrong cX11_wrong 3 (some .boolean) 2 := ⟨tb 1215 (by decide +kernel) rfl, List.mem_filter.mpr ⟨tbp 82 (by decide +kernel), rfl⟩, tb 13 (by decide +kernel) rfl, tb 1216 (by decide +kernel) rfl, (by decide +kernel), Nat.le_of_ble_eq_true rfl⟩
set_option maxRecDepth 20000 in
theorem fn11_205 {ini : Bool} : FNd RX11 ini 205 TX11 21 := Or.inl ⟨rfl, lk11_205⟩
set_option maxRecDepth 20000 in
theorem lk11_221 : LKd RX11 221 TX11 28 := Or.inl (tb 952 (by decide +kernel) rfl)
set_option maxRecDepth 20000 in
theorem fn11_221 {ini : Bool} : FNd RX11 ini 221 TX11 28 := Or.inl ⟨rfl, lk11_221⟩
set_option maxRecDepth 20000 in
theorem ml11_224 : MLd RX11 224 yX11_isDigit := Or.inl (tb 1238 (by decide +kernel) rfl)
set_option maxRecDepth 20000 in
theorem mv_X11_isDigit : MVd yX11_isDigit cX11_isDigit 1 (some .boolean) 0 := ⟨tb 1240 (by decide +kernel) rfl, List.mem_filter.mpr ⟨tbp 88 (by decide +kernel), rfl⟩, tb 13 (by decide +kernel) rfl, tb 1241 (by decide +kernel) rfl, (by decide +kernel), Nat.le_of_ble_eq_true rfl⟩
set_option maxRecDepth 20000 in
theorem lk11_62 : LKd RX11 62 TX11 29 := Or.inl (tb 953 (by decide +kernel) rfl)
set_option maxRecDepth 20000 in
theorem lk11_228 : LKd RX11 228 TX11 25 := Or.inl (tb 949 (by decide +kernel) rfl)
set_option maxRecDepth 20000 in
theorem kc_X11_231 : Cond.constant RX11 231 1048576 ∈ lw_tbl := List.mem_append_right _ (List.mem_of_getElem? (i := 1225) (by decide +kernel))
set_option maxRecDepth 20000 in
theorem fn11_228 {ini : Bool} : FNd RX11 ini 228 TX11 25 := Or.inl ⟨rfl, lk11_228⟩
set_option maxRecDepth 20000 in
theorem lk11_232 : LKd RX11 232 TX11 24 := Or.inl (tb 948 (by decide +kernel) rfl)
set_option maxRecDepth 20000 in
theorem fn11_232 {ini : Bool} : FNd RX11 ini 232 TX11 24 := Or.inl ⟨rfl, lk11_232⟩
set_option maxRecDepth 20000 in
theorem lk11_65 : LKd RX11 65 TX11 30 := Or.inl (tb 954 (by decide +kernel) rfl)
set_option maxRecDepth 20000 in
theorem lk11_235 : LKd RX11 235 TX11 26 := Or.inl (tb 950 (by decide +kernel) rfl)
set_option maxRecDepth 20000 in
theorem fn11_235 {ini : Bool} : FNd RX11 ini 235 TX11 26 := Or.inl ⟨rfl, lk11_235⟩
set_option maxRecDepth 20000 in
theorem ml11_238 : MLd RX11 238 yX11_top := Or.inl (tb 1260 (by decide +kernel) rfl)
set_option maxRecDepth 20000 in
theorem mv_X11_top : MVd yX11_top cX11_top 1 (some .int) 0 := ⟨tb 1262 (by decide +kernel) rfl, List.mem_filter.mpr ⟨tbp 92 (by decide +kernel), rfl⟩, tb 13 (by decide +kernel) rfl, tb 1263 (by decide +kernel) rfl, (by decide +kernel), Nat.le_of_ble_eq_true rfl⟩
set_option maxRecDepth 20000 in
theorem ml11_241 : MLd RX11 241 yX11_says := Or.inl (tb 1246 (by decide +kernel) rfl)
set_option maxRecDepth 20000 in
theorem mv_X11_says : MVd yX11_says cX11_says 3 none 2 := ⟨tb 1248 (by decide +kernel) rfl, List.mem_filter.mpr ⟨tbp 90 (by decide +kernel), rfl⟩, tb 13 (by decide +kernel) rfl, tb 1249 (by decide +kernel) rfl, (by decide +kernel), Nat.le_of_ble_eq_true rfl⟩
set_option maxRecDepth 20000 in
theorem ml11_244 : MLd RX11 244 yX11_opens := Or.inl (tb 1221 (by decide +kernel) rfl)
set_option maxRecDepth 20000 in
theorem mv_X11_opens : MVd yX11_opens cX11_opens 2 (some .boolean) 1 := ⟨tb 1223 (by decide +kernel) rfl, List.mem_filter.mpr ⟨tbp 84 (by decide +kernel), rfl⟩, tb 13 (by decide +kernel) rfl, tb 1224 (by decide +kernel) rfl, (by decide +kernel), Nat.le_of_ble_eq_true rfl⟩
set_option maxRecDepth 20000 in
theorem ml11_247 : MLd RX11 247 yX11_readsNumber := Or.inl (tb 1242 (by decide +kernel) rfl)
set_option maxRecDepth 20000 in
theorem mv_X11_readsNumber : MVd yX11_readsNumber cX11_readsNumber 2 (some .boolean) 0 := ⟨tb 1244 (by decide +kernel) rfl, List.mem_filter.mpr ⟨tbp 89 (by decide +kernel), rfl⟩, tb 13 (by decide +kernel) rfl, tb 1245 (by decide +kernel) rfl, (by decide +kernel), Nat.le_of_ble_eq_true rfl⟩
set_option maxRecDepth 20000 in
theorem ml11_250 : MLd RX11 250 yX11_factOf := Or.inl (tb 1250 (by decide +kernel) rfl)
set_option maxRecDepth 20000 in
theorem ms_X11_factOf : MSd yX11_factOf cX11_factOf 1 (some .int) 1 := ⟨tb 1251 (by decide +kernel) rfl, tb 13 (by decide +kernel) rfl, tb 1252 (by decide +kernel) rfl, (by decide +kernel), Nat.le_of_ble_eq_true rfl⟩
set_option maxRecDepth 20000 in
theorem ml11_253 : MLd RX11 253 yX11_readsFactor := Or.inl (tb 1234 (by decide +kernel) rfl)
set_option maxRecDepth 20000 in
theorem mv_X11_readsFactor : MVd yX11_readsFactor cX11_readsFactor 2 (some .boolean) 0 := ⟨tb 1236 (by decide +kernel) rfl, List.mem_filter.mpr ⟨tbp 87 (by decide +kernel), rfl⟩, tb 13 (by decide +kernel) rfl, tb 1237 (by decide +kernel) rfl, (by decide +kernel), Nat.le_of_ble_eq_true rfl⟩
set_option maxRecDepth 20000 in
theorem ml11_256 : MLd RX11 256 yX11_sumSign := Or.inl (tb 1253 (by decide +kernel) rfl)
set_option maxRecDepth 20000 in
theorem ms_X11_sumSign : MSd yX11_sumSign cX11_sumSign 1 (some .int) 1 := ⟨tb 1254 (by decide +kernel) rfl, tb 13 (by decide +kernel) rfl, tb 1255 (by decide +kernel) rfl, (by decide +kernel), Nat.le_of_ble_eq_true rfl⟩
set_option maxRecDepth 20000 in
theorem ml11_259 : MLd RX11 259 yX11_closesSums := Or.inl (tb 1256 (by decide +kernel) rfl)
set_option maxRecDepth 20000 in
theorem mv_X11_closesSums : MVd yX11_closesSums cX11_closesSums 2 none 1 := ⟨tb 1258 (by decide +kernel) rfl, List.mem_filter.mpr ⟨tbp 91 (by decide +kernel), rfl⟩, tb 13 (by decide +kernel) rfl, tb 1259 (by decide +kernel) rfl, (by decide +kernel), Nat.le_of_ble_eq_true rfl⟩
set_option maxRecDepth 20000 in
theorem ml11_263 : MLd RX11 263 yX11_hasOpenSum := Or.inl (tb 1264 (by decide +kernel) rfl)
set_option maxRecDepth 20000 in
theorem mv_X11_hasOpenSum : MVd yX11_hasOpenSum cX11_hasOpenSum 3 (some .boolean) 1 := ⟨tb 1266 (by decide +kernel) rfl, List.mem_filter.mpr ⟨tbp 93 (by decide +kernel), rfl⟩, tb 13 (by decide +kernel) rfl, tb 1267 (by decide +kernel) rfl, (by decide +kernel), Nat.le_of_ble_eq_true rfl⟩
set_option maxRecDepth 20000 in
theorem ml11_266 : MLd RX11 266 yX11_readsSum := Or.inl (tb 1230 (by decide +kernel) rfl)
set_option maxRecDepth 20000 in
theorem mv_X11_readsSum : MVd yX11_readsSum cX11_readsSum 3 (some .boolean) 0 := ⟨tb 1232 (by decide +kernel) rfl, List.mem_filter.mpr ⟨tbp 86 (by decide +kernel), rfl⟩, tb 13 (by decide +kernel) rfl, tb 1233 (by decide +kernel) rfl, (by decide +kernel), Nat.le_of_ble_eq_true rfl⟩
set_option maxRecDepth 20000 in
theorem ml11_269 : MLd RX11 269 yX11_endsPiece := Or.inl (tb 1268 (by decide +kernel) rfl)
set_option maxRecDepth 20000 in
theorem mv_X11_endsPiece : MVd yX11_endsPiece cX11_endsPiece 1 none 0 := ⟨tb 1270 (by decide +kernel) rfl, List.mem_filter.mpr ⟨tbp 94 (by decide +kernel), rfl⟩, tb 13 (by decide +kernel) rfl, tb 1271 (by decide +kernel) rfl, (by decide +kernel), Nat.le_of_ble_eq_true rfl⟩
set_option maxRecDepth 20000 in
theorem ml11_272 : MLd RX11 272 yX11_readsCompared := Or.inl (tb 1226 (by decide +kernel) rfl)
set_option maxRecDepth 20000 in
theorem mv_X11_readsCompared : MVd yX11_readsCompared cX11_readsCompared 2 (some .boolean) 0 := ⟨tb 1228 (by decide +kernel) rfl, List.mem_filter.mpr ⟨tbp 85 (by decide +kernel), rfl⟩, tb 13 (by decide +kernel) rfl, tb 1229 (by decide +kernel) rfl, (by decide +kernel), Nat.le_of_ble_eq_true rfl⟩
set_option maxRecDepth 20000 in
theorem ml11_275 : MLd RX11 275 yX11_lands := Or.inl (tb 1272 (by decide +kernel) rfl)
set_option maxRecDepth 20000 in
theorem mv_X11_lands : MVd yX11_lands cX11_lands 3 none 1 := ⟨tb 1274 (by decide +kernel) rfl, List.mem_filter.mpr ⟨tbp 95 (by decide +kernel), rfl⟩, tb 13 (by decide +kernel) rfl, tb 1275 (by decide +kernel) rfl, (by decide +kernel), Nat.le_of_ble_eq_true rfl⟩
set_option maxRecDepth 20000 in
theorem ml11_278 : MLd RX11 278 yX11_jumps := Or.inl (tb 1276 (by decide +kernel) rfl)
set_option maxRecDepth 20000 in
theorem mv_X11_jumps : MVd yX11_jumps cX11_jumps 2 none 1 := ⟨tb 1278 (by decide +kernel) rfl, List.mem_filter.mpr ⟨tbp 96 (by decide +kernel), rfl⟩, tb 13 (by decide +kernel) rfl, tb 1279 (by decide +kernel) rfl, (by decide +kernel), Nat.le_of_ble_eq_true rfl⟩
set_option maxRecDepth 20000 in
theorem ml11_281 : MLd RX11 281 yX11_isClauseLetter := Or.inl (tb 1210 (by decide +kernel) rfl)
set_option maxRecDepth 20000 in
theorem ms_X11_isClauseLetter : MSd yX11_isClauseLetter cX11_isClauseLetter 1 (some .boolean) 1 := ⟨tb 1211 (by decide +kernel) rfl, tb 13 (by decide +kernel) rfl, tb 1212 (by decide +kernel) rfl, (by decide +kernel), Nat.le_of_ble_eq_true rfl⟩
set_option maxRecDepth 20000 in
theorem lk11_284 : LKd RX11 284 TX11 27 := Or.inl (tb 951 (by decide +kernel) rfl)
set_option maxRecDepth 20000 in
theorem lk11_68 : LKd RX11 68 TX11 31 := Or.inl (tb 955 (by decide +kernel) rfl)
set_option maxRecDepth 20000 in
theorem lk11_71 : LKd RX11 71 TX11 32 := Or.inl (tb 956 (by decide +kernel) rfl)
set_option maxRecDepth 20000 in
theorem ml11_287 : MLd RX11 287 yX11_readsCondition := Or.inl (tb 1217 (by decide +kernel) rfl)
set_option maxRecDepth 20000 in
theorem mv_X11_readsCondition : MVd yX11_readsCondition cX11_readsCondition 1 (some .boolean) 0 := ⟨tb 1219 (by decide +kernel) rfl, List.mem_filter.mpr ⟨tbp 83 (by decide +kernel), rfl⟩, tb 13 (by decide +kernel) rfl, tb 1220 (by decide +kernel) rfl, (by decide +kernel), Nat.le_of_ble_eq_true rfl⟩
set_option maxRecDepth 20000 in
theorem lk11_74 : LKd RX11 74 TX11 33 := Or.inl (tb 957 (by decide +kernel) rfl)
set_option maxRecDepth 20000 in
theorem fn11_284 {ini : Bool} : FNd RX11 ini 284 TX11 27 := Or.inl ⟨rfl, lk11_284⟩
set_option maxRecDepth 20000 in
theorem fn11_208 {ini : Bool} : FNd RX11 ini 208 TX11 22 := Or.inl ⟨rfl, lk11_208⟩
set_option maxRecDepth 20000 in
theorem ml11_290 : MLd RX11 290 yX11_readsClause := Or.inl (tb 1202 (by decide +kernel) rfl)
set_option maxRecDepth 20000 in
theorem mv_X11_readsClause : MVd yX11_readsClause cX11_readsClause 1 (some .boolean) 0 := ⟨tb 1204 (by decide +kernel) rfl, List.mem_filter.mpr ⟨tbp 80 (by decide +kernel), rfl⟩, tb 13 (by decide +kernel) rfl, tb 1205 (by decide +kernel) rfl, (by decide +kernel), Nat.le_of_ble_eq_true rfl⟩
set_option maxRecDepth 20000 in
theorem ml11_293 : MLd RX11 293 yX11_takes := Or.inl (tb 1280 (by decide +kernel) rfl)
set_option maxRecDepth 20000 in
theorem mv_X11_takes : MVd yX11_takes cX11_takes 2 (some .boolean) 1 := ⟨tb 1282 (by decide +kernel) rfl, List.mem_filter.mpr ⟨tbp 97 (by decide +kernel), rfl⟩, tb 13 (by decide +kernel) rfl, tb 1283 (by decide +kernel) rfl, (by decide +kernel), Nat.le_of_ble_eq_true rfl⟩
set_option maxRecDepth 20000 in
theorem lk11_80 : LKd RX11 80 TX11 35 := Or.inl (tb 959 (by decide +kernel) rfl)
set_option maxRecDepth 20000 in
theorem lk11_77 : LKd RX11 77 TX11 34 := Or.inl (tb 958 (by decide +kernel) rfl)
set_option maxRecDepth 20000 in
theorem lk11_83 : LKd RX11 83 TX11 36 := Or.inl (tb 960 (by decide +kernel) rfl)
set_option maxRecDepth 20000 in
theorem lk11_86 : LKd RX11 86 TX11 37 := Or.inl (tb 961 (by decide +kernel) rfl)
set_option maxRecDepth 20000 in
theorem lk11_89 : LKd RX11 89 TX11 38 := Or.inl (tb 962 (by decide +kernel) rfl)
set_option maxRecDepth 20000 in
theorem lk11_92 : LKd RX11 92 TX11 39 := Or.inl (tb 963 (by decide +kernel) rfl)
set_option maxRecDepth 20000 in
theorem lk11_95 : LKd RX11 95 TX11 40 := Or.inl (tb 964 (by decide +kernel) rfl)
set_option maxRecDepth 20000 in
theorem ml11_296 : MLd RX11 296 yX11_reckon := Or.inl (tb 1327 (by decide +kernel) rfl)
set_option maxRecDepth 20000 in
theorem ms_X11_reckon : MSd yX11_reckon cX11_reckon 3 (some .int) 3 := ⟨tb 1328 (by decide +kernel) rfl, tb 13 (by decide +kernel) rfl, tb 1329 (by decide +kernel) rfl, (by decide +kernel), Nat.le_of_ble_eq_true rfl⟩
set_option maxRecDepth 20000 in
theorem lk11_300 : LKd RX11 300 TX11 50 := Or.inl (tb 974 (by decide +kernel) rfl)
set_option maxRecDepth 20000 in
theorem fn11_300 {ini : Bool} : FNd RX11 ini 300 TX11 50 := Or.inl ⟨rfl, lk11_300⟩
set_option maxRecDepth 20000 in
theorem ml11_304 : MLd RX11 304 yX11_target := Or.inl (tb 1315 (by decide +kernel) rfl)
set_option maxRecDepth 20000 in
theorem mv_X11_target : MVd yX11_target cX11_target 7 (some .int) 5 := ⟨tb 1317 (by decide +kernel) rfl, List.mem_filter.mpr ⟨tbp 104 (by decide +kernel), rfl⟩, tb 13 (by decide +kernel) rfl, tb 1318 (by decide +kernel) rfl, (by decide +kernel), Nat.le_of_ble_eq_true rfl⟩
set_option maxRecDepth 20000 in
theorem lk11_308 : LKd RX11 308 TX11 41 := Or.inl (tb 965 (by decide +kernel) rfl)
set_option maxRecDepth 20000 in
theorem ml11_311 : MLd RX11 311 yX11_isTrue := Or.inl (tb 1323 (by decide +kernel) rfl)
set_option maxRecDepth 20000 in
theorem mv_X11_isTrue : MVd yX11_isTrue cX11_isTrue 7 (some .boolean) 1 := ⟨tb 1325 (by decide +kernel) rfl, List.mem_filter.mpr ⟨tbp 106 (by decide +kernel), rfl⟩, tb 13 (by decide +kernel) rfl, tb 1326 (by decide +kernel) rfl, (by decide +kernel), Nat.le_of_ble_eq_true rfl⟩
set_option maxRecDepth 20000 in
theorem lk11_98 : LKd RX11 98 TX11 42 := Or.inl (tb 966 (by decide +kernel) rfl)
set_option maxRecDepth 20000 in
theorem lk11_104 : LKd RX11 104 TX11 44 := Or.inl (tb 968 (by decide +kernel) rfl)
set_option maxRecDepth 20000 in
theorem lk11_107 : LKd RX11 107 TX11 45 := Or.inl (tb 969 (by decide +kernel) rfl)
set_option maxRecDepth 20000 in
theorem lk11_110 : LKd RX11 110 TX11 46 := Or.inl (tb 970 (by decide +kernel) rfl)
set_option maxRecDepth 20000 in
theorem ml11_314 : MLd RX11 314 yX11_feels := Or.inl (tb 1307 (by decide +kernel) rfl)
set_option maxRecDepth 20000 in
theorem mv_X11_feels : MVd yX11_feels cX11_feels 9 none 7 := ⟨tb 1309 (by decide +kernel) rfl, List.mem_filter.mpr ⟨tbp 102 (by decide +kernel), rfl⟩, tb 13 (by decide +kernel) rfl, tb 1310 (by decide +kernel) rfl, (by decide +kernel), Nat.le_of_ble_eq_true rfl⟩
set_option maxRecDepth 20000 in
theorem ml11_318 : MLd RX11 318 yX11_ruler := Or.inl (tb 1311 (by decide +kernel) rfl)
set_option maxRecDepth 20000 in
theorem mv_X11_ruler : MVd yX11_ruler cX11_ruler 9 (some .int) 5 := ⟨tb 1313 (by decide +kernel) rfl, List.mem_filter.mpr ⟨tbp 103 (by decide +kernel), rfl⟩, tb 13 (by decide +kernel) rfl, tb 1314 (by decide +kernel) rfl, (by decide +kernel), Nat.le_of_ble_eq_true rfl⟩
set_option maxRecDepth 20000 in
theorem ml11_321 : MLd RX11 321 yX11_hasSuch := Or.inl (tb 1319 (by decide +kernel) rfl)
set_option maxRecDepth 20000 in
theorem mv_X11_hasSuch : MVd yX11_hasSuch cX11_hasSuch 4 (some .boolean) 2 := ⟨tb 1321 (by decide +kernel) rfl, List.mem_filter.mpr ⟨tbp 105 (by decide +kernel), rfl⟩, tb 13 (by decide +kernel) rfl, tb 1322 (by decide +kernel) rfl, (by decide +kernel), Nat.le_of_ble_eq_true rfl⟩
set_option maxRecDepth 20000 in
theorem lk11_101 : LKd RX11 101 TX11 43 := Or.inl (tb 967 (by decide +kernel) rfl)
set_option maxRecDepth 20000 in
theorem ml11_324 : MLd RX11 324 yX11_letterBy := Or.inl (tb 1300 (by decide +kernel) rfl)
set_option maxRecDepth 20000 in
theorem ms_X11_letterBy : MSd yX11_letterBy cX11_letterBy 1 (some .int) 1 := ⟨tb 1301 (by decide +kernel) rfl, tb 13 (by decide +kernel) rfl, tb 1302 (by decide +kernel) rfl, (by decide +kernel), Nat.le_of_ble_eq_true rfl⟩
set_option maxRecDepth 20000 in
theorem ml11_327 : MLd RX11 327 yX11_gives := Or.inl (tb 1303 (by decide +kernel) rfl)
set_option maxRecDepth 20000 in
theorem mv_X11_gives : MVd yX11_gives cX11_gives 7 (some .boolean) 6 := ⟨tb 1305 (by decide +kernel) rfl, List.mem_filter.mpr ⟨tbp 101 (by decide +kernel), rfl⟩, tb 13 (by decide +kernel) rfl, tb 1306 (by decide +kernel) rfl, (by decide +kernel), Nat.le_of_ble_eq_true rfl⟩
set_option maxRecDepth 20000 in
theorem lk11_113 : LKd RX11 113 TX11 47 := Or.inl (tb 971 (by decide +kernel) rfl)
set_option maxRecDepth 20000 in
theorem lk11_119 : LKd RX11 119 TX11 49 := Or.inl (tb 973 (by decide +kernel) rfl)
set_option maxRecDepth 20000 in
theorem lk11_116 : LKd RX11 116 TX11 48 := Or.inl (tb 972 (by decide +kernel) rfl)
set_option maxRecDepth 20000 in
theorem lk11_331 : LKd RX11 331 TX11 51 := Or.inl (tb 975 (by decide +kernel) rfl)
set_option maxRecDepth 20000 in
theorem fn11_331 {ini : Bool} : FNd RX11 ini 331 TX11 51 := Or.inl ⟨rfl, lk11_331⟩
set_option maxRecDepth 20000 in
theorem fn11_308 {ini : Bool} : FNd RX11 ini 308 TX11 41 := Or.inl ⟨rfl, lk11_308⟩
set_option maxRecDepth 20000 in
theorem ml11_334 : MLd RX11 334 yX11_leastMinds := Or.inl (tb 1292 (by decide +kernel) rfl)
set_option maxRecDepth 20000 in
theorem mv_X11_leastMinds : MVd yX11_leastMinds cX11_leastMinds 3 none 1 := ⟨tb 1294 (by decide +kernel) rfl, List.mem_filter.mpr ⟨tbp 99 (by decide +kernel), rfl⟩, tb 13 (by decide +kernel) rfl, tb 1295 (by decide +kernel) rfl, (by decide +kernel), Nat.le_of_ble_eq_true rfl⟩
set_option maxRecDepth 20000 in
theorem ml11_337 : MLd RX11 337 yX11_works := Or.inl (tb 1296 (by decide +kernel) rfl)
set_option maxRecDepth 20000 in
theorem mv_X11_works : MVd yX11_works cX11_works 16 none 3 := ⟨tb 1298 (by decide +kernel) rfl, List.mem_filter.mpr ⟨tbp 100 (by decide +kernel), rfl⟩, tb 13 (by decide +kernel) rfl, tb 1299 (by decide +kernel) rfl, (by decide +kernel), Nat.le_of_ble_eq_true rfl⟩
set_option maxRecDepth 20000 in
theorem ml11_341 : MLd RX11 341 yX11_judges := Or.inl (tb 1288 (by decide +kernel) rfl)
set_option maxRecDepth 20000 in
theorem mv_X11_judges : MVd yX11_judges cX11_judges 3 none 2 := ⟨tb 1290 (by decide +kernel) rfl, List.mem_filter.mpr ⟨tbp 98 (by decide +kernel), rfl⟩, tb 13 (by decide +kernel) rfl, tb 1291 (by decide +kernel) rfl, (by decide +kernel), Nat.le_of_ble_eq_true rfl⟩
set_option maxRecDepth 20000 in
theorem ml11_344 : MLd RX11 344 yX11_canJudge := Or.inl (tb 1334 (by decide +kernel) rfl)
set_option maxRecDepth 20000 in
theorem mv_X11_canJudge : MVd yX11_canJudge cX11_canJudge 3 (some .boolean) 2 := ⟨tb 1336 (by decide +kernel) rfl, List.mem_filter.mpr ⟨tbp 107 (by decide +kernel), rfl⟩, tb 13 (by decide +kernel) rfl, tb 1337 (by decide +kernel) rfl, (by decide +kernel), Nat.le_of_ble_eq_true rfl⟩
set_option maxRecDepth 20000 in
theorem lk11_347 : LKd RX11 347 TX11 52 := Or.inl (tb 976 (by decide +kernel) rfl)
set_option maxRecDepth 20000 in
theorem fn11_347 {ini : Bool} : FNd RX11 ini 347 TX11 52 := Or.inl ⟨rfl, lk11_347⟩
set_option maxRecDepth 20000 in
theorem lk11_126 : LKd RX11 126 TX11 54 := Or.inl (tb 978 (by decide +kernel) rfl)
set_option maxRecDepth 20000 in
theorem lk11_123 : LKd RX11 123 TX11 53 := Or.inl (tb 977 (by decide +kernel) rfl)
set_option maxRecDepth 20000 in
theorem lk11_129 : LKd RX11 129 TX11 55 := Or.inl (tb 979 (by decide +kernel) rfl)
set_option maxRecDepth 20000 in
theorem ml11_350 : MLd RX11 350 yX11_triesAll := Or.inl (tb 1350 (by decide +kernel) rfl)
set_option maxRecDepth 20000 in
theorem mv_X11_triesAll : MVd yX11_triesAll cX11_triesAll 7 (some .boolean) 2 := ⟨tb 1352 (by decide +kernel) rfl, List.mem_filter.mpr ⟨tbp 108 (by decide +kernel), rfl⟩, tb 13 (by decide +kernel) rfl, tb 1353 (by decide +kernel) rfl, (by decide +kernel), Nat.le_of_ble_eq_true rfl⟩
set_option maxRecDepth 20000 in
theorem lk11_132 : LKd RX11 132 TX11 57 := Or.inl (tb 981 (by decide +kernel) rfl)
set_option maxRecDepth 20000 in
theorem lk11_135 : LKd RX11 135 TX11 58 := Or.inl (tb 982 (by decide +kernel) rfl)
set_option maxRecDepth 20000 in
theorem lk11_138 : LKd RX11 138 TX11 59 := Or.inl (tb 983 (by decide +kernel) rfl)
set_option maxRecDepth 20000 in
theorem lk11_353 : LKd RX11 353 TX11 56 := Or.inl (tb 980 (by decide +kernel) rfl)
set_option maxRecDepth 20000 in
theorem fn11_353 {ini : Bool} : FNd RX11 ini 353 TX11 56 := Or.inl ⟨rfl, lk11_353⟩
set_option maxRecDepth 20000 in
theorem ml11_356 : MLd RX11 356 yX11_asks := Or.inl (tb 1362 (by decide +kernel) rfl)
set_option maxRecDepth 20000 in
theorem mv_X11_asks : MVd yX11_asks cX11_asks 6 none 2 := ⟨tb 1364 (by decide +kernel) rfl, List.mem_filter.mpr ⟨tbp 109 (by decide +kernel), rfl⟩, tb 13 (by decide +kernel) rfl, tb 1365 (by decide +kernel) rfl, (by decide +kernel), Nat.le_of_ble_eq_true rfl⟩
set_option maxRecDepth 20000 in
theorem kc_X11_359 : Cond.constant RX11 359 (-2000000000) ∈ lw_tbl := List.mem_append_right _ (List.mem_of_getElem? (i := 1374) (by decide +kernel))
set_option maxRecDepth 20000 in
theorem ml11_360 : MLd RX11 360 yX11_whose := Or.inl (tb 1379 (by decide +kernel) rfl)
set_option maxRecDepth 20000 in
theorem mv_X11_whose : MVd yX11_whose cX11_whose 3 (some .int) 2 := ⟨tb 1331 (by decide +kernel) rfl, tb 1332 (by decide +kernel) rfl, tb 13 (by decide +kernel) rfl, tb 1333 (by decide +kernel) rfl, (by decide +kernel), Nat.le_of_ble_eq_true rfl⟩
set_option maxRecDepth 20000 in
theorem lk11_141 : LKd RX11 141 TX11 60 := Or.inl (tb 984 (by decide +kernel) rfl)
set_option maxRecDepth 20000 in
theorem ml11_363 : MLd RX11 363 yX11_canSteal := Or.inl (tb 1384 (by decide +kernel) rfl)
set_option maxRecDepth 20000 in
theorem mv_X11_canSteal : MVd yX11_canSteal cX11_canSteal 6 (some .boolean) 5 := ⟨tb 1386 (by decide +kernel) rfl, List.mem_filter.mpr ⟨tbp 110 (by decide +kernel), rfl⟩, tb 13 (by decide +kernel) rfl, tb 1387 (by decide +kernel) rfl, (by decide +kernel), Nat.le_of_ble_eq_true rfl⟩
set_option maxRecDepth 20000 in
theorem ml11_367 : MLd RX11 367 yX11_goes := Or.inl (tb 1388 (by decide +kernel) rfl)
set_option maxRecDepth 20000 in
theorem mv_X11_goes : MVd yX11_goes cX11_goes 6 none 1 := ⟨tb 1390 (by decide +kernel) rfl, List.mem_filter.mpr ⟨tbp 111 (by decide +kernel), rfl⟩, tb 13 (by decide +kernel) rfl, tb 1391 (by decide +kernel) rfl, (by decide +kernel), Nat.le_of_ble_eq_true rfl⟩
set_option maxRecDepth 20000 in
theorem ml11_370 : MLd RX11 370 yX11_makes := Or.inl (tb 1392 (by decide +kernel) rfl)
set_option maxRecDepth 20000 in
theorem mv_X11_makes : MVd yX11_makes cX11_makes 8 (some .boolean) 6 := ⟨tb 1394 (by decide +kernel) rfl, List.mem_filter.mpr ⟨tbp 112 (by decide +kernel), rfl⟩, tb 13 (by decide +kernel) rfl, tb 1395 (by decide +kernel) rfl, (by decide +kernel), Nat.le_of_ble_eq_true rfl⟩
set_option maxRecDepth 20000 in
theorem lk11_144 : LKd RX11 144 TX11 61 := Or.inl (tb 985 (by decide +kernel) rfl)
set_option maxRecDepth 20000 in
theorem kc_X11_373 : Cond.constant RX11 373 100000 ∈ lw_tbl := List.mem_append_right _ (List.mem_of_getElem? (i := 1400) (by decide +kernel))
set_option maxRecDepth 20000 in
theorem ml11_374 : MLd RX11 374 yX11_bits := Or.inl (tb 1401 (by decide +kernel) rfl)
set_option maxRecDepth 20000 in
theorem ms_X11_bits : MSd yX11_bits cX11_bits 3 (some .int) 1 := ⟨tb 1402 (by decide +kernel) rfl, tb 13 (by decide +kernel) rfl, tb 1403 (by decide +kernel) rfl, (by decide +kernel), Nat.le_of_ble_eq_true rfl⟩
set_option maxRecDepth 20000 in
theorem ml11_377 : MLd RX11 377 yX11_isStopped := Or.inl (tb 1404 (by decide +kernel) rfl)
set_option maxRecDepth 20000 in
theorem mv_X11_isStopped : MVd yX11_isStopped cX11_isStopped 8 (some .boolean) 6 := ⟨tb 1406 (by decide +kernel) rfl, List.mem_filter.mpr ⟨tbp 113 (by decide +kernel), rfl⟩, tb 13 (by decide +kernel) rfl, tb 1407 (by decide +kernel) rfl, (by decide +kernel), Nat.le_of_ble_eq_true rfl⟩
set_option maxRecDepth 20000 in
theorem ml11_380 : MLd RX11 380 yX11_tapeNumber := Or.inl (tb 1412 (by decide +kernel) rfl)
set_option maxRecDepth 20000 in
theorem mv_X11_tapeNumber : MVd yX11_tapeNumber cX11_tapeNumber 4 (some .int) 1 := ⟨tb 1414 (by decide +kernel) rfl, List.mem_filter.mpr ⟨tbp 114 (by decide +kernel), rfl⟩, tb 13 (by decide +kernel) rfl, tb 1415 (by decide +kernel) rfl, (by decide +kernel), Nat.le_of_ble_eq_true rfl⟩
