set_option maxRecDepth 20000 in
theorem oi0_3 : Cond.methodLink RX0 3 Lib.objectInit ∈ TWL := tb 312 (by decide +kernel) rfl
set_option maxRecDepth 20000 in
theorem oiw : Cond.instanceMethod Lib.objectInit ∈ TWL ∧ Cond.code Lib.objectInit ⟨#[0xb1]⟩ 1 none ∈ TWL := ⟨tb 28 (by decide +kernel) rfl, tb 29 (by decide +kernel) rfl⟩
set_option maxRecDepth 20000 in
theorem lk0_9 : LKd RX0 9 TX0 1 := Or.inl (tb 314 (by decide +kernel) rfl)
set_option maxRecDepth 20000 in
theorem fn0_9 : FNd RX0 true 9 TX0 1 := Or.inr ⟨rfl, rfl, rfl, tb 314 (by decide +kernel) rfl⟩
set_option maxRecDepth 20000 in
theorem lk0_15 : LKd RX0 15 TX0 2 := Or.inl (tb 316 (by decide +kernel) rfl)
set_option maxRecDepth 20000 in
theorem fn0_15 : FNd RX0 true 15 TX0 2 := Or.inr ⟨rfl, rfl, rfl, tb 316 (by decide +kernel) rfl⟩
set_option maxRecDepth 20000 in
theorem lk0_18 : LKd RX0 18 TX0 3 := Or.inl (tb 318 (by decide +kernel) rfl)
set_option maxRecDepth 20000 in
theorem fn0_18 : FNd RX0 true 18 TX0 3 := Or.inr ⟨rfl, rfl, rfl, tb 318 (by decide +kernel) rfl⟩
set_option maxRecDepth 20000 in
theorem lk0_21 : LKd RX0 21 TX0 0 := Or.inl (tb 313 (by decide +kernel) rfl)
set_option maxRecDepth 20000 in
theorem fn0_21 : FNd RX0 true 21 TX0 0 := Or.inr ⟨rfl, rfl, rfl, tb 313 (by decide +kernel) rfl⟩
set_option maxRecDepth 20000 in
theorem lk0_25 : LKd RX0 25 TX1 12 := Or.inr ⟨"StolenCup", tb 246 (by decide +kernel) rfl⟩
set_option maxRecDepth 20000 in
theorem ml0_31 : MLd RX0 31 yJ7_fill_53178 := Or.inl (tb 802 (by decide +kernel) rfl)
set_option maxRecDepth 20000 in
theorem ms_J7_fill_53178 : MSd yJ7_fill_53178 cJ7_fill_53178 4 none 2 := ⟨tb 61 (by decide +kernel) rfl, tb 4 (by decide +kernel) rfl, tb 62 (by decide +kernel) rfl, (by decide +kernel), Nat.le_of_ble_eq_true rfl⟩
set_option maxRecDepth 20000 in
theorem lk0_37 : LKd RX0 37 TX0 4 := Or.inl (tb 319 (by decide +kernel) rfl)
set_option maxRecDepth 20000 in
theorem fn0_37 {ini : Bool} : FNd RX0 ini 37 TX0 4 := Or.inl ⟨rfl, lk0_37⟩
set_option maxRecDepth 20000 in
theorem lk0_41 : LKd RX0 41 TX9 1 := Or.inr ⟨"StolenCup", tb 165 (by decide +kernel) rfl⟩
set_option maxRecDepth 20000 in
theorem ml0_46 : MLd RX0 46 yX1_ownerNow := Or.inr ⟨"StolenCup", tb 803 (by decide +kernel) rfl⟩
set_option maxRecDepth 20000 in
theorem mv_X1_ownerNow : MVd yX1_ownerNow cX1_ownerNow 1 (some .int) 0 := ⟨tb 716 (by decide +kernel) rfl, List.mem_filter.mpr ⟨tbp 46 (by decide +kernel), rfl⟩, tb 9 (by decide +kernel) rfl, tb 717 (by decide +kernel) rfl, (by decide +kernel), Nat.le_of_ble_eq_true rfl⟩
set_option maxRecDepth 20000 in
theorem ml0_50 : MLd RX0 50 yX9_holder := Or.inr ⟨"StolenCup", tb 804 (by decide +kernel) rfl⟩
set_option maxRecDepth 20000 in
theorem mv_X9_holder : MVd yX9_holder cX9_holder 1 (some .int) 0 := ⟨tb 738 (by decide +kernel) rfl, List.mem_filter.mpr ⟨tbp 47 (by decide +kernel), rfl⟩, tb 6 (by decide +kernel) rfl, tb 739 (by decide +kernel) rfl, (by decide +kernel), Nat.le_of_ble_eq_true rfl⟩
set_option maxRecDepth 20000 in
theorem lk0_53 : LKd RX0 53 TX9 0 := Or.inr ⟨"StolenCup", tb 159 (by decide +kernel) rfl⟩
set_option maxRecDepth 20000 in
theorem lk0_57 : LKd RX0 57 TX5 0 := Or.inr ⟨"StolenCup", tb 117 (by decide +kernel) rfl⟩
set_option maxRecDepth 20000 in
theorem ml0_62 : MLd RX0 62 yX1_isClaimHolding := Or.inr ⟨"StolenCup", tb 805 (by decide +kernel) rfl⟩
set_option maxRecDepth 20000 in
theorem mv_X1_isClaimHolding : MVd yX1_isClaimHolding cX1_isClaimHolding 5 (some .boolean) 2 := ⟨tb 807 (by decide +kernel) rfl, List.mem_filter.mpr ⟨tbp 57 (by decide +kernel), rfl⟩, tb 9 (by decide +kernel) rfl, tb 808 (by decide +kernel) rfl, (by decide +kernel), Nat.le_of_ble_eq_true rfl⟩
set_option maxRecDepth 20000 in
theorem lk0_66 : LKd RX0 66 TX5 4 := Or.inr ⟨"StolenCup", tb 130 (by decide +kernel) rfl⟩
set_option maxRecDepth 20000 in
theorem ac0_69 : Cond.methodLink RX0 69 arraycopyName ∈ TWL := tb 809 (by decide +kernel) rfl
set_option maxRecDepth 20000 in
theorem acw : Cond.native arraycopyName ∈ TWL ∧ Cond.static arraycopyName ∈ TWL ∧ Cond.initialized "java/lang/System" ∈ TWL := ⟨tb 811 (by decide +kernel) rfl, tb 810 (by decide +kernel) rfl, tb 20 (by decide +kernel) rfl⟩
set_option maxRecDepth 20000 in
theorem ml0_75 : MLd RX0 75 yX0_isAskedBack := Or.inl (tb 812 (by decide +kernel) rfl)
set_option maxRecDepth 20000 in
theorem mv_X0_isAskedBack : MVd yX0_isAskedBack cX0_isAskedBack 4 (some .boolean) 1 := ⟨tb 814 (by decide +kernel) rfl, List.mem_filter.mpr ⟨tbp 58 (by decide +kernel), rfl⟩, tb 12 (by decide +kernel) rfl, tb 815 (by decide +kernel) rfl, (by decide +kernel), Nat.le_of_ble_eq_true rfl⟩
set_option maxRecDepth 20000 in
theorem ml0_79 : MLd RX0 79 yX0_askBack := Or.inl (tb 818 (by decide +kernel) rfl)
set_option maxRecDepth 20000 in
theorem mv_X0_askBack : MVd yX0_askBack cX0_askBack 3 none 1 := ⟨tb 820 (by decide +kernel) rfl, List.mem_filter.mpr ⟨tbp 59 (by decide +kernel), rfl⟩, tb 12 (by decide +kernel) rfl, tb 821 (by decide +kernel) rfl, (by decide +kernel), Nat.le_of_ble_eq_true rfl⟩
set_option maxRecDepth 20000 in
theorem ml0_83 : MLd RX0 83 yX9_fromWhom := Or.inr ⟨"StolenCup", tb 816 (by decide +kernel) rfl⟩
set_option maxRecDepth 20000 in
theorem mv_X9_fromWhom : MVd yX9_fromWhom cX9_fromWhom 2 (some .int) 1 := ⟨tb 422 (by decide +kernel) rfl, List.mem_filter.mpr ⟨tbp 4 (by decide +kernel), rfl⟩, tb 6 (by decide +kernel) rfl, tb 423 (by decide +kernel) rfl, (by decide +kernel), Nat.le_of_ble_eq_true rfl⟩
set_option maxRecDepth 20000 in
theorem ml0_87 : MLd RX0 87 yX1_ownerAhead := Or.inr ⟨"StolenCup", tb 817 (by decide +kernel) rfl⟩
set_option maxRecDepth 20000 in
theorem mv_X1_ownerAhead : MVd yX1_ownerAhead cX1_ownerAhead 2 (some .int) 1 := ⟨tb 699 (by decide +kernel) rfl, List.mem_filter.mpr ⟨tbp 42 (by decide +kernel), rfl⟩, tb 9 (by decide +kernel) rfl, tb 700 (by decide +kernel) rfl, (by decide +kernel), Nat.le_of_ble_eq_true rfl⟩
set_option maxRecDepth 20000 in
theorem mm0_90 : Cond.methodLink RX0 90 Lib.Math.min.name ∈ TWL := tb 822 (by decide +kernel) rfl
set_option maxRecDepth 20000 in
theorem mm0_96 : Cond.methodLink RX0 96 Lib.Math.max.name ∈ TWL := tb 836 (by decide +kernel) rfl
set_option maxRecDepth 20000 in
theorem lk0_99 : LKd RX0 99 TX5 1 := Or.inr ⟨"StolenCup", tb 123 (by decide +kernel) rfl⟩
set_option maxRecDepth 20000 in
theorem lk0_102 : LKd RX0 102 TX9 3 := Or.inr ⟨"StolenCup", tb 173 (by decide +kernel) rfl⟩
set_option maxRecDepth 20000 in
theorem lk0_105 : LKd RX0 105 TX9 2 := Or.inr ⟨"StolenCup", tb 169 (by decide +kernel) rfl⟩
set_option maxRecDepth 20000 in
theorem oi1_3 : Cond.methodLink RX1 3 Lib.objectInit ∈ TWL := tb 215 (by decide +kernel) rfl
set_option maxRecDepth 20000 in
theorem nw1_9 : NWd RX1 9 RX6 2 tyX6 := ⟨tb 216 (by decide +kernel) rfl, tb 217 (by decide +kernel) rfl, tb 10 (by decide +kernel) rfl, by decide +kernel⟩
set_option maxRecDepth 20000 in
theorem ml1_11 : MLd RX1 11 yX6_init := Or.inr ⟨"StolenCup", tb 218 (by decide +kernel) rfl⟩
set_option maxRecDepth 20000 in
theorem mi_X6_init : MId yX6_init cX6_init 1 0 := ⟨rfl, tb 219 (by decide +kernel) rfl, tb 10 (by decide +kernel) rfl, tb 220 (by decide +kernel) rfl, (by decide +kernel), Nat.le_of_ble_eq_true rfl⟩
set_option maxRecDepth 20000 in
theorem lk1_12 : LKd RX1 12 TX1 3 := Or.inl (tb 233 (by decide +kernel) rfl)
set_option maxRecDepth 20000 in
theorem fn1_12 : FNd RX1 true 12 TX1 3 := Or.inr ⟨rfl, rfl, rfl, tb 233 (by decide +kernel) rfl⟩
set_option maxRecDepth 20000 in
theorem lk1_18 : LKd RX1 18 TX1 4 := Or.inl (tb 234 (by decide +kernel) rfl)
set_option maxRecDepth 20000 in
theorem fn1_18 : FNd RX1 true 18 TX1 4 := Or.inr ⟨rfl, rfl, rfl, tb 234 (by decide +kernel) rfl⟩
set_option maxRecDepth 20000 in
theorem lk1_22 : LKd RX1 22 TX1 5 := Or.inl (tb 235 (by decide +kernel) rfl)
set_option maxRecDepth 20000 in
theorem fn1_22 : FNd RX1 true 22 TX1 5 := Or.inr ⟨rfl, rfl, rfl, tb 235 (by decide +kernel) rfl⟩
set_option maxRecDepth 20000 in
theorem lk1_25 : LKd RX1 25 TX1 6 := Or.inl (tb 237 (by decide +kernel) rfl)
set_option maxRecDepth 20000 in
theorem fn1_25 : FNd RX1 true 25 TX1 6 := Or.inr ⟨rfl, rfl, rfl, tb 237 (by decide +kernel) rfl⟩
set_option maxRecDepth 20000 in
theorem lk1_28 : LKd RX1 28 TX1 7 := Or.inl (tb 239 (by decide +kernel) rfl)
set_option maxRecDepth 20000 in
theorem fn1_28 : FNd RX1 true 28 TX1 7 := Or.inr ⟨rfl, rfl, rfl, tb 239 (by decide +kernel) rfl⟩
set_option maxRecDepth 20000 in
theorem lk1_31 : LKd RX1 31 TX1 8 := Or.inl (tb 241 (by decide +kernel) rfl)
set_option maxRecDepth 20000 in
theorem fn1_31 : FNd RX1 true 31 TX1 8 := Or.inr ⟨rfl, rfl, rfl, tb 241 (by decide +kernel) rfl⟩
set_option maxRecDepth 20000 in
theorem lk1_34 : LKd RX1 34 TX1 9 := Or.inl (tb 242 (by decide +kernel) rfl)
set_option maxRecDepth 20000 in
theorem fn1_34 : FNd RX1 true 34 TX1 9 := Or.inr ⟨rfl, rfl, rfl, tb 242 (by decide +kernel) rfl⟩
set_option maxRecDepth 20000 in
theorem lk1_37 : LKd RX1 37 TX1 0 := Or.inl (tb 230 (by decide +kernel) rfl)
set_option maxRecDepth 20000 in
theorem fn1_37 : FNd RX1 true 37 TX1 0 := Or.inr ⟨rfl, rfl, rfl, tb 230 (by decide +kernel) rfl⟩
set_option maxRecDepth 20000 in
theorem lk1_40 : LKd RX1 40 TX1 1 := Or.inl (tb 231 (by decide +kernel) rfl)
set_option maxRecDepth 20000 in
theorem fn1_40 : FNd RX1 true 40 TX1 1 := Or.inr ⟨rfl, rfl, rfl, tb 231 (by decide +kernel) rfl⟩
set_option maxRecDepth 20000 in
theorem lk1_44 : LKd RX1 44 TX1 2 := Or.inl (tb 232 (by decide +kernel) rfl)
set_option maxRecDepth 20000 in
theorem fn1_44 : FNd RX1 true 44 TX1 2 := Or.inr ⟨rfl, rfl, rfl, tb 232 (by decide +kernel) rfl⟩
set_option maxRecDepth 20000 in
theorem lk1_48 : LKd RX1 48 TX1 12 := Or.inl (tb 245 (by decide +kernel) rfl)
set_option maxRecDepth 20000 in
theorem fn1_48 {ini : Bool} : FNd RX1 ini 48 TX1 12 := Or.inl ⟨rfl, lk1_48⟩
set_option maxRecDepth 20000 in
theorem lk1_52 : LKd RX1 52 TX1 10 := Or.inl (tb 243 (by decide +kernel) rfl)
set_option maxRecDepth 20000 in
theorem fn1_52 {ini : Bool} : FNd RX1 ini 52 TX1 10 := Or.inl ⟨rfl, lk1_52⟩
set_option maxRecDepth 20000 in
theorem lk1_56 : LKd RX1 56 TX1 11 := Or.inl (tb 244 (by decide +kernel) rfl)
set_option maxRecDepth 20000 in
theorem fn1_56 {ini : Bool} : FNd RX1 ini 56 TX1 11 := Or.inl ⟨rfl, lk1_56⟩
set_option maxRecDepth 20000 in
theorem lk1_59 : LKd RX1 59 TX1 13 := Or.inl (tb 248 (by decide +kernel) rfl)
set_option maxRecDepth 20000 in
theorem fn1_59 {ini : Bool} : FNd RX1 ini 59 TX1 13 := Or.inl ⟨rfl, lk1_59⟩
set_option maxRecDepth 20000 in
theorem lk1_62 : LKd RX1 62 TX1 14 := Or.inl (tb 249 (by decide +kernel) rfl)
set_option maxRecDepth 20000 in
theorem fn1_62 {ini : Bool} : FNd RX1 ini 62 TX1 14 := Or.inl ⟨rfl, lk1_62⟩
set_option maxRecDepth 20000 in
theorem lk1_65 : LKd RX1 65 TX9 1 := Or.inr ⟨"StolenCup", tb 166 (by decide +kernel) rfl⟩
set_option maxRecDepth 20000 in
theorem lk1_70 : LKd RX1 70 TX9 0 := Or.inr ⟨"StolenCup", tb 160 (by decide +kernel) rfl⟩
set_option maxRecDepth 20000 in
theorem lk1_74 : LKd RX1 74 TX5 6 := Or.inr ⟨"StolenCup", tb 134 (by decide +kernel) rfl⟩
set_option maxRecDepth 20000 in
theorem ml1_79 : MLd RX1 79 yX1_handOver := Or.inl (tb 644 (by decide +kernel) rfl)
set_option maxRecDepth 20000 in
theorem mv_X1_handOver : MVd yX1_handOver cX1_handOver 8 (some .int) 3 := ⟨tb 646 (by decide +kernel) rfl, List.mem_filter.mpr ⟨tbp 31 (by decide +kernel), rfl⟩, tb 9 (by decide +kernel) rfl, tb 647 (by decide +kernel) rfl, (by decide +kernel), Nat.le_of_ble_eq_true rfl⟩
set_option maxRecDepth 20000 in
theorem lk1_83 : LKd RX1 83 TX5 1 := Or.inr ⟨"StolenCup", tb 122 (by decide +kernel) rfl⟩
set_option maxRecDepth 20000 in
theorem ml1_86 : MLd RX1 86 yX9_fromWhom := Or.inr ⟨"StolenCup", tb 648 (by decide +kernel) rfl⟩
set_option maxRecDepth 20000 in
theorem ml1_90 : MLd RX1 90 yX1_ownerAhead := Or.inl (tb 697 (by decide +kernel) rfl)
set_option maxRecDepth 20000 in
theorem ml1_93 : MLd RX1 93 yX1_waitBehind := Or.inl (tb 705 (by decide +kernel) rfl)
set_option maxRecDepth 20000 in
theorem mv_X1_waitBehind : MVd yX1_waitBehind cX1_waitBehind 5 (some .int) 3 := ⟨tb 707 (by decide +kernel) rfl, List.mem_filter.mpr ⟨tbp 44 (by decide +kernel), rfl⟩, tb 9 (by decide +kernel) rfl, tb 708 (by decide +kernel) rfl, (by decide +kernel), Nat.le_of_ble_eq_true rfl⟩
set_option maxRecDepth 20000 in
theorem lk1_96 : LKd RX1 96 TX1 15 := Or.inl (tb 251 (by decide +kernel) rfl)
set_option maxRecDepth 20000 in
theorem ml1_99 : MLd RX1 99 yX1_ownerIn := Or.inl (tb 701 (by decide +kernel) rfl)
set_option maxRecDepth 20000 in
theorem mv_X1_ownerIn : MVd yX1_ownerIn cX1_ownerIn 3 (some .int) 2 := ⟨tb 703 (by decide +kernel) rfl, List.mem_filter.mpr ⟨tbp 43 (by decide +kernel), rfl⟩, tb 9 (by decide +kernel) rfl, tb 704 (by decide +kernel) rfl, (by decide +kernel), Nat.le_of_ble_eq_true rfl⟩
set_option maxRecDepth 20000 in
theorem lk1_103 : LKd RX1 103 TX5 0 := Or.inr ⟨"StolenCup", tb 118 (by decide +kernel) rfl⟩
set_option maxRecDepth 20000 in
theorem ml1_106 : MLd RX1 106 yX1_givesTitle := Or.inl (tb 649 (by decide +kernel) rfl)
set_option maxRecDepth 20000 in
theorem mv_X1_givesTitle : MVd yX1_givesTitle cX1_givesTitle 8 (some .boolean) 3 := ⟨tb 651 (by decide +kernel) rfl, List.mem_filter.mpr ⟨tbp 32 (by decide +kernel), rfl⟩, tb 9 (by decide +kernel) rfl, tb 652 (by decide +kernel) rfl, (by decide +kernel), Nat.le_of_ble_eq_true rfl⟩
set_option maxRecDepth 20000 in
theorem fn1_96 {ini : Bool} : FNd RX1 ini 96 TX1 15 := Or.inl ⟨rfl, lk1_96⟩
set_option maxRecDepth 20000 in
theorem ml1_110 : MLd RX1 110 yX10_isWithin := Or.inr ⟨"StolenCup", tb 709 (by decide +kernel) rfl⟩
set_option maxRecDepth 20000 in
theorem ms_X10_isWithin : MSd yX10_isWithin cX10_isWithin 3 (some .boolean) 3 := ⟨tb 383 (by decide +kernel) rfl, tb 1 (by decide +kernel) rfl, tb 384 (by decide +kernel) rfl, (by decide +kernel), Nat.le_of_ble_eq_true rfl⟩
set_option maxRecDepth 20000 in
theorem ml1_113 : MLd RX1 113 yX1_findMonth := Or.inl (tb 710 (by decide +kernel) rfl)
set_option maxRecDepth 20000 in
theorem mv_X1_findMonth : MVd yX1_findMonth cX1_findMonth 8 (some .int) 3 := ⟨tb 712 (by decide +kernel) rfl, List.mem_filter.mpr ⟨tbp 45 (by decide +kernel), rfl⟩, tb 9 (by decide +kernel) rfl, tb 713 (by decide +kernel) rfl, (by decide +kernel), Nat.le_of_ble_eq_true rfl⟩
set_option maxRecDepth 20000 in
theorem sl_X1_116 : Cond.fieldLinkNest RX1 116 RX10 "CLAUSE_OF_KIND" "[I" "StolenCup" ∈ TWL := tb 653 (by decide +kernel) rfl
set_option maxRecDepth 20000 in
theorem ml1_119 : MLd RX1 119 yX1_askedLand := Or.inl (tb 655 (by decide +kernel) rfl)
set_option maxRecDepth 20000 in
theorem mv_X1_askedLand : MVd yX1_askedLand cX1_askedLand 5 (some .int) 3 := ⟨tb 657 (by decide +kernel) rfl, List.mem_filter.mpr ⟨tbp 33 (by decide +kernel), rfl⟩, tb 9 (by decide +kernel) rfl, tb 658 (by decide +kernel) rfl, (by decide +kernel), Nat.le_of_ble_eq_true rfl⟩
set_option maxRecDepth 20000 in
theorem ml1_122 : MLd RX1 122 yX3_has := Or.inr ⟨"StolenCup", tb 667 (by decide +kernel) rfl⟩
set_option maxRecDepth 20000 in
theorem mv_X3_has : MVd yX3_has cX3_has 3 (some .boolean) 1 := ⟨tb 669 (by decide +kernel) rfl, List.mem_filter.mpr ⟨tbp 36 (by decide +kernel), rfl⟩, tb 5 (by decide +kernel) rfl, tb 670 (by decide +kernel) rfl, (by decide +kernel), Nat.le_of_ble_eq_true rfl⟩
set_option maxRecDepth 20000 in
theorem ml1_128 : MLd RX1 128 yX1_setLetters := Or.inl (tb 671 (by decide +kernel) rfl)
set_option maxRecDepth 20000 in
theorem mv_X1_setLetters : MVd yX1_setLetters cX1_setLetters 7 none 3 := ⟨tb 673 (by decide +kernel) rfl, List.mem_filter.mpr ⟨tbp 37 (by decide +kernel), rfl⟩, tb 9 (by decide +kernel) rfl, tb 674 (by decide +kernel) rfl, (by decide +kernel), Nat.le_of_ble_eq_true rfl⟩
set_option maxRecDepth 20000 in
theorem ml1_132 : MLd RX1 132 yX6_isOneHolding := Or.inr ⟨"StolenCup", tb 685 (by decide +kernel) rfl⟩
set_option maxRecDepth 20000 in
theorem mv_X6_isOneHolding : MVd yX6_isOneHolding cX6_isOneHolding 4 (some .boolean) 2 := ⟨tb 687 (by decide +kernel) rfl, List.mem_filter.mpr ⟨tbp 40 (by decide +kernel), rfl⟩, tb 10 (by decide +kernel) rfl, tb 688 (by decide +kernel) rfl, (by decide +kernel), Nat.le_of_ble_eq_true rfl⟩
set_option maxRecDepth 20000 in
theorem lk1_136 : LKd RX1 136 TX5 3 := Or.inr ⟨"StolenCup", tb 129 (by decide +kernel) rfl⟩
set_option maxRecDepth 20000 in
theorem lk1_139 : LKd RX1 139 TX6 0 := Or.inr ⟨"StolenCup", tb 223 (by decide +kernel) rfl⟩
set_option maxRecDepth 20000 in
theorem ml1_142 : MLd RX1 142 yX5_sign := Or.inr ⟨"StolenCup", tb 675 (by decide +kernel) rfl⟩
set_option maxRecDepth 20000 in
theorem mv_X5_sign : MVd yX5_sign cX5_sign 2 (some .int) 1 := ⟨tb 677 (by decide +kernel) rfl, List.mem_filter.mpr ⟨tbp 38 (by decide +kernel), rfl⟩, tb 7 (by decide +kernel) rfl, tb 678 (by decide +kernel) rfl, (by decide +kernel), Nat.le_of_ble_eq_true rfl⟩
set_option maxRecDepth 20000 in
theorem ml1_145 : MLd RX1 145 yX9_registeredAhead := Or.inr ⟨"StolenCup", tb 679 (by decide +kernel) rfl⟩
set_option maxRecDepth 20000 in
theorem mv_X9_registeredAhead : MVd yX9_registeredAhead cX9_registeredAhead 3 (some .int) 1 := ⟨tb 681 (by decide +kernel) rfl, List.mem_filter.mpr ⟨tbp 39 (by decide +kernel), rfl⟩, tb 6 (by decide +kernel) rfl, tb 682 (by decide +kernel) rfl, (by decide +kernel), Nat.le_of_ble_eq_true rfl⟩
set_option maxRecDepth 20000 in
theorem lk1_148 : LKd RX1 148 TX5 4 := Or.inr ⟨"StolenCup", tb 132 (by decide +kernel) rfl⟩
set_option maxRecDepth 20000 in
theorem lk1_151 : LKd RX1 151 TX9 2 := Or.inr ⟨"StolenCup", tb 170 (by decide +kernel) rfl⟩
set_option maxRecDepth 20000 in
theorem lk1_154 : LKd RX1 154 TX5 2 := Or.inr ⟨"StolenCup", tb 125 (by decide +kernel) rfl⟩
set_option maxRecDepth 20000 in
theorem ml1_155 : MLd RX1 155 yX1_rulingLand := Or.inl (tb 659 (by decide +kernel) rfl)
set_option maxRecDepth 20000 in
theorem mv_X1_rulingLand : MVd yX1_rulingLand cX1_rulingLand 8 (some .int) 3 := ⟨tb 661 (by decide +kernel) rfl, List.mem_filter.mpr ⟨tbp 34 (by decide +kernel), rfl⟩, tb 9 (by decide +kernel) rfl, tb 662 (by decide +kernel) rfl, (by decide +kernel), Nat.le_of_ble_eq_true rfl⟩
set_option maxRecDepth 20000 in
theorem ml1_158 : MLd RX1 158 yX1_landSentTo := Or.inl (tb 663 (by decide +kernel) rfl)
set_option maxRecDepth 20000 in
theorem mv_X1_landSentTo : MVd yX1_landSentTo cX1_landSentTo 5 (some .int) 4 := ⟨tb 665 (by decide +kernel) rfl, List.mem_filter.mpr ⟨tbp 35 (by decide +kernel), rfl⟩, tb 9 (by decide +kernel) rfl, tb 666 (by decide +kernel) rfl, (by decide +kernel), Nat.le_of_ble_eq_true rfl⟩
set_option maxRecDepth 20000 in
theorem lk1_162 : LKd RX1 162 TX9 4 := Or.inr ⟨"StolenCup", tb 175 (by decide +kernel) rfl⟩
set_option maxRecDepth 20000 in
theorem oi2_3 : Cond.methodLink RX2 3 Lib.objectInit ∈ TWL := tb 290 (by decide +kernel) rfl
set_option maxRecDepth 20000 in
theorem lk2_9 : LKd RX2 9 TX2 1 := Or.inl (tb 292 (by decide +kernel) rfl)
set_option maxRecDepth 20000 in
theorem fn2_9 : FNd RX2 true 9 TX2 1 := Or.inr ⟨rfl, rfl, rfl, tb 292 (by decide +kernel) rfl⟩
set_option maxRecDepth 20000 in
theorem lk2_15 : LKd RX2 15 TX2 2 := Or.inl (tb 293 (by decide +kernel) rfl)
set_option maxRecDepth 20000 in
theorem fn2_15 : FNd RX2 true 15 TX2 2 := Or.inr ⟨rfl, rfl, rfl, tb 293 (by decide +kernel) rfl⟩
set_option maxRecDepth 20000 in
theorem lk2_18 : LKd RX2 18 TX2 3 := Or.inl (tb 294 (by decide +kernel) rfl)
set_option maxRecDepth 20000 in
theorem fn2_18 {ini : Bool} : FNd RX2 ini 18 TX2 3 := Or.inl ⟨rfl, lk2_18⟩
set_option maxRecDepth 20000 in
theorem lk2_21 : LKd RX2 21 TX2 4 := Or.inl (tb 295 (by decide +kernel) rfl)
set_option maxRecDepth 20000 in
theorem fn2_21 {ini : Bool} : FNd RX2 ini 21 TX2 4 := Or.inl ⟨rfl, lk2_21⟩
set_option maxRecDepth 20000 in
theorem lk2_24 : LKd RX2 24 TX2 0 := Or.inl (tb 291 (by decide +kernel) rfl)
set_option maxRecDepth 20000 in
theorem fn2_24 : FNd RX2 true 24 TX2 0 := Or.inr ⟨rfl, rfl, rfl, tb 291 (by decide +kernel) rfl⟩
set_option maxRecDepth 20000 in
theorem ml2_28 : MLd RX2 28 yX2_spread := Or.inl (tb 757 (by decide +kernel) rfl)
set_option maxRecDepth 20000 in
theorem mv_X2_spread : MVd yX2_spread cX2_spread 7 none 0 := ⟨tb 759 (by decide +kernel) rfl, List.mem_filter.mpr ⟨tbp 50 (by decide +kernel), rfl⟩, tb 11 (by decide +kernel) rfl, tb 760 (by decide +kernel) rfl, (by decide +kernel), Nat.le_of_ble_eq_true rfl⟩
set_option maxRecDepth 20000 in
theorem lk2_31 : LKd RX2 31 TX1 12 := Or.inr ⟨"StolenCup", tb 247 (by decide +kernel) rfl⟩
set_option maxRecDepth 20000 in
theorem lk2_37 : LKd RX2 37 TX9 1 := Or.inr ⟨"StolenCup", tb 164 (by decide +kernel) rfl⟩
set_option maxRecDepth 20000 in
theorem ml2_43 : MLd RX2 43 yX1_ownerIn := Or.inr ⟨"StolenCup", tb 763 (by decide +kernel) rfl⟩
set_option maxRecDepth 20000 in
theorem ml2_47 : MLd RX2 47 yX2_isDecisive := Or.inl (tb 772 (by decide +kernel) rfl)
set_option maxRecDepth 20000 in
theorem mv_X2_isDecisive : MVd yX2_isDecisive cX2_isDecisive 6 (some .boolean) 1 := ⟨tb 774 (by decide +kernel) rfl, List.mem_filter.mpr ⟨tbp 52 (by decide +kernel), rfl⟩, tb 11 (by decide +kernel) rfl, tb 775 (by decide +kernel) rfl, (by decide +kernel), Nat.le_of_ble_eq_true rfl⟩
set_option maxRecDepth 20000 in
theorem lk2_51 : LKd RX2 51 TX9 0 := Or.inr ⟨"StolenCup", tb 161 (by decide +kernel) rfl⟩
set_option maxRecDepth 20000 in
theorem lk2_55 : LKd RX2 55 TX5 6 := Or.inr ⟨"StolenCup", tb 136 (by decide +kernel) rfl⟩
set_option maxRecDepth 20000 in
theorem lk2_60 : LKd RX2 60 TX5 7 := Or.inr ⟨"StolenCup", tb 139 (by decide +kernel) rfl⟩
set_option maxRecDepth 20000 in
theorem ml2_63 : MLd RX2 63 yX1_handOver := Or.inr ⟨"StolenCup", tb 761 (by decide +kernel) rfl⟩
set_option maxRecDepth 20000 in
theorem ml2_67 : MLd RX2 67 yX1_waitBehind := Or.inr ⟨"StolenCup", tb 762 (by decide +kernel) rfl⟩
set_option maxRecDepth 20000 in
theorem ml2_70 : MLd RX2 70 yJ7_fill_53178 := Or.inl (tb 776 (by decide +kernel) rfl)
set_option maxRecDepth 20000 in
theorem ml2_76 : MLd RX2 76 yX2_nextOf := Or.inl (tb 777 (by decide +kernel) rfl)
set_option maxRecDepth 20000 in
theorem mv_X2_nextOf : MVd yX2_nextOf cX2_nextOf 4 (some .int) 3 := ⟨tb 779 (by decide +kernel) rfl, List.mem_filter.mpr ⟨tbp 53 (by decide +kernel), rfl⟩, tb 11 (by decide +kernel) rfl, tb 780 (by decide +kernel) rfl, (by decide +kernel), Nat.le_of_ble_eq_true rfl⟩
set_option maxRecDepth 20000 in
theorem ml2_79 : MLd RX2 79 yX2_pair := Or.inl (tb 781 (by decide +kernel) rfl)
set_option maxRecDepth 20000 in
theorem ms_X2_pair : MSd yX2_pair cX2_pair 3 none 3 := ⟨tb 782 (by decide +kernel) rfl, tb 11 (by decide +kernel) rfl, tb 783 (by decide +kernel) rfl, (by decide +kernel), Nat.le_of_ble_eq_true rfl⟩
set_option maxRecDepth 20000 in
theorem ml2_83 : MLd RX2 83 yX2_movePairs := Or.inl (tb 786 (by decide +kernel) rfl)
set_option maxRecDepth 20000 in
theorem mv_X2_movePairs : MVd yX2_movePairs cX2_movePairs 6 none 1 := ⟨tb 788 (by decide +kernel) rfl, List.mem_filter.mpr ⟨tbp 54 (by decide +kernel), rfl⟩, tb 11 (by decide +kernel) rfl, tb 789 (by decide +kernel) rfl, (by decide +kernel), Nat.le_of_ble_eq_true rfl⟩
set_option maxRecDepth 20000 in
theorem ml2_87 : MLd RX2 87 yX2_isOnePairLeft := Or.inl (tb 790 (by decide +kernel) rfl)
set_option maxRecDepth 20000 in
theorem mv_X2_isOnePairLeft : MVd yX2_isOnePairLeft cX2_isOnePairLeft 2 (some .boolean) 0 := ⟨tb 792 (by decide +kernel) rfl, List.mem_filter.mpr ⟨tbp 55 (by decide +kernel), rfl⟩, tb 11 (by decide +kernel) rfl, tb 793 (by decide +kernel) rfl, (by decide +kernel), Nat.le_of_ble_eq_true rfl⟩
set_option maxRecDepth 20000 in
theorem mm2_91 : Cond.methodLink RX2 91 Lib.Math.min.name ∈ TWL := tb 784 (by decide +kernel) rfl
set_option maxRecDepth 20000 in
theorem mm2_96 : Cond.methodLink RX2 96 Lib.Math.max.name ∈ TWL := tb 785 (by decide +kernel) rfl
set_option maxRecDepth 20000 in
theorem lk3_24 : LKd RX3 24 TX3 5 := Or.inl (tb 87 (by decide +kernel) rfl)
set_option maxRecDepth 20000 in
theorem lk3_18 : LKd RX3 18 TX3 2 := Or.inl (tb 80 (by decide +kernel) rfl)
set_option maxRecDepth 20000 in
theorem lk3_21 : LKd RX3 21 TX3 3 := Or.inl (tb 82 (by decide +kernel) rfl)
set_option maxRecDepth 20000 in
theorem lk3_28 : LKd RX3 28 TX3 4 := Or.inl (tb 86 (by decide +kernel) rfl)
set_option maxRecDepth 20000 in
theorem fn3_24 {ini : Bool} : FNd RX3 ini 24 TX3 5 := Or.inl ⟨rfl, lk3_24⟩
set_option maxRecDepth 20000 in
theorem lk3_9 : LKd RX3 9 TX3 0 := Or.inl (tb 76 (by decide +kernel) rfl)
set_option maxRecDepth 20000 in
theorem lk3_15 : LKd RX3 15 TX3 1 := Or.inl (tb 78 (by decide +kernel) rfl)
set_option maxRecDepth 20000 in
theorem fn3_28 {ini : Bool} : FNd RX3 ini 28 TX3 4 := Or.inl ⟨rfl, lk3_28⟩
set_option maxRecDepth 20000 in
theorem ml3_31 : MLd RX3 31 yX10_isWithin := Or.inr ⟨"StolenCup", tb 623 (by decide +kernel) rfl⟩
set_option maxRecDepth 20000 in
theorem oi3_3 : Cond.methodLink RX3 3 Lib.objectInit ∈ TWL := tb 75 (by decide +kernel) rfl
set_option maxRecDepth 20000 in
theorem fn3_9 : FNd RX3 true 9 TX3 0 := Or.inr ⟨rfl, rfl, rfl, tb 76 (by decide +kernel) rfl⟩
set_option maxRecDepth 20000 in
theorem fn3_15 : FNd RX3 true 15 TX3 1 := Or.inr ⟨rfl, rfl, rfl, tb 78 (by decide +kernel) rfl⟩
set_option maxRecDepth 20000 in
theorem fn3_18 : FNd RX3 true 18 TX3 2 := Or.inr ⟨rfl, rfl, rfl, tb 80 (by decide +kernel) rfl⟩
set_option maxRecDepth 20000 in
theorem fn3_21 : FNd RX3 true 21 TX3 3 := Or.inr ⟨rfl, rfl, rfl, tb 82 (by decide +kernel) rfl⟩
set_option maxRecDepth 20000 in
theorem oi4_3 : Cond.methodLink RX4 3 Lib.objectInit ∈ TWL := tb 193 (by decide +kernel) rfl
set_option maxRecDepth 20000 in
theorem lk4_9 : LKd RX4 9 TX4 0 := Or.inl (tb 194 (by decide +kernel) rfl)
set_option maxRecDepth 20000 in
theorem fn4_9 : FNd RX4 true 9 TX4 0 := Or.inr ⟨rfl, rfl, rfl, tb 194 (by decide +kernel) rfl⟩
set_option maxRecDepth 20000 in
theorem lk4_15 : LKd RX4 15 TX4 4 := Or.inl (tb 198 (by decide +kernel) rfl)
set_option maxRecDepth 20000 in
theorem fn4_15 {ini : Bool} : FNd RX4 ini 15 TX4 4 := Or.inl ⟨rfl, lk4_15⟩
set_option maxRecDepth 20000 in
theorem mm4_19 : Cond.methodLink RX4 19 Lib.Math.min.name ∈ TWL := tb 464 (by decide +kernel) rfl
set_option maxRecDepth 20000 in
theorem lk4_25 : LKd RX4 25 TX4 1 := Or.inl (tb 195 (by decide +kernel) rfl)
set_option maxRecDepth 20000 in
theorem fn4_25 {ini : Bool} : FNd RX4 ini 25 TX4 1 := Or.inl ⟨rfl, lk4_25⟩
set_option maxRecDepth 20000 in
theorem lk4_29 : LKd RX4 29 TX4 2 := Or.inl (tb 196 (by decide +kernel) rfl)
set_option maxRecDepth 20000 in
theorem fn4_29 {ini : Bool} : FNd RX4 ini 29 TX4 2 := Or.inl ⟨rfl, lk4_29⟩
set_option maxRecDepth 20000 in
theorem lk4_32 : LKd RX4 32 TX4 3 := Or.inl (tb 197 (by decide +kernel) rfl)
set_option maxRecDepth 20000 in
theorem fn4_32 {ini : Bool} : FNd RX4 ini 32 TX4 3 := Or.inl ⟨rfl, lk4_32⟩
set_option maxRecDepth 20000 in
theorem lk4_35 : LKd RX4 35 TX3 4 := Or.inr ⟨"StolenCup", tb 84 (by decide +kernel) rfl⟩
set_option maxRecDepth 20000 in
theorem fn4_35 {ini : Bool} : FNd RX4 ini 35 TX3 4 := Or.inl ⟨rfl, lk4_35⟩
set_option maxRecDepth 20000 in
theorem lk4_40 : LKd RX4 40 TX3 5 := Or.inr ⟨"StolenCup", tb 89 (by decide +kernel) rfl⟩
set_option maxRecDepth 20000 in
theorem fn4_40 {ini : Bool} : FNd RX4 ini 40 TX3 5 := Or.inl ⟨rfl, lk4_40⟩
set_option maxRecDepth 20000 in
theorem ml4_43 : MLd RX4 43 yX4_clause := Or.inl (tb 467 (by decide +kernel) rfl)
set_option maxRecDepth 20000 in
theorem mv_X4_clause : MVd yX4_clause cX4_clause 2 none 0 := ⟨tb 469 (by decide +kernel) rfl, List.mem_filter.mpr ⟨tbp 12 (by decide +kernel), rfl⟩, tb 8 (by decide +kernel) rfl, tb 470 (by decide +kernel) rfl, (by decide +kernel), Nat.le_of_ble_eq_true rfl⟩
set_option maxRecDepth 20000 in
theorem ml4_46 : MLd RX4 46 yX4_expect := Or.inl (tb 568 (by decide +kernel) rfl)
set_option maxRecDepth 20000 in
theorem mv_X4_expect : MVd yX4_expect cX4_expect 2 none 1 := ⟨tb 570 (by decide +kernel) rfl, List.mem_filter.mpr ⟨tbp 16 (by decide +kernel), rfl⟩, tb 8 (by decide +kernel) rfl, tb 571 (by decide +kernel) rfl, (by decide +kernel), Nat.le_of_ble_eq_true rfl⟩
set_option maxRecDepth 20000 in
theorem ml4_50 : MLd RX4 50 yX4_sign := Or.inl (tb 472 (by decide +kernel) rfl)
set_option maxRecDepth 20000 in
theorem mv_X4_sign : MVd yX4_sign cX4_sign 1 (some .char) 0 := ⟨tb 474 (by decide +kernel) rfl, List.mem_filter.mpr ⟨tbp 13 (by decide +kernel), rfl⟩, tb 8 (by decide +kernel) rfl, tb 475 (by decide +kernel) rfl, (by decide +kernel), Nat.le_of_ble_eq_true rfl⟩
set_option maxRecDepth 20000 in
theorem ml4_54 : MLd RX4 54 yX4_fail := Or.inl (tb 560 (by decide +kernel) rfl)
set_option maxRecDepth 20000 in
theorem mv_X4_fail : MVd yX4_fail cX4_fail 2 none 1 := ⟨tb 562 (by decide +kernel) rfl, List.mem_filter.mpr ⟨tbp 14 (by decide +kernel), rfl⟩, tb 8 (by decide +kernel) rfl, tb 563 (by decide +kernel) rfl, (by decide +kernel), Nat.le_of_ble_eq_true rfl⟩
set_option maxRecDepth 20000 in
theorem xm4_60 : Cond.methodLink RX4 60 yJ0_indexOf_0f7a4 ∈ TWL := tb 476 (by decide +kernel) rfl
set_option maxRecDepth 20000 in
theorem mv_J0_indexOf_0f7a4 : MVd yJ0_indexOf_0f7a4 cJ0_indexOf_0f7a4 2 (some .int) 1 := ⟨tb 477 (by decide +kernel) rfl, tb 478 (by decide +kernel) rfl, tb 15 (by decide +kernel) rfl, tb 479 (by decide +kernel) rfl, (by decide +kernel), Nat.le_of_ble_eq_true rfl⟩
set_option maxRecDepth 20000 in
theorem ml4_66 : MLd RX4 66 yX3_begin := Or.inr ⟨"StolenCup", tb 564 (by decide +kernel) rfl⟩
set_option maxRecDepth 20000 in
theorem mv_X3_begin : MVd yX3_begin cX3_begin 2 none 1 := ⟨tb 566 (by decide +kernel) rfl, List.mem_filter.mpr ⟨tbp 15 (by decide +kernel), rfl⟩, tb 5 (by decide +kernel) rfl, tb 567 (by decide +kernel) rfl, (by decide +kernel), Nat.le_of_ble_eq_true rfl⟩
set_option maxRecDepth 20000 in
theorem ml4_69 : MLd RX4 69 yX4_condition := Or.inl (tb 572 (by decide +kernel) rfl)
set_option maxRecDepth 20000 in
theorem mv_X4_condition : MVd yX4_condition cX4_condition 4 none 1 := ⟨tb 574 (by decide +kernel) rfl, List.mem_filter.mpr ⟨tbp 17 (by decide +kernel), rfl⟩, tb 8 (by decide +kernel) rfl, tb 575 (by decide +kernel) rfl, (by decide +kernel), Nat.le_of_ble_eq_true rfl⟩
set_option maxRecDepth 20000 in
theorem ml4_72 : MLd RX4 72 yX3_add := Or.inr ⟨"StolenCup", tb 588 (by decide +kernel) rfl⟩
set_option maxRecDepth 20000 in
theorem mv_X3_add : MVd yX3_add cX3_add 3 (some .int) 2 := ⟨tb 590 (by decide +kernel) rfl, List.mem_filter.mpr ⟨tbp 21 (by decide +kernel), rfl⟩, tb 5 (by decide +kernel) rfl, tb 591 (by decide +kernel) rfl, (by decide +kernel), Nat.le_of_ble_eq_true rfl⟩
set_option maxRecDepth 20000 in
theorem ml4_75 : MLd RX4 75 yX4_part := Or.inl (tb 576 (by decide +kernel) rfl)
set_option maxRecDepth 20000 in
theorem mv_X4_part : MVd yX4_part cX4_part 4 none 1 := ⟨tb 578 (by decide +kernel) rfl, List.mem_filter.mpr ⟨tbp 18 (by decide +kernel), rfl⟩, tb 8 (by decide +kernel) rfl, tb 579 (by decide +kernel) rfl, (by decide +kernel), Nat.le_of_ble_eq_true rfl⟩
set_option maxRecDepth 20000 in
theorem ml4_78 : MLd RX4 78 yX3_endSkips := Or.inr ⟨"StolenCup", tb 619 (by decide +kernel) rfl⟩
set_option maxRecDepth 20000 in
theorem mv_X3_endSkips : MVd yX3_endSkips cX3_endSkips 5 none 1 := ⟨tb 621 (by decide +kernel) rfl, List.mem_filter.mpr ⟨tbp 27 (by decide +kernel), rfl⟩, tb 5 (by decide +kernel) rfl, tb 622 (by decide +kernel) rfl, (by decide +kernel), Nat.le_of_ble_eq_true rfl⟩
set_option maxRecDepth 20000 in
theorem ml4_81 : MLd RX4 81 yX4_piece := Or.inl (tb 580 (by decide +kernel) rfl)
set_option maxRecDepth 20000 in
theorem mv_X4_piece : MVd yX4_piece cX4_piece 2 none 1 := ⟨tb 582 (by decide +kernel) rfl, List.mem_filter.mpr ⟨tbp 19 (by decide +kernel), rfl⟩, tb 8 (by decide +kernel) rfl, tb 583 (by decide +kernel) rfl, (by decide +kernel), Nat.le_of_ble_eq_true rfl⟩
set_option maxRecDepth 20000 in
theorem ml4_84 : MLd RX4 84 yX4_opens := Or.inl (tb 584 (by decide +kernel) rfl)
set_option maxRecDepth 20000 in
theorem mv_X4_opens : MVd yX4_opens cX4_opens 2 (some .boolean) 1 := ⟨tb 586 (by decide +kernel) rfl, List.mem_filter.mpr ⟨tbp 20 (by decide +kernel), rfl⟩, tb 8 (by decide +kernel) rfl, tb 587 (by decide +kernel) rfl, (by decide +kernel), Nat.le_of_ble_eq_true rfl⟩
set_option maxRecDepth 20000 in
theorem ml4_88 : MLd RX4 88 yX4_comparison := Or.inl (tb 592 (by decide +kernel) rfl)
set_option maxRecDepth 20000 in
theorem mv_X4_comparison : MVd yX4_comparison cX4_comparison 3 none 1 := ⟨tb 594 (by decide +kernel) rfl, List.mem_filter.mpr ⟨tbp 22 (by decide +kernel), rfl⟩, tb 8 (by decide +kernel) rfl, tb 595 (by decide +kernel) rfl, (by decide +kernel), Nat.le_of_ble_eq_true rfl⟩
set_option maxRecDepth 20000 in
theorem ml4_91 : MLd RX4 91 yX4_sum := Or.inl (tb 596 (by decide +kernel) rfl)
set_option maxRecDepth 20000 in
theorem mv_X4_sum : MVd yX4_sum cX4_sum 4 none 1 := ⟨tb 598 (by decide +kernel) rfl, List.mem_filter.mpr ⟨tbp 23 (by decide +kernel), rfl⟩, tb 8 (by decide +kernel) rfl, tb 599 (by decide +kernel) rfl, (by decide +kernel), Nat.le_of_ble_eq_true rfl⟩
set_option maxRecDepth 20000 in
theorem ml4_94 : MLd RX4 94 yX4_product := Or.inl (tb 600 (by decide +kernel) rfl)
set_option maxRecDepth 20000 in
theorem mv_X4_product : MVd yX4_product cX4_product 4 none 1 := ⟨tb 602 (by decide +kernel) rfl, List.mem_filter.mpr ⟨tbp 24 (by decide +kernel), rfl⟩, tb 8 (by decide +kernel) rfl, tb 603 (by decide +kernel) rfl, (by decide +kernel), Nat.le_of_ble_eq_true rfl⟩
set_option maxRecDepth 20000 in
theorem ml4_97 : MLd RX4 97 yX4_factor := Or.inl (tb 604 (by decide +kernel) rfl)
set_option maxRecDepth 20000 in
theorem mv_X4_factor : MVd yX4_factor cX4_factor 3 none 1 := ⟨tb 606 (by decide +kernel) rfl, List.mem_filter.mpr ⟨tbp 25 (by decide +kernel), rfl⟩, tb 8 (by decide +kernel) rfl, tb 607 (by decide +kernel) rfl, (by decide +kernel), Nat.le_of_ble_eq_true rfl⟩
set_option maxRecDepth 20000 in
theorem ml4_100 : MLd RX4 100 yX4_isOfProduct := Or.inl (tb 616 (by decide +kernel) rfl)
set_option maxRecDepth 20000 in
theorem ms_X4_isOfProduct : MSd yX4_isOfProduct cX4_isOfProduct 1 (some .boolean) 1 := ⟨tb 617 (by decide +kernel) rfl, tb 8 (by decide +kernel) rfl, tb 618 (by decide +kernel) rfl, (by decide +kernel), Nat.le_of_ble_eq_true rfl⟩
set_option maxRecDepth 20000 in
theorem ml4_106 : MLd RX4 106 yX4_isDigit := Or.inl (tb 609 (by decide +kernel) rfl)
set_option maxRecDepth 20000 in
theorem ms_X4_isDigit : MSd yX4_isDigit cX4_isDigit 1 (some .boolean) 1 := ⟨tb 610 (by decide +kernel) rfl, tb 8 (by decide +kernel) rfl, tb 611 (by decide +kernel) rfl, (by decide +kernel), Nat.le_of_ble_eq_true rfl⟩
set_option maxRecDepth 20000 in
theorem ml4_109 : MLd RX4 109 yX4_number := Or.inl (tb 612 (by decide +kernel) rfl)
set_option maxRecDepth 20000 in
theorem mv_X4_number : MVd yX4_number cX4_number 3 none 0 := ⟨tb 614 (by decide +kernel) rfl, List.mem_filter.mpr ⟨tbp 26 (by decide +kernel), rfl⟩, tb 8 (by decide +kernel) rfl, tb 615 (by decide +kernel) rfl, (by decide +kernel), Nat.le_of_ble_eq_true rfl⟩
set_option maxRecDepth 20000 in
theorem lk5_9 : LKd RX5 9 TX5 0 := Or.inl (tb 116 (by decide +kernel) rfl)
set_option maxRecDepth 20000 in
theorem fn5_9 {ini : Bool} : FNd RX5 ini 9 TX5 0 := Or.inl ⟨rfl, lk5_9⟩
set_option maxRecDepth 20000 in
theorem lk5_15 : LKd RX5 15 TX5 1 := Or.inl (tb 120 (by decide +kernel) rfl)
set_option maxRecDepth 20000 in
theorem fn5_15 {ini : Bool} : FNd RX5 ini 15 TX5 1 := Or.inl ⟨rfl, lk5_15⟩
set_option maxRecDepth 20000 in
theorem lk5_18 : LKd RX5 18 TX5 2 := Or.inl (tb 124 (by decide +kernel) rfl)
set_option maxRecDepth 20000 in
theorem fn5_18 {ini : Bool} : FNd RX5 ini 18 TX5 2 := Or.inl ⟨rfl, lk5_18⟩
set_option maxRecDepth 20000 in
theorem lk5_21 : LKd RX5 21 TX5 3 := Or.inl (tb 127 (by decide +kernel) rfl)
set_option maxRecDepth 20000 in
theorem fn5_21 {ini : Bool} : FNd RX5 ini 21 TX5 3 := Or.inl ⟨rfl, lk5_21⟩
set_option maxRecDepth 20000 in
theorem lk5_24 : LKd RX5 24 TX5 4 := Or.inl (tb 131 (by decide +kernel) rfl)
set_option maxRecDepth 20000 in
theorem fn5_24 {ini : Bool} : FNd RX5 ini 24 TX5 4 := Or.inl ⟨rfl, lk5_24⟩
set_option maxRecDepth 20000 in
theorem lk5_27 : LKd RX5 27 TX5 5 := Or.inl (tb 133 (by decide +kernel) rfl)
set_option maxRecDepth 20000 in
theorem fn5_27 {ini : Bool} : FNd RX5 ini 27 TX5 5 := Or.inl ⟨rfl, lk5_27⟩
set_option maxRecDepth 20000 in
theorem lk5_30 : LKd RX5 30 TX5 6 := Or.inl (tb 135 (by decide +kernel) rfl)
set_option maxRecDepth 20000 in
theorem fn5_30 {ini : Bool} : FNd RX5 ini 30 TX5 6 := Or.inl ⟨rfl, lk5_30⟩
set_option maxRecDepth 20000 in
theorem lk5_33 : LKd RX5 33 TX5 7 := Or.inl (tb 138 (by decide +kernel) rfl)
set_option maxRecDepth 20000 in
theorem fn5_33 {ini : Bool} : FNd RX5 ini 33 TX5 7 := Or.inl ⟨rfl, lk5_33⟩
set_option maxRecDepth 20000 in
theorem oi5_3 : Cond.methodLink RX5 3 Lib.objectInit ∈ TWL := tb 115 (by decide +kernel) rfl
set_option maxRecDepth 20000 in
theorem lk6_16 : LKd RX6 16 TX3 5 := Or.inr ⟨"StolenCup", tb 88 (by decide +kernel) rfl⟩
set_option maxRecDepth 20000 in
theorem lk6_22 : LKd RX6 22 TX3 2 := Or.inr ⟨"StolenCup", tb 81 (by decide +kernel) rfl⟩
set_option maxRecDepth 20000 in
theorem lk6_25 : LKd RX6 25 TX3 3 := Or.inr ⟨"StolenCup", tb 83 (by decide +kernel) rfl⟩
set_option maxRecDepth 20000 in
theorem ml6_28 : MLd RX6 28 yX6_isHolding := Or.inl (tb 689 (by decide +kernel) rfl)
set_option maxRecDepth 20000 in
theorem mv_X6_isHolding : MVd yX6_isHolding cX6_isHolding 9 (some .boolean) 2 := ⟨tb 691 (by decide +kernel) rfl, List.mem_filter.mpr ⟨tbp 41 (by decide +kernel), rfl⟩, tb 10 (by decide +kernel) rfl, tb 692 (by decide +kernel) rfl, (by decide +kernel), Nat.le_of_ble_eq_true rfl⟩
set_option maxRecDepth 20000 in
theorem lk6_32 : LKd RX6 32 TX3 4 := Or.inr ⟨"StolenCup", tb 85 (by decide +kernel) rfl⟩
set_option maxRecDepth 20000 in
theorem lk6_35 : LKd RX6 35 TX3 0 := Or.inr ⟨"StolenCup", tb 77 (by decide +kernel) rfl⟩
set_option maxRecDepth 20000 in
theorem lk6_38 : LKd RX6 38 TX3 1 := Or.inr ⟨"StolenCup", tb 79 (by decide +kernel) rfl⟩
set_option maxRecDepth 20000 in
theorem lk6_13 : LKd RX6 13 TX6 1 := Or.inl (tb 224 (by decide +kernel) rfl)
set_option maxRecDepth 20000 in
theorem lk6_9 : LKd RX6 9 TX6 0 := Or.inl (tb 222 (by decide +kernel) rfl)
set_option maxRecDepth 20000 in
theorem ml6_41 : MLd RX6 41 yX6_combine := Or.inl (tb 693 (by decide +kernel) rfl)
set_option maxRecDepth 20000 in
theorem ms_X6_combine : MSd yX6_combine cX6_combine 3 (some .int) 3 := ⟨tb 694 (by decide +kernel) rfl, tb 10 (by decide +kernel) rfl, tb 695 (by decide +kernel) rfl, (by decide +kernel), Nat.le_of_ble_eq_true rfl⟩
set_option maxRecDepth 20000 in
theorem mm6_45 : Cond.methodLink RX6 45 Lib.Math.max.name ∈ TWL := tb 696 (by decide +kernel) rfl
set_option maxRecDepth 20000 in
theorem oi6_1 : Cond.methodLink RX6 1 Lib.objectInit ∈ TWL := tb 221 (by decide +kernel) rfl
set_option maxRecDepth 20000 in
theorem fn6_9 : FNd RX6 true 9 TX6 0 := Or.inr ⟨rfl, rfl, rfl, tb 222 (by decide +kernel) rfl⟩
set_option maxRecDepth 20000 in
theorem fn6_13 : FNd RX6 true 13 TX6 1 := Or.inr ⟨rfl, rfl, rfl, tb 224 (by decide +kernel) rfl⟩
set_option maxRecDepth 20000 in
theorem oi7_3 : Cond.methodLink RX7 3 Lib.objectInit ∈ TWL := tb 58 (by decide +kernel) rfl
set_option maxRecDepth 20000 in
theorem cl7_9 : Cond.classLink RX7 9 ("[" ++ (FieldType.array .int).toString) ∈ TWL := tb 59 (by decide +kernel) rfl
set_option maxRecDepth 20000 in
theorem lk7_11 : LKd RX7 11 TX7 0 := Or.inl (tb 63 (by decide +kernel) rfl)
set_option maxRecDepth 20000 in
theorem fn7_11 : FNd RX7 true 11 TX7 0 := Or.inr ⟨rfl, rfl, rfl, tb 63 (by decide +kernel) rfl⟩
set_option maxRecDepth 20000 in
theorem lk7_16 : LKd RX7 16 TX7 1 := Or.inl (tb 64 (by decide +kernel) rfl)
set_option maxRecDepth 20000 in
theorem fn7_16 : FNd RX7 true 16 TX7 1 := Or.inr ⟨rfl, rfl, rfl, tb 64 (by decide +kernel) rfl⟩
set_option maxRecDepth 20000 in
theorem ml7_20 : MLd RX7 20 yJ7_fill_53178 := Or.inl (tb 60 (by decide +kernel) rfl)
set_option maxRecDepth 20000 in
theorem ml7_26 : MLd RX7 26 yX7_goOn := Or.inl (tb 861 (by decide +kernel) rfl)
set_option maxRecDepth 20000 in
theorem mv_X7_goOn : MVd yX7_goOn cX7_goOn 4 none 2 := ⟨tb 863 (by decide +kernel) rfl, List.mem_filter.mpr ⟨tbp 64 (by decide +kernel), rfl⟩, tb 3 (by decide +kernel) rfl, tb 864 (by decide +kernel) rfl, (by decide +kernel), Nat.le_of_ble_eq_true rfl⟩
set_option maxRecDepth 20000 in
theorem lk8_15 : LKd RX8 15 TX8 1 := Or.inl (tb 44 (by decide +kernel) rfl)
set_option maxRecDepth 20000 in
theorem lk8_9 : LKd RX8 9 TX8 0 := Or.inl (tb 42 (by decide +kernel) rfl)
set_option maxRecDepth 20000 in
theorem fn8_15 {ini : Bool} : FNd RX8 ini 15 TX8 1 := Or.inl ⟨rfl, lk8_15⟩
set_option maxRecDepth 20000 in
theorem oi8_3 : Cond.methodLink RX8 3 Lib.objectInit ∈ TWL := tb 41 (by decide +kernel) rfl
set_option maxRecDepth 20000 in
theorem fn8_9 : FNd RX8 true 9 TX8 0 := Or.inr ⟨rfl, rfl, rfl, tb 42 (by decide +kernel) rfl⟩
set_option maxRecDepth 20000 in
theorem oi9_3 : Cond.methodLink RX9 3 Lib.objectInit ∈ TWL := tb 108 (by decide +kernel) rfl
set_option maxRecDepth 20000 in
theorem cl9_9 : Cond.classLink RX9 9 RX5 ∈ TWL := tb 109 (by decide +kernel) rfl
set_option maxRecDepth 20000 in
theorem lk9_11 : LKd RX9 11 TX9 0 := Or.inl (tb 158 (by decide +kernel) rfl)
set_option maxRecDepth 20000 in
theorem fn9_11 : FNd RX9 true 11 TX9 0 := Or.inr ⟨rfl, rfl, rfl, tb 158 (by decide +kernel) rfl⟩
set_option maxRecDepth 20000 in
theorem nw9_9 : NWd RX9 9 RX5 8 tyX5 := ⟨tb 109 (by decide +kernel) rfl, tb 111 (by decide +kernel) rfl, tb 7 (by decide +kernel) rfl, by decide +kernel⟩
set_option maxRecDepth 20000 in
theorem ml9_17 : MLd RX9 17 yX5_init := Or.inr ⟨"StolenCup", tb 112 (by decide +kernel) rfl⟩
set_option maxRecDepth 20000 in
theorem mi_X5_init : MId yX5_init cX5_init 1 0 := ⟨rfl, tb 113 (by decide +kernel) rfl, tb 7 (by decide +kernel) rfl, tb 114 (by decide +kernel) rfl, (by decide +kernel), Nat.le_of_ble_eq_true rfl⟩
set_option maxRecDepth 20000 in
theorem lk9_18 : LKd RX9 18 TX9 1 := Or.inl (tb 163 (by decide +kernel) rfl)
set_option maxRecDepth 20000 in
theorem lk9_22 : LKd RX9 22 TX5 1 := Or.inr ⟨"StolenCup", tb 121 (by decide +kernel) rfl⟩
set_option maxRecDepth 20000 in
theorem lk9_25 : LKd RX9 25 TX9 3 := Or.inl (tb 171 (by decide +kernel) rfl)
set_option maxRecDepth 20000 in
theorem ml9_28 : MLd RX9 28 yX9_fromWhom := Or.inl (tb 420 (by decide +kernel) rfl)
set_option maxRecDepth 20000 in
theorem mm9_32 : Cond.methodLink RX9 32 Lib.Math.min.name ∈ TWL := tb 683 (by decide +kernel) rfl
set_option maxRecDepth 20000 in
theorem ml9_38 : MLd RX9 38 yX5_sign := Or.inr ⟨"StolenCup", tb 684 (by decide +kernel) rfl⟩
set_option maxRecDepth 20000 in
theorem lk9_41 : LKd RX9 41 TX5 3 := Or.inr ⟨"StolenCup", tb 128 (by decide +kernel) rfl⟩
set_option maxRecDepth 20000 in
theorem fn9_18 {ini : Bool} : FNd RX9 ini 18 TX9 1 := Or.inl ⟨rfl, lk9_18⟩
set_option maxRecDepth 20000 in
theorem lk9_44 : LKd RX9 44 TX5 6 := Or.inr ⟨"StolenCup", tb 137 (by decide +kernel) rfl⟩
set_option maxRecDepth 20000 in
theorem lk9_47 : LKd RX9 47 TX5 7 := Or.inr ⟨"StolenCup", tb 140 (by decide +kernel) rfl⟩
set_option maxRecDepth 20000 in
theorem oi10_1 : Cond.methodLink RX10 1 Lib.objectInit ∈ TWL := tb 27 (by decide +kernel) rfl
set_option maxRecDepth 20000 in
theorem lk10_9 : LKd RX10 9 TX10 0 := Or.inl (tb 332 (by decide +kernel) rfl)
set_option maxRecDepth 20000 in
theorem fn10_9 : FNd RX10 true 9 TX10 0 := Or.inr ⟨rfl, rfl, rfl, tb 332 (by decide +kernel) rfl⟩
set_option maxRecDepth 20000 in
theorem lk10_13 : LKd RX10 13 TX10 1 := Or.inl (tb 333 (by decide +kernel) rfl)
set_option maxRecDepth 20000 in
theorem fn10_13 : FNd RX10 true 13 TX10 1 := Or.inr ⟨rfl, rfl, rfl, tb 333 (by decide +kernel) rfl⟩
set_option maxRecDepth 20000 in
theorem cl10_16 : Cond.classLink RX10 16 RX9 ∈ TWL := tb 30 (by decide +kernel) rfl
set_option maxRecDepth 20000 in
theorem lk10_18 : LKd RX10 18 TX10 2 := Or.inl (tb 334 (by decide +kernel) rfl)
set_option maxRecDepth 20000 in
theorem fn10_18 : FNd RX10 true 18 TX10 2 := Or.inr ⟨rfl, rfl, rfl, tb 334 (by decide +kernel) rfl⟩
set_option maxRecDepth 20000 in
theorem cl10_22 : Cond.classLink RX10 22 RX3 ∈ TWL := tb 32 (by decide +kernel) rfl
set_option maxRecDepth 20000 in
theorem lk10_24 : LKd RX10 24 TX10 3 := Or.inl (tb 335 (by decide +kernel) rfl)
set_option maxRecDepth 20000 in
theorem fn10_24 : FNd RX10 true 24 TX10 3 := Or.inr ⟨rfl, rfl, rfl, tb 335 (by decide +kernel) rfl⟩
set_option maxRecDepth 20000 in
theorem cl10_28 : Cond.classLink RX10 28 ("[" ++ (FieldType.array .int).toString) ∈ TWL := tb 34 (by decide +kernel) rfl
set_option maxRecDepth 20000 in
theorem lk10_30 : LKd RX10 30 TX10 4 := Or.inl (tb 336 (by decide +kernel) rfl)
set_option maxRecDepth 20000 in
theorem fn10_30 : FNd RX10 true 30 TX10 4 := Or.inr ⟨rfl, rfl, rfl, tb 336 (by decide +kernel) rfl⟩
set_option maxRecDepth 20000 in
theorem nw10_33 : NWd RX10 33 RX8 2 tyX8 := ⟨tb 36 (by decide +kernel) rfl, tb 37 (by decide +kernel) rfl, tb 2 (by decide +kernel) rfl, by decide +kernel⟩
set_option maxRecDepth 20000 in
theorem ml10_35 : MLd RX10 35 yX8_init := Or.inr ⟨"StolenCup", tb 38 (by decide +kernel) rfl⟩
set_option maxRecDepth 20000 in
theorem mi_X8_init : MId yX8_init cX8_init 1 0 := ⟨rfl, tb 39 (by decide +kernel) rfl, tb 2 (by decide +kernel) rfl, tb 40 (by decide +kernel) rfl, (by decide +kernel), Nat.le_of_ble_eq_true rfl⟩
set_option maxRecDepth 20000 in
theorem lk10_36 : LKd RX10 36 TX10 5 := Or.inl (tb 337 (by decide +kernel) rfl)
set_option maxRecDepth 20000 in
theorem fn10_36 : FNd RX10 true 36 TX10 5 := Or.inr ⟨rfl, rfl, rfl, tb 337 (by decide +kernel) rfl⟩
set_option maxRecDepth 20000 in
theorem nw10_40 : NWd RX10 40 RX7 2 tyX7 := ⟨tb 53 (by decide +kernel) rfl, tb 54 (by decide +kernel) rfl, tb 3 (by decide +kernel) rfl, by decide +kernel⟩
set_option maxRecDepth 20000 in
theorem ml10_42 : MLd RX10 42 yX7_init := Or.inr ⟨"StolenCup", tb 55 (by decide +kernel) rfl⟩
set_option maxRecDepth 20000 in
theorem mi_X7_init : MId yX7_init cX7_init 2 0 := ⟨rfl, tb 56 (by decide +kernel) rfl, tb 3 (by decide +kernel) rfl, tb 57 (by decide +kernel) rfl, (by decide +kernel), Nat.le_of_ble_eq_true rfl⟩
set_option maxRecDepth 20000 in
theorem lk10_43 : LKd RX10 43 TX10 7 := Or.inl (tb 339 (by decide +kernel) rfl)
set_option maxRecDepth 20000 in
theorem fn10_43 : FNd RX10 true 43 TX10 7 := Or.inr ⟨rfl, rfl, rfl, tb 339 (by decide +kernel) rfl⟩
set_option maxRecDepth 20000 in
theorem nw10_22 : NWd RX10 22 RX3 6 tyX3 := ⟨tb 32 (by decide +kernel) rfl, tb 71 (by decide +kernel) rfl, tb 5 (by decide +kernel) rfl, by decide +kernel⟩
set_option maxRecDepth 20000 in
theorem ml10_47 : MLd RX10 47 yX3_init := Or.inr ⟨"StolenCup", tb 72 (by decide +kernel) rfl⟩
set_option maxRecDepth 20000 in
theorem mi_X3_init : MId yX3_init cX3_init 1 0 := ⟨rfl, tb 73 (by decide +kernel) rfl, tb 5 (by decide +kernel) rfl, tb 74 (by decide +kernel) rfl, (by decide +kernel), Nat.le_of_ble_eq_true rfl⟩
set_option maxRecDepth 20000 in
theorem lk10_48 : LKd RX10 48 TX10 11 := Or.inl (tb 343 (by decide +kernel) rfl)
set_option maxRecDepth 20000 in
theorem fn10_48 {ini : Bool} : FNd RX10 ini 48 TX10 11 := Or.inl ⟨rfl, lk10_48⟩
set_option maxRecDepth 20000 in
theorem nw10_16 : NWd RX10 16 RX9 5 tyX9 := ⟨tb 30 (by decide +kernel) rfl, tb 104 (by decide +kernel) rfl, tb 6 (by decide +kernel) rfl, by decide +kernel⟩
set_option maxRecDepth 20000 in
theorem ml10_52 : MLd RX10 52 yX9_init := Or.inr ⟨"StolenCup", tb 105 (by decide +kernel) rfl⟩
set_option maxRecDepth 20000 in
theorem mi_X9_init : MId yX9_init cX9_init 2 0 := ⟨rfl, tb 106 (by decide +kernel) rfl, tb 6 (by decide +kernel) rfl, tb 107 (by decide +kernel) rfl, (by decide +kernel), Nat.le_of_ble_eq_true rfl⟩
set_option maxRecDepth 20000 in
theorem ml10_53 : MLd RX10 53 yJ7_fill_53178 := Or.inl (tb 187 (by decide +kernel) rfl)
set_option maxRecDepth 20000 in
theorem lk10_61 : LKd RX10 61 TX8 0 := Or.inr ⟨"StolenCup", tb 43 (by decide +kernel) rfl⟩
set_option maxRecDepth 20000 in
theorem nw10_59 : NWd RX10 59 RX4 5 tyX4 := ⟨tb 188 (by decide +kernel) rfl, tb 189 (by decide +kernel) rfl, tb 8 (by decide +kernel) rfl, by decide +kernel⟩
set_option maxRecDepth 20000 in
theorem ml10_65 : MLd RX10 65 yX4_init := Or.inr ⟨"StolenCup", tb 190 (by decide +kernel) rfl⟩
set_option maxRecDepth 20000 in
theorem mi_X4_init : MId yX4_init cX4_init 3 2 := ⟨rfl, tb 191 (by decide +kernel) rfl, tb 8 (by decide +kernel) rfl, tb 192 (by decide +kernel) rfl, (by decide +kernel), Nat.le_of_ble_eq_true rfl⟩
set_option maxRecDepth 20000 in
theorem lk10_68 : LKd RX10 68 TX10 6 := Or.inl (tb 338 (by decide +kernel) rfl)
set_option maxRecDepth 20000 in
theorem fn10_68 : FNd RX10 true 68 TX10 6 := Or.inr ⟨rfl, rfl, rfl, tb 338 (by decide +kernel) rfl⟩
set_option maxRecDepth 20000 in
theorem nw10_72 : NWd RX10 72 RX1 16 tyX1 := ⟨tb 210 (by decide +kernel) rfl, tb 211 (by decide +kernel) rfl, tb 9 (by decide +kernel) rfl, by decide +kernel⟩
set_option maxRecDepth 20000 in
theorem ml10_74 : MLd RX10 74 yX1_init := Or.inr ⟨"StolenCup", tb 212 (by decide +kernel) rfl⟩
set_option maxRecDepth 20000 in
theorem mi_X1_init : MId yX1_init cX1_init 5 4 := ⟨rfl, tb 213 (by decide +kernel) rfl, tb 9 (by decide +kernel) rfl, tb 214 (by decide +kernel) rfl, (by decide +kernel), Nat.le_of_ble_eq_true rfl⟩
set_option maxRecDepth 20000 in
theorem lk10_77 : LKd RX10 77 TX10 8 := Or.inl (tb 340 (by decide +kernel) rfl)
set_option maxRecDepth 20000 in
theorem fn10_77 : FNd RX10 true 77 TX10 8 := Or.inr ⟨rfl, rfl, rfl, tb 340 (by decide +kernel) rfl⟩
set_option maxRecDepth 20000 in
theorem nw10_81 : NWd RX10 81 RX2 5 tyX2 := ⟨tb 285 (by decide +kernel) rfl, tb 286 (by decide +kernel) rfl, tb 11 (by decide +kernel) rfl, by decide +kernel⟩
set_option maxRecDepth 20000 in
theorem ml10_83 : MLd RX10 83 yX2_init := Or.inr ⟨"StolenCup", tb 287 (by decide +kernel) rfl⟩
set_option maxRecDepth 20000 in
theorem mi_X2_init : MId yX2_init cX2_init 2 1 := ⟨rfl, tb 288 (by decide +kernel) rfl, tb 11 (by decide +kernel) rfl, tb 289 (by decide +kernel) rfl, (by decide +kernel), Nat.le_of_ble_eq_true rfl⟩
set_option maxRecDepth 20000 in
theorem lk10_86 : LKd RX10 86 TX10 9 := Or.inl (tb 341 (by decide +kernel) rfl)
set_option maxRecDepth 20000 in
theorem fn10_86 : FNd RX10 true 86 TX10 9 := Or.inr ⟨rfl, rfl, rfl, tb 341 (by decide +kernel) rfl⟩
set_option maxRecDepth 20000 in
theorem nw10_90 : NWd RX10 90 RX0 5 tyX0 := ⟨tb 307 (by decide +kernel) rfl, tb 308 (by decide +kernel) rfl, tb 12 (by decide +kernel) rfl, by decide +kernel⟩
set_option maxRecDepth 20000 in
theorem ml10_92 : MLd RX10 92 yX0_init := Or.inr ⟨"StolenCup", tb 309 (by decide +kernel) rfl⟩
set_option maxRecDepth 20000 in
theorem mi_X0_init : MId yX0_init cX0_init 2 1 := ⟨rfl, tb 310 (by decide +kernel) rfl, tb 12 (by decide +kernel) rfl, tb 311 (by decide +kernel) rfl, (by decide +kernel), Nat.le_of_ble_eq_true rfl⟩
set_option maxRecDepth 20000 in
theorem lk10_93 : LKd RX10 93 TX10 10 := Or.inl (tb 342 (by decide +kernel) rfl)
set_option maxRecDepth 20000 in
theorem fn10_93 : FNd RX10 true 93 TX10 10 := Or.inr ⟨rfl, rfl, rfl, tb 342 (by decide +kernel) rfl⟩
set_option maxRecDepth 20000 in
theorem lk10_97 : LKd RX10 97 TX10 12 := Or.inl (tb 344 (by decide +kernel) rfl)
set_option maxRecDepth 20000 in
theorem ml10_101 : MLd RX10 101 yX10_isWithin := Or.inl (tb 382 (by decide +kernel) rfl)
set_option maxRecDepth 20000 in
theorem fn10_97 {ini : Bool} : FNd RX10 ini 97 TX10 12 := Or.inl ⟨rfl, lk10_97⟩
set_option maxRecDepth 20000 in
theorem lk10_105 : LKd RX10 105 TX10 13 := Or.inl (tb 345 (by decide +kernel) rfl)
set_option maxRecDepth 20000 in
theorem ml10_108 : MLd RX10 108 yX10_isLand := Or.inl (tb 389 (by decide +kernel) rfl)
set_option maxRecDepth 20000 in
theorem ms_X10_isLand : MSd yX10_isLand cX10_isLand 1 (some .boolean) 1 := ⟨tb 390 (by decide +kernel) rfl, tb 1 (by decide +kernel) rfl, tb 391 (by decide +kernel) rfl, (by decide +kernel), Nat.le_of_ble_eq_true rfl⟩
set_option maxRecDepth 20000 in
theorem kc_X10_112 : Cond.constant RX10 112 1000000 ∈ lw_tbl := List.mem_append_right _ (List.mem_of_getElem? (i := 392) (by decide +kernel))
set_option maxRecDepth 20000 in
theorem fn10_105 {ini : Bool} : FNd RX10 ini 105 TX10 13 := Or.inl ⟨rfl, lk10_105⟩
set_option maxRecDepth 20000 in
theorem lk10_113 : LKd RX10 113 TX10 14 := Or.inl (tb 346 (by decide +kernel) rfl)
set_option maxRecDepth 20000 in
theorem ml10_116 : MLd RX10 116 yX10_isPerson := Or.inl (tb 397 (by decide +kernel) rfl)
set_option maxRecDepth 20000 in
theorem mv_X10_isPerson : MVd yX10_isPerson cX10_isPerson 2 (some .boolean) 1 := ⟨tb 399 (by decide +kernel) rfl, List.mem_filter.mpr ⟨tbp 0 (by decide +kernel), rfl⟩, tb 1 (by decide +kernel) rfl, tb 400 (by decide +kernel) rfl, (by decide +kernel), Nat.le_of_ble_eq_true rfl⟩
set_option maxRecDepth 20000 in
theorem lk10_119 : LKd RX10 119 TX9 2 := Or.inr ⟨"StolenCup", tb 168 (by decide +kernel) rfl⟩
set_option maxRecDepth 20000 in
theorem fn10_119 {ini : Bool} : FNd RX10 ini 119 TX9 2 := Or.inl ⟨rfl, lk10_119⟩
set_option maxRecDepth 20000 in
theorem lk10_122 : LKd RX10 122 TX9 3 := Or.inr ⟨"StolenCup", tb 172 (by decide +kernel) rfl⟩
set_option maxRecDepth 20000 in
theorem fn10_122 {ini : Bool} : FNd RX10 ini 122 TX9 3 := Or.inl ⟨rfl, lk10_122⟩
set_option maxRecDepth 20000 in
theorem lk10_125 : LKd RX10 125 TX9 4 := Or.inr ⟨"StolenCup", tb 174 (by decide +kernel) rfl⟩
set_option maxRecDepth 20000 in
theorem fn10_125 {ini : Bool} : FNd RX10 ini 125 TX9 4 := Or.inl ⟨rfl, lk10_125⟩
set_option maxRecDepth 20000 in
theorem fn10_113 {ini : Bool} : FNd RX10 ini 113 TX10 14 := Or.inl ⟨rfl, lk10_113⟩
set_option maxRecDepth 20000 in
theorem ml10_128 : MLd RX10 128 yX10_isThing := Or.inl (tb 405 (by decide +kernel) rfl)
set_option maxRecDepth 20000 in
theorem mv_X10_isThing : MVd yX10_isThing cX10_isThing 2 (some .boolean) 1 := ⟨tb 407 (by decide +kernel) rfl, List.mem_filter.mpr ⟨tbp 1 (by decide +kernel), rfl⟩, tb 1 (by decide +kernel) rfl, tb 408 (by decide +kernel) rfl, (by decide +kernel), Nat.le_of_ble_eq_true rfl⟩
set_option maxRecDepth 20000 in
theorem ml10_131 : MLd RX10 131 yX10_isRangeOfMind := Or.inl (tb 409 (by decide +kernel) rfl)
set_option maxRecDepth 20000 in
theorem ms_X10_isRangeOfMind : MSd yX10_isRangeOfMind cX10_isRangeOfMind 2 (some .boolean) 2 := ⟨tb 410 (by decide +kernel) rfl, tb 1 (by decide +kernel) rfl, tb 411 (by decide +kernel) rfl, (by decide +kernel), Nat.le_of_ble_eq_true rfl⟩
set_option maxRecDepth 20000 in
theorem ml10_135 : MLd RX10 135 yX9_placeOf := Or.inr ⟨"StolenCup", tb 412 (by decide +kernel) rfl⟩
set_option maxRecDepth 20000 in
theorem mv_X9_placeOf : MVd yX9_placeOf cX9_placeOf 3 (some .int) 1 := ⟨tb 414 (by decide +kernel) rfl, List.mem_filter.mpr ⟨tbp 2 (by decide +kernel), rfl⟩, tb 6 (by decide +kernel) rfl, tb 415 (by decide +kernel) rfl, (by decide +kernel), Nat.le_of_ble_eq_true rfl⟩
set_option maxRecDepth 20000 in
theorem ml10_139 : MLd RX10 139 yX9_canGoTo := Or.inr ⟨"StolenCup", tb 416 (by decide +kernel) rfl⟩
set_option maxRecDepth 20000 in
theorem mv_X9_canGoTo : MVd yX9_canGoTo cX9_canGoTo 3 (some .boolean) 2 := ⟨tb 418 (by decide +kernel) rfl, List.mem_filter.mpr ⟨tbp 3 (by decide +kernel), rfl⟩, tb 6 (by decide +kernel) rfl, tb 419 (by decide +kernel) rfl, (by decide +kernel), Nat.le_of_ble_eq_true rfl⟩
set_option maxRecDepth 20000 in
theorem ml10_142 : MLd RX10 142 yX9_insert := Or.inr ⟨"StolenCup", tb 424 (by decide +kernel) rfl⟩
set_option maxRecDepth 20000 in
theorem mv_X9_insert : MVd yX9_insert cX9_insert 4 (some (.object "StolenCup$Passing")) 1 := ⟨tb 426 (by decide +kernel) rfl, List.mem_filter.mpr ⟨tbp 5 (by decide +kernel), rfl⟩, tb 6 (by decide +kernel) rfl, tb 427 (by decide +kernel) rfl, (by decide +kernel), Nat.le_of_ble_eq_true rfl⟩
set_option maxRecDepth 20000 in
theorem ml10_146 : MLd RX10 146 yX5_goes := Or.inr ⟨"StolenCup", tb 428 (by decide +kernel) rfl⟩
set_option maxRecDepth 20000 in
theorem mv_X5_goes : MVd yX5_goes cX5_goes 5 none 4 := ⟨tb 430 (by decide +kernel) rfl, List.mem_filter.mpr ⟨tbp 6 (by decide +kernel), rfl⟩, tb 7 (by decide +kernel) rfl, tb 431 (by decide +kernel) rfl, (by decide +kernel), Nat.le_of_ble_eq_true rfl⟩
set_option maxRecDepth 20000 in
theorem ml10_152 : MLd RX10 152 yX5_costs := Or.inr ⟨"StolenCup", tb 432 (by decide +kernel) rfl⟩
set_option maxRecDepth 20000 in
theorem mv_X5_costs : MVd yX5_costs cX5_costs 3 none 2 := ⟨tb 434 (by decide +kernel) rfl, List.mem_filter.mpr ⟨tbp 7 (by decide +kernel), rfl⟩, tb 7 (by decide +kernel) rfl, tb 435 (by decide +kernel) rfl, (by decide +kernel), Nat.le_of_ble_eq_true rfl⟩
set_option maxRecDepth 20000 in
theorem ml10_156 : MLd RX10 156 yX5_knows := Or.inr ⟨"StolenCup", tb 436 (by decide +kernel) rfl⟩
set_option maxRecDepth 20000 in
theorem mv_X5_knows : MVd yX5_knows cX5_knows 3 none 2 := ⟨tb 438 (by decide +kernel) rfl, List.mem_filter.mpr ⟨tbp 8 (by decide +kernel), rfl⟩, tb 7 (by decide +kernel) rfl, tb 439 (by decide +kernel) rfl, (by decide +kernel), Nat.le_of_ble_eq_true rfl⟩
set_option maxRecDepth 20000 in
theorem ml10_159 : MLd RX10 159 yX10_isPassing := Or.inl (tb 444 (by decide +kernel) rfl)
set_option maxRecDepth 20000 in
theorem mv_X10_isPassing : MVd yX10_isPassing cX10_isPassing 3 (some .boolean) 2 := ⟨tb 446 (by decide +kernel) rfl, List.mem_filter.mpr ⟨tbp 9 (by decide +kernel), rfl⟩, tb 1 (by decide +kernel) rfl, tb 447 (by decide +kernel) rfl, (by decide +kernel), Nat.le_of_ble_eq_true rfl⟩
set_option maxRecDepth 20000 in
theorem lk10_162 : LKd RX10 162 TX9 0 := Or.inr ⟨"StolenCup", tb 162 (by decide +kernel) rfl⟩
set_option maxRecDepth 20000 in
theorem lk10_166 : LKd RX10 166 TX8 1 := Or.inr ⟨"StolenCup", tb 45 (by decide +kernel) rfl⟩
set_option maxRecDepth 20000 in
theorem ml10_169 : MLd RX10 169 yX8_put := Or.inr ⟨"StolenCup", tb 452 (by decide +kernel) rfl⟩
set_option maxRecDepth 20000 in
theorem mv_X8_put : MVd yX8_put cX8_put 3 none 1 := ⟨tb 454 (by decide +kernel) rfl, List.mem_filter.mpr ⟨tbp 10 (by decide +kernel), rfl⟩, tb 2 (by decide +kernel) rfl, tb 455 (by decide +kernel) rfl, (by decide +kernel), Nat.le_of_ble_eq_true rfl⟩
set_option maxRecDepth 20000 in
theorem ml10_173 : MLd RX10 173 yX4_read := Or.inr ⟨"StolenCup", tb 460 (by decide +kernel) rfl⟩
set_option maxRecDepth 20000 in
theorem mv_X4_read : MVd yX4_read cX4_read 4 (some .int) 2 := ⟨tb 462 (by decide +kernel) rfl, List.mem_filter.mpr ⟨tbp 11 (by decide +kernel), rfl⟩, tb 8 (by decide +kernel) rfl, tb 463 (by decide +kernel) rfl, (by decide +kernel), Nat.le_of_ble_eq_true rfl⟩
set_option maxRecDepth 20000 in
theorem fn10_166 {ini : Bool} : FNd RX10 ini 166 TX8 1 := Or.inl ⟨rfl, lk10_166⟩
set_option maxRecDepth 20000 in
theorem ml10_177 : MLd RX10 177 yX10_judge := Or.inl (tb 632 (by decide +kernel) rfl)
set_option maxRecDepth 20000 in
theorem mv_X10_judge : MVd yX10_judge cX10_judge 3 (some .int) 2 := ⟨tb 634 (by decide +kernel) rfl, List.mem_filter.mpr ⟨tbp 28 (by decide +kernel), rfl⟩, tb 1 (by decide +kernel) rfl, tb 635 (by decide +kernel) rfl, (by decide +kernel), Nat.le_of_ble_eq_true rfl⟩
set_option maxRecDepth 20000 in
theorem lk10_181 : LKd RX10 181 TX1 5 := Or.inr ⟨"StolenCup", tb 236 (by decide +kernel) rfl⟩
set_option maxRecDepth 20000 in
theorem ml10_184 : MLd RX10 184 yX1_rulingLand := Or.inr ⟨"StolenCup", tb 718 (by decide +kernel) rfl⟩
set_option maxRecDepth 20000 in
theorem lk10_188 : LKd RX10 188 TX5 0 := Or.inr ⟨"StolenCup", tb 119 (by decide +kernel) rfl⟩
set_option maxRecDepth 20000 in
theorem ml10_191 : MLd RX10 191 yX1_ownerAhead := Or.inr ⟨"StolenCup", tb 719 (by decide +kernel) rfl⟩
set_option maxRecDepth 20000 in
theorem lk10_194 : LKd RX10 194 TX1 6 := Or.inr ⟨"StolenCup", tb 238 (by decide +kernel) rfl⟩
set_option maxRecDepth 20000 in
theorem lk10_197 : LKd RX10 197 TX1 7 := Or.inr ⟨"StolenCup", tb 240 (by decide +kernel) rfl⟩
set_option maxRecDepth 20000 in
theorem ml10_200 : MLd RX10 200 yX9_holder := Or.inr ⟨"StolenCup", tb 736 (by decide +kernel) rfl⟩
set_option maxRecDepth 20000 in
theorem lk10_204 : LKd RX10 204 TX9 1 := Or.inr ⟨"StolenCup", tb 167 (by decide +kernel) rfl⟩
set_option maxRecDepth 20000 in
theorem ml10_207 : MLd RX10 207 yX9_registeredAhead := Or.inr ⟨"StolenCup", tb 744 (by decide +kernel) rfl⟩
set_option maxRecDepth 20000 in
theorem ml10_210 : MLd RX10 210 yX9_unsureCount := Or.inr ⟨"StolenCup", tb 749 (by decide +kernel) rfl⟩
set_option maxRecDepth 20000 in
theorem mv_X9_unsureCount : MVd yX9_unsureCount cX9_unsureCount 3 (some .int) 0 := ⟨tb 751 (by decide +kernel) rfl, List.mem_filter.mpr ⟨tbp 48 (by decide +kernel), rfl⟩, tb 6 (by decide +kernel) rfl, tb 752 (by decide +kernel) rfl, (by decide +kernel), Nat.le_of_ble_eq_true rfl⟩
set_option maxRecDepth 20000 in
theorem ml10_213 : MLd RX10 213 yX1_open := Or.inr ⟨"StolenCup", tb 636 (by decide +kernel) rfl⟩
set_option maxRecDepth 20000 in
theorem mv_X1_open : MVd yX1_open cX1_open 4 none 3 := ⟨tb 638 (by decide +kernel) rfl, List.mem_filter.mpr ⟨tbp 29 (by decide +kernel), rfl⟩, tb 9 (by decide +kernel) rfl, tb 639 (by decide +kernel) rfl, (by decide +kernel), Nat.le_of_ble_eq_true rfl⟩
set_option maxRecDepth 20000 in
theorem ml10_217 : MLd RX10 217 yX2_possibleOwners := Or.inr ⟨"StolenCup", tb 753 (by decide +kernel) rfl⟩
set_option maxRecDepth 20000 in
theorem mv_X2_possibleOwners : MVd yX2_possibleOwners cX2_possibleOwners 4 (some .int) 0 := ⟨tb 755 (by decide +kernel) rfl, List.mem_filter.mpr ⟨tbp 49 (by decide +kernel), rfl⟩, tb 11 (by decide +kernel) rfl, tb 756 (by decide +kernel) rfl, (by decide +kernel), Nat.le_of_ble_eq_true rfl⟩
set_option maxRecDepth 20000 in
theorem ml10_220 : MLd RX10 220 yX2_decisivePassings := Or.inr ⟨"StolenCup", tb 768 (by decide +kernel) rfl⟩
set_option maxRecDepth 20000 in
theorem mv_X2_decisivePassings : MVd yX2_decisivePassings cX2_decisivePassings 3 (some .int) 0 := ⟨tb 770 (by decide +kernel) rfl, List.mem_filter.mpr ⟨tbp 51 (by decide +kernel), rfl⟩, tb 11 (by decide +kernel) rfl, tb 771 (by decide +kernel) rfl, (by decide +kernel), Nat.le_of_ble_eq_true rfl⟩
set_option maxRecDepth 20000 in
theorem ml10_223 : MLd RX10 223 yX0_settle := Or.inr ⟨"StolenCup", tb 798 (by decide +kernel) rfl⟩
set_option maxRecDepth 20000 in
theorem mv_X0_settle : MVd yX0_settle cX0_settle 5 none 1 := ⟨tb 800 (by decide +kernel) rfl, List.mem_filter.mpr ⟨tbp 56 (by decide +kernel), rfl⟩, tb 12 (by decide +kernel) rfl, tb 801 (by decide +kernel) rfl, (by decide +kernel), Nat.le_of_ble_eq_true rfl⟩
set_option maxRecDepth 20000 in
theorem lk10_227 : LKd RX10 227 TX0 1 := Or.inr ⟨"StolenCup", tb 315 (by decide +kernel) rfl⟩
set_option maxRecDepth 20000 in
theorem lk10_230 : LKd RX10 230 TX0 2 := Or.inr ⟨"StolenCup", tb 317 (by decide +kernel) rfl⟩
set_option maxRecDepth 20000 in
theorem lk10_233 : LKd RX10 233 TX0 4 := Or.inr ⟨"StolenCup", tb 320 (by decide +kernel) rfl⟩
set_option maxRecDepth 20000 in
theorem kc_X10_236 : Cond.constant RX10 236 (-2000000000) ∈ lw_tbl := List.mem_append_right _ (List.mem_of_getElem? (i := 831) (by decide +kernel))
set_option maxRecDepth 20000 in
theorem ml10_237 : MLd RX10 237 yX0_lossOf := Or.inr ⟨"StolenCup", tb 832 (by decide +kernel) rfl⟩
set_option maxRecDepth 20000 in
theorem mv_X0_lossOf : MVd yX0_lossOf cX0_lossOf 6 (some .int) 1 := ⟨tb 834 (by decide +kernel) rfl, List.mem_filter.mpr ⟨tbp 60 (by decide +kernel), rfl⟩, tb 12 (by decide +kernel) rfl, tb 835 (by decide +kernel) rfl, (by decide +kernel), Nat.le_of_ble_eq_true rfl⟩
set_option maxRecDepth 20000 in
theorem ml10_240 : MLd RX10 240 yX7_build := Or.inr ⟨"StolenCup", tb 845 (by decide +kernel) rfl⟩
set_option maxRecDepth 20000 in
theorem mv_X7_build : MVd yX7_build cX7_build 4 none 3 := ⟨tb 847 (by decide +kernel) rfl, List.mem_filter.mpr ⟨tbp 61 (by decide +kernel), rfl⟩, tb 3 (by decide +kernel) rfl, tb 848 (by decide +kernel) rfl, (by decide +kernel), Nat.le_of_ble_eq_true rfl⟩
set_option maxRecDepth 20000 in
theorem ml10_244 : MLd RX10 244 yX10_canBeSoldOn := Or.inl (tb 853 (by decide +kernel) rfl)
set_option maxRecDepth 20000 in
theorem mv_X10_canBeSoldOn : MVd yX10_canBeSoldOn cX10_canBeSoldOn 6 (some .boolean) 5 := ⟨tb 855 (by decide +kernel) rfl, List.mem_filter.mpr ⟨tbp 62 (by decide +kernel), rfl⟩, tb 1 (by decide +kernel) rfl, tb 856 (by decide +kernel) rfl, (by decide +kernel), Nat.le_of_ble_eq_true rfl⟩
set_option maxRecDepth 20000 in
theorem ml10_248 : MLd RX10 248 yX7_reckonFrom := Or.inr ⟨"StolenCup", tb 857 (by decide +kernel) rfl⟩
set_option maxRecDepth 20000 in
theorem mv_X7_reckonFrom : MVd yX7_reckonFrom cX7_reckonFrom 5 none 1 := ⟨tb 859 (by decide +kernel) rfl, List.mem_filter.mpr ⟨tbp 63 (by decide +kernel), rfl⟩, tb 3 (by decide +kernel) rfl, tb 860 (by decide +kernel) rfl, (by decide +kernel), Nat.le_of_ble_eq_true rfl⟩
set_option maxRecDepth 20000 in
theorem ml10_251 : MLd RX10 251 yX10_stage := Or.inl (tb 865 (by decide +kernel) rfl)
set_option maxRecDepth 20000 in
theorem mv_X10_stage : MVd yX10_stage cX10_stage 7 (some (.object "StolenCup$Passing")) 4 := ⟨tb 867 (by decide +kernel) rfl, List.mem_filter.mpr ⟨tbp 65 (by decide +kernel), rfl⟩, tb 1 (by decide +kernel) rfl, tb 868 (by decide +kernel) rfl, (by decide +kernel), Nat.le_of_ble_eq_true rfl⟩
set_option maxRecDepth 20000 in
theorem lk10_255 : LKd RX10 255 TX5 2 := Or.inr ⟨"StolenCup", tb 126 (by decide +kernel) rfl⟩
set_option maxRecDepth 20000 in
theorem fn10_255 {ini : Bool} : FNd RX10 ini 255 TX5 2 := Or.inl ⟨rfl, lk10_255⟩
set_option maxRecDepth 20000 in
theorem lk10_258 : LKd RX10 258 TX7 1 := Or.inr ⟨"StolenCup", tb 65 (by decide +kernel) rfl⟩
set_option maxRecDepth 20000 in
theorem ml10_261 : MLd RX10 261 yX10_unstage := Or.inl (tb 869 (by decide +kernel) rfl)
set_option maxRecDepth 20000 in
theorem mv_X10_unstage : MVd yX10_unstage cX10_unstage 2 none 1 := ⟨tb 871 (by decide +kernel) rfl, List.mem_filter.mpr ⟨tbp 66 (by decide +kernel), rfl⟩, tb 1 (by decide +kernel) rfl, tb 872 (by decide +kernel) rfl, (by decide +kernel), Nat.le_of_ble_eq_true rfl⟩
set_option maxRecDepth 20000 in
theorem kc_X10_264 : Cond.constant RX10 264 100000 ∈ lw_tbl := List.mem_append_right _ (List.mem_of_getElem? (i := 877) (by decide +kernel))
set_option maxRecDepth 20000 in
theorem ml10_265 : MLd RX10 265 yX10_setsOfLandsWithSales := Or.inl (tb 878 (by decide +kernel) rfl)
set_option maxRecDepth 20000 in
theorem mv_X10_setsOfLandsWithSales : MVd yX10_setsOfLandsWithSales cX10_setsOfLandsWithSales 5 (some .long) 0 := ⟨tb 880 (by decide +kernel) rfl, List.mem_filter.mpr ⟨tbp 67 (by decide +kernel), rfl⟩, tb 1 (by decide +kernel) rfl, tb 881 (by decide +kernel) rfl, (by decide +kernel), Nat.le_of_ble_eq_true rfl⟩
set_option maxRecDepth 20000 in
theorem ml10_269 : MLd RX10 269 yX10_setsThatGive := Or.inl (tb 883 (by decide +kernel) rfl)
set_option maxRecDepth 20000 in
theorem mv_X10_setsThatGive : MVd yX10_setsThatGive cX10_setsThatGive 8 (some .long) 3 := ⟨tb 885 (by decide +kernel) rfl, List.mem_filter.mpr ⟨tbp 68 (by decide +kernel), rfl⟩, tb 1 (by decide +kernel) rfl, tb 886 (by decide +kernel) rfl, (by decide +kernel), Nat.le_of_ble_eq_true rfl⟩
set_option maxRecDepth 20000 in
theorem ml10_273 : MLd RX10 273 yX10_leastSet := Or.inl (tb 888 (by decide +kernel) rfl)
set_option maxRecDepth 20000 in
theorem ms_X10_leastSet : MSd yX10_leastSet cX10_leastSet 4 (some .int) 1 := ⟨tb 889 (by decide +kernel) rfl, tb 1 (by decide +kernel) rfl, tb 890 (by decide +kernel) rfl, (by decide +kernel), Nat.le_of_ble_eq_true rfl⟩
set_option maxRecDepth 20000 in
theorem ml10_277 : MLd RX10 277 yX8_number := Or.inr ⟨"StolenCup", tb 901 (by decide +kernel) rfl⟩
set_option maxRecDepth 20000 in
theorem mv_X8_number : MVd yX8_number cX8_number 4 (some .int) 1 := ⟨tb 903 (by decide +kernel) rfl, List.mem_filter.mpr ⟨tbp 69 (by decide +kernel), rfl⟩, tb 2 (by decide +kernel) rfl, tb 904 (by decide +kernel) rfl, (by decide +kernel), Nat.le_of_ble_eq_true rfl⟩
set_option maxRecDepth 20000 in
theorem ml10_280 : MLd RX10 280 yX9_fromWhom := Or.inr ⟨"StolenCup", tb 909 (by decide +kernel) rfl⟩
set_option maxRecDepth 20000 in
theorem ml10_283 : MLd RX10 283 yX5_field := Or.inr ⟨"StolenCup", tb 910 (by decide +kernel) rfl⟩
set_option maxRecDepth 20000 in
theorem mv_X5_field : MVd yX5_field cX5_field 2 (some .int) 1 := ⟨tb 912 (by decide +kernel) rfl, List.mem_filter.mpr ⟨tbp 70 (by decide +kernel), rfl⟩, tb 7 (by decide +kernel) rfl, tb 913 (by decide +kernel) rfl, (by decide +kernel), Nat.le_of_ble_eq_true rfl⟩
set_option maxRecDepth 20000 in
theorem lk10_286 : LKd RX10 286 TX3 5 := Or.inr ⟨"StolenCup", tb 90 (by decide +kernel) rfl⟩
set_option maxRecDepth 20000 in
theorem ml10_289 : MLd RX10 289 yX1_walk := Or.inr ⟨"StolenCup", tb 640 (by decide +kernel) rfl⟩
set_option maxRecDepth 20000 in
theorem mv_X1_walk : MVd yX1_walk cX1_walk 4 none 0 := ⟨tb 642 (by decide +kernel) rfl, List.mem_filter.mpr ⟨tbp 30 (by decide +kernel), rfl⟩, tb 9 (by decide +kernel) rfl, tb 643 (by decide +kernel) rfl, (by decide +kernel), Nat.le_of_ble_eq_true rfl⟩
set_option maxRecDepth 20000 in
theorem ml10_292 : MLd RX10 292 yX1_ownerNow := Or.inr ⟨"StolenCup", tb 714 (by decide +kernel) rfl⟩
set_option maxRecDepth 20000 in
theorem fn10_204 {ini : Bool} : FNd RX10 ini 204 TX9 1 := Or.inl ⟨rfl, lk10_204⟩
set_option maxRecDepth 20000 in
theorem ml10_295 : MLd RX10 295 yX3_has := Or.inr ⟨"StolenCup", tb 882 (by decide +kernel) rfl⟩
set_option maxRecDepth 20000 in
theorem lk10_298 : LKd RX10 298 TX1 14 := Or.inr ⟨"StolenCup", tb 250 (by decide +kernel) rfl⟩
set_option maxRecDepth 20000 in
theorem fn10_298 {ini : Bool} : FNd RX10 ini 298 TX1 14 := Or.inl ⟨rfl, lk10_298⟩
set_option maxRecDepth 20000 in
theorem kl_X10_301 : Cond.constantLong RX10 301 (-1) ∈ lw_tbl := List.mem_append_right _ (List.mem_of_getElem? (i := 887) (by decide +kernel))
set_option maxRecDepth 20000 in
theorem ml10_303 : MLd RX10 303 yJ6_bitCount_0f7a4 := Or.inl (tb 891 (by decide +kernel) rfl)
set_option maxRecDepth 20000 in
theorem ms_J6_bitCount_0f7a4 : MSd yJ6_bitCount_0f7a4 cJ6_bitCount_0f7a4 1 (some .int) 1 := ⟨tb 892 (by decide +kernel) rfl, tb 21 (by decide +kernel) rfl, tb 893 (by decide +kernel) rfl, (by decide +kernel), Nat.le_of_ble_eq_true rfl⟩
set_option maxRecDepth 20000 in
theorem oi11_1 : Cond.methodLink RX11 1 Lib.objectInit ∈ TWL := tb 923 (by decide +kernel) rfl
set_option maxRecDepth 20000 in
theorem lk11_7 : LKd RX11 7 TX11 3 := Or.inl (tb 927 (by decide +kernel) rfl)
set_option maxRecDepth 20000 in
theorem fn11_7 : FNd RX11 true 7 TX11 3 := Or.inr ⟨rfl, rfl, rfl, tb 927 (by decide +kernel) rfl⟩
set_option maxRecDepth 20000 in
theorem lk11_13 : LKd RX11 13 TX11 4 := Or.inl (tb 928 (by decide +kernel) rfl)
set_option maxRecDepth 20000 in
theorem fn11_13 : FNd RX11 true 13 TX11 4 := Or.inr ⟨rfl, rfl, rfl, tb 928 (by decide +kernel) rfl⟩
set_option maxRecDepth 20000 in
theorem lk11_16 : LKd RX11 16 TX11 5 := Or.inl (tb 929 (by decide +kernel) rfl)
set_option maxRecDepth 20000 in
theorem fn11_16 : FNd RX11 true 16 TX11 5 := Or.inr ⟨rfl, rfl, rfl, tb 929 (by decide +kernel) rfl⟩
set_option maxRecDepth 20000 in
theorem lk11_19 : LKd RX11 19 TX11 6 := Or.inl (tb 930 (by decide +kernel) rfl)
set_option maxRecDepth 20000 in
theorem fn11_19 : FNd RX11 true 19 TX11 6 := Or.inr ⟨rfl, rfl, rfl, tb 930 (by decide +kernel) rfl⟩
set_option maxRecDepth 20000 in
theorem lk11_22 : LKd RX11 22 TX11 7 := Or.inl (tb 931 (by decide +kernel) rfl)
set_option maxRecDepth 20000 in
theorem fn11_22 : FNd RX11 true 22 TX11 7 := Or.inr ⟨rfl, rfl, rfl, tb 931 (by decide +kernel) rfl⟩
set_option maxRecDepth 20000 in
theorem lk11_25 : LKd RX11 25 TX11 8 := Or.inl (tb 932 (by decide +kernel) rfl)
set_option maxRecDepth 20000 in
theorem fn11_25 : FNd RX11 true 25 TX11 8 := Or.inr ⟨rfl, rfl, rfl, tb 932 (by decide +kernel) rfl⟩
set_option maxRecDepth 20000 in
theorem lk11_28 : LKd RX11 28 TX11 9 := Or.inl (tb 933 (by decide +kernel) rfl)
set_option maxRecDepth 20000 in
theorem fn11_28 : FNd RX11 true 28 TX11 9 := Or.inr ⟨rfl, rfl, rfl, tb 933 (by decide +kernel) rfl⟩
set_option maxRecDepth 20000 in
theorem lk11_31 : LKd RX11 31 TX11 10 := Or.inl (tb 934 (by decide +kernel) rfl)
set_option maxRecDepth 20000 in
theorem fn11_31 : FNd RX11 true 31 TX11 10 := Or.inr ⟨rfl, rfl, rfl, tb 934 (by decide +kernel) rfl⟩
set_option maxRecDepth 20000 in
theorem lk11_34 : LKd RX11 34 TX11 11 := Or.inl (tb 935 (by decide +kernel) rfl)
set_option maxRecDepth 20000 in
theorem fn11_34 : FNd RX11 true 34 TX11 11 := Or.inr ⟨rfl, rfl, rfl, tb 935 (by decide +kernel) rfl⟩
set_option maxRecDepth 20000 in
theorem lk11_37 : LKd RX11 37 TX11 12 := Or.inl (tb 936 (by decide +kernel) rfl)
set_option maxRecDepth 20000 in
theorem fn11_37 : FNd RX11 true 37 TX11 12 := Or.inr ⟨rfl, rfl, rfl, tb 936 (by decide +kernel) rfl⟩
set_option maxRecDepth 20000 in
theorem lk11_40 : LKd RX11 40 TX11 13 := Or.inl (tb 937 (by decide +kernel) rfl)
set_option maxRecDepth 20000 in
theorem fn11_40 : FNd RX11 true 40 TX11 13 := Or.inr ⟨rfl, rfl, rfl, tb 937 (by decide +kernel) rfl⟩
set_option maxRecDepth 20000 in
theorem lk11_43 : LKd RX11 43 TX11 14 := Or.inl (tb 938 (by decide +kernel) rfl)
set_option maxRecDepth 20000 in
theorem fn11_43 : FNd RX11 true 43 TX11 14 := Or.inr ⟨rfl, rfl, rfl, tb 938 (by decide +kernel) rfl⟩
set_option maxRecDepth 20000 in
theorem lk11_46 : LKd RX11 46 TX11 15 := Or.inl (tb 939 (by decide +kernel) rfl)
set_option maxRecDepth 20000 in
theorem fn11_46 : FNd RX11 true 46 TX11 15 := Or.inr ⟨rfl, rfl, rfl, tb 939 (by decide +kernel) rfl⟩
set_option maxRecDepth 20000 in
theorem lk11_49 : LKd RX11 49 TX11 16 := Or.inl (tb 940 (by decide +kernel) rfl)
set_option maxRecDepth 20000 in
theorem fn11_49 : FNd RX11 true 49 TX11 16 := Or.inr ⟨rfl, rfl, rfl, tb 940 (by decide +kernel) rfl⟩
set_option maxRecDepth 20000 in
theorem lk11_52 : LKd RX11 52 TX11 17 := Or.inl (tb 941 (by decide +kernel) rfl)
set_option maxRecDepth 20000 in
theorem fn11_52 : FNd RX11 true 52 TX11 17 := Or.inr ⟨rfl, rfl, rfl, tb 941 (by decide +kernel) rfl⟩
set_option maxRecDepth 20000 in
theorem lk11_55 : LKd RX11 55 TX11 18 := Or.inl (tb 942 (by decide +kernel) rfl)
set_option maxRecDepth 20000 in
theorem fn11_55 : FNd RX11 true 55 TX11 18 := Or.inr ⟨rfl, rfl, rfl, tb 942 (by decide +kernel) rfl⟩
set_option maxRecDepth 20000 in
theorem lk11_58 : LKd RX11 58 TX11 19 := Or.inl (tb 943 (by decide +kernel) rfl)
set_option maxRecDepth 20000 in
theorem fn11_58 : FNd RX11 true 58 TX11 19 := Or.inr ⟨rfl, rfl, rfl, tb 943 (by decide +kernel) rfl⟩
set_option maxRecDepth 20000 in
theorem lk11_62 : LKd RX11 62 TX11 29 := Or.inl (tb 953 (by decide +kernel) rfl)
set_option maxRecDepth 20000 in
theorem fn11_62 : FNd RX11 true 62 TX11 29 := Or.inr ⟨rfl, rfl, rfl, tb 953 (by decide +kernel) rfl⟩
set_option maxRecDepth 20000 in
theorem lk11_65 : LKd RX11 65 TX11 30 := Or.inl (tb 954 (by decide +kernel) rfl)
set_option maxRecDepth 20000 in
theorem fn11_65 : FNd RX11 true 65 TX11 30 := Or.inr ⟨rfl, rfl, rfl, tb 954 (by decide +kernel) rfl⟩
set_option maxRecDepth 20000 in
theorem lk11_68 : LKd RX11 68 TX11 31 := Or.inl (tb 955 (by decide +kernel) rfl)
set_option maxRecDepth 20000 in
theorem fn11_68 : FNd RX11 true 68 TX11 31 := Or.inr ⟨rfl, rfl, rfl, tb 955 (by decide +kernel) rfl⟩
set_option maxRecDepth 20000 in
theorem lk11_71 : LKd RX11 71 TX11 32 := Or.inl (tb 956 (by decide +kernel) rfl)
set_option maxRecDepth 20000 in
theorem fn11_71 : FNd RX11 true 71 TX11 32 := Or.inr ⟨rfl, rfl, rfl, tb 956 (by decide +kernel) rfl⟩
set_option maxRecDepth 20000 in
theorem lk11_74 : LKd RX11 74 TX11 33 := Or.inl (tb 957 (by decide +kernel) rfl)
set_option maxRecDepth 20000 in
theorem fn11_74 : FNd RX11 true 74 TX11 33 := Or.inr ⟨rfl, rfl, rfl, tb 957 (by decide +kernel) rfl⟩
set_option maxRecDepth 20000 in
theorem lk11_77 : LKd RX11 77 TX11 34 := Or.inl (tb 958 (by decide +kernel) rfl)
set_option maxRecDepth 20000 in
theorem fn11_77 : FNd RX11 true 77 TX11 34 := Or.inr ⟨rfl, rfl, rfl, tb 958 (by decide +kernel) rfl⟩
set_option maxRecDepth 20000 in
theorem lk11_80 : LKd RX11 80 TX11 35 := Or.inl (tb 959 (by decide +kernel) rfl)
set_option maxRecDepth 20000 in
theorem fn11_80 : FNd RX11 true 80 TX11 35 := Or.inr ⟨rfl, rfl, rfl, tb 959 (by decide +kernel) rfl⟩
set_option maxRecDepth 20000 in
theorem lk11_83 : LKd RX11 83 TX11 36 := Or.inl (tb 960 (by decide +kernel) rfl)
set_option maxRecDepth 20000 in
theorem fn11_83 : FNd RX11 true 83 TX11 36 := Or.inr ⟨rfl, rfl, rfl, tb 960 (by decide +kernel) rfl⟩
set_option maxRecDepth 20000 in
theorem lk11_86 : LKd RX11 86 TX11 37 := Or.inl (tb 961 (by decide +kernel) rfl)
set_option maxRecDepth 20000 in
theorem fn11_86 : FNd RX11 true 86 TX11 37 := Or.inr ⟨rfl, rfl, rfl, tb 961 (by decide +kernel) rfl⟩
set_option maxRecDepth 20000 in
theorem lk11_89 : LKd RX11 89 TX11 38 := Or.inl (tb 962 (by decide +kernel) rfl)
set_option maxRecDepth 20000 in
theorem fn11_89 : FNd RX11 true 89 TX11 38 := Or.inr ⟨rfl, rfl, rfl, tb 962 (by decide +kernel) rfl⟩
set_option maxRecDepth 20000 in
theorem lk11_92 : LKd RX11 92 TX11 39 := Or.inl (tb 963 (by decide +kernel) rfl)
set_option maxRecDepth 20000 in
theorem fn11_92 : FNd RX11 true 92 TX11 39 := Or.inr ⟨rfl, rfl, rfl, tb 963 (by decide +kernel) rfl⟩
set_option maxRecDepth 20000 in
theorem lk11_95 : LKd RX11 95 TX11 40 := Or.inl (tb 964 (by decide +kernel) rfl)
set_option maxRecDepth 20000 in
theorem fn11_95 : FNd RX11 true 95 TX11 40 := Or.inr ⟨rfl, rfl, rfl, tb 964 (by decide +kernel) rfl⟩
set_option maxRecDepth 20000 in
theorem lk11_98 : LKd RX11 98 TX11 42 := Or.inl (tb 966 (by decide +kernel) rfl)
set_option maxRecDepth 20000 in
theorem fn11_98 : FNd RX11 true 98 TX11 42 := Or.inr ⟨rfl, rfl, rfl, tb 966 (by decide +kernel) rfl⟩
set_option maxRecDepth 20000 in
theorem lk11_101 : LKd RX11 101 TX11 43 := Or.inl (tb 967 (by decide +kernel) rfl)
set_option maxRecDepth 20000 in
theorem fn11_101 : FNd RX11 true 101 TX11 43 := Or.inr ⟨rfl, rfl, rfl, tb 967 (by decide +kernel) rfl⟩
set_option maxRecDepth 20000 in
theorem lk11_104 : LKd RX11 104 TX11 44 := Or.inl (tb 968 (by decide +kernel) rfl)
set_option maxRecDepth 20000 in
theorem fn11_104 : FNd RX11 true 104 TX11 44 := Or.inr ⟨rfl, rfl, rfl, tb 968 (by decide +kernel) rfl⟩
set_option maxRecDepth 20000 in
theorem lk11_107 : LKd RX11 107 TX11 45 := Or.inl (tb 969 (by decide +kernel) rfl)
set_option maxRecDepth 20000 in
theorem fn11_107 : FNd RX11 true 107 TX11 45 := Or.inr ⟨rfl, rfl, rfl, tb 969 (by decide +kernel) rfl⟩
set_option maxRecDepth 20000 in
theorem lk11_110 : LKd RX11 110 TX11 46 := Or.inl (tb 970 (by decide +kernel) rfl)
set_option maxRecDepth 20000 in
theorem fn11_110 : FNd RX11 true 110 TX11 46 := Or.inr ⟨rfl, rfl, rfl, tb 970 (by decide +kernel) rfl⟩
set_option maxRecDepth 20000 in
theorem lk11_113 : LKd RX11 113 TX11 47 := Or.inl (tb 971 (by decide +kernel) rfl)
set_option maxRecDepth 20000 in
theorem fn11_113 : FNd RX11 true 113 TX11 47 := Or.inr ⟨rfl, rfl, rfl, tb 971 (by decide +kernel) rfl⟩
set_option maxRecDepth 20000 in
theorem lk11_116 : LKd RX11 116 TX11 48 := Or.inl (tb 972 (by decide +kernel) rfl)
set_option maxRecDepth 20000 in
theorem fn11_116 : FNd RX11 true 116 TX11 48 := Or.inr ⟨rfl, rfl, rfl, tb 972 (by decide +kernel) rfl⟩
set_option maxRecDepth 20000 in
theorem lk11_119 : LKd RX11 119 TX11 49 := Or.inl (tb 973 (by decide +kernel) rfl)
set_option maxRecDepth 20000 in
theorem fn11_119 : FNd RX11 true 119 TX11 49 := Or.inr ⟨rfl, rfl, rfl, tb 973 (by decide +kernel) rfl⟩
set_option maxRecDepth 20000 in
theorem lk11_123 : LKd RX11 123 TX11 53 := Or.inl (tb 977 (by decide +kernel) rfl)
set_option maxRecDepth 20000 in
theorem fn11_123 : FNd RX11 true 123 TX11 53 := Or.inr ⟨rfl, rfl, rfl, tb 977 (by decide +kernel) rfl⟩
set_option maxRecDepth 20000 in
theorem lk11_126 : LKd RX11 126 TX11 54 := Or.inl (tb 978 (by decide +kernel) rfl)
set_option maxRecDepth 20000 in
theorem fn11_126 : FNd RX11 true 126 TX11 54 := Or.inr ⟨rfl, rfl, rfl, tb 978 (by decide +kernel) rfl⟩
set_option maxRecDepth 20000 in
theorem lk11_129 : LKd RX11 129 TX11 55 := Or.inl (tb 979 (by decide +kernel) rfl)
set_option maxRecDepth 20000 in
theorem fn11_129 : FNd RX11 true 129 TX11 55 := Or.inr ⟨rfl, rfl, rfl, tb 979 (by decide +kernel) rfl⟩
set_option maxRecDepth 20000 in
theorem lk11_132 : LKd RX11 132 TX11 57 := Or.inl (tb 981 (by decide +kernel) rfl)
set_option maxRecDepth 20000 in
theorem fn11_132 : FNd RX11 true 132 TX11 57 := Or.inr ⟨rfl, rfl, rfl, tb 981 (by decide +kernel) rfl⟩
set_option maxRecDepth 20000 in
theorem lk11_135 : LKd RX11 135 TX11 58 := Or.inl (tb 982 (by decide +kernel) rfl)
set_option maxRecDepth 20000 in
theorem fn11_135 : FNd RX11 true 135 TX11 58 := Or.inr ⟨rfl, rfl, rfl, tb 982 (by decide +kernel) rfl⟩
set_option maxRecDepth 20000 in
theorem lk11_138 : LKd RX11 138 TX11 59 := Or.inl (tb 983 (by decide +kernel) rfl)
set_option maxRecDepth 20000 in
theorem fn11_138 : FNd RX11 true 138 TX11 59 := Or.inr ⟨rfl, rfl, rfl, tb 983 (by decide +kernel) rfl⟩
set_option maxRecDepth 20000 in
theorem lk11_141 : LKd RX11 141 TX11 60 := Or.inl (tb 984 (by decide +kernel) rfl)
set_option maxRecDepth 20000 in
theorem fn11_141 : FNd RX11 true 141 TX11 60 := Or.inr ⟨rfl, rfl, rfl, tb 984 (by decide +kernel) rfl⟩
set_option maxRecDepth 20000 in
theorem lk11_144 : LKd RX11 144 TX11 61 := Or.inl (tb 985 (by decide +kernel) rfl)
set_option maxRecDepth 20000 in
theorem fn11_144 : FNd RX11 true 144 TX11 61 := Or.inr ⟨rfl, rfl, rfl, tb 985 (by decide +kernel) rfl⟩
set_option maxRecDepth 20000 in
theorem lk11_147 : LKd RX11 147 TX11 1 := Or.inl (tb 925 (by decide +kernel) rfl)
set_option maxRecDepth 20000 in
theorem lk11_151 : LKd RX11 151 TX11 2 := Or.inl (tb 926 (by decide +kernel) rfl)
set_option maxRecDepth 20000 in
theorem ml11_154 : MLd RX11 154 yX11_isThing := Or.inl (tb 1139 (by decide +kernel) rfl)
set_option maxRecDepth 20000 in
theorem mv_X11_isThing : MVd yX11_isThing cX11_isThing 2 (some .boolean) 1 := ⟨tb 1141 (by decide +kernel) rfl, List.mem_filter.mpr ⟨tbp 72 (by decide +kernel), rfl⟩, tb 13 (by decide +kernel) rfl, tb 1142 (by decide +kernel) rfl, (by decide +kernel), Nat.le_of_ble_eq_true rfl⟩
set_option maxRecDepth 20000 in
theorem lk11_158 : LKd RX11 158 TX11 0 := Or.inl (tb 924 (by decide +kernel) rfl)
set_option maxRecDepth 20000 in
theorem ml11_161 : MLd RX11 161 yX11_in := Or.inl (tb 1116 (by decide +kernel) rfl)
set_option maxRecDepth 20000 in
theorem ms_X11_in : MSd yX11_in cX11_in 3 (some .boolean) 3 := ⟨tb 1117 (by decide +kernel) rfl, tb 13 (by decide +kernel) rfl, tb 1118 (by decide +kernel) rfl, (by decide +kernel), Nat.le_of_ble_eq_true rfl⟩
set_option maxRecDepth 20000 in
theorem fn11_158 {ini : Bool} : FNd RX11 ini 158 TX11 0 := Or.inl ⟨rfl, lk11_158⟩
set_option maxRecDepth 20000 in
theorem ml11_165 : MLd RX11 165 yX11_isLand := Or.inl (tb 1123 (by decide +kernel) rfl)
set_option maxRecDepth 20000 in
theorem ms_X11_isLand : MSd yX11_isLand cX11_isLand 1 (some .boolean) 1 := ⟨tb 1124 (by decide +kernel) rfl, tb 13 (by decide +kernel) rfl, tb 1125 (by decide +kernel) rfl, (by decide +kernel), Nat.le_of_ble_eq_true rfl⟩
set_option maxRecDepth 20000 in
theorem kc_X11_168 : Cond.constant RX11 168 1000000 ∈ lw_tbl := List.mem_append_right _ (List.mem_of_getElem? (i := 1126) (by decide +kernel))
set_option maxRecDepth 20000 in
theorem fn11_147 {ini : Bool} : FNd RX11 ini 147 TX11 1 := Or.inl ⟨rfl, lk11_147⟩
set_option maxRecDepth 20000 in
theorem ml11_169 : MLd RX11 169 yX11_isPerson := Or.inl (tb 1131 (by decide +kernel) rfl)
set_option maxRecDepth 20000 in
theorem mv_X11_isPerson : MVd yX11_isPerson cX11_isPerson 2 (some .boolean) 1 := ⟨tb 1133 (by decide +kernel) rfl, List.mem_filter.mpr ⟨tbp 71 (by decide +kernel), rfl⟩, tb 13 (by decide +kernel) rfl, tb 1134 (by decide +kernel) rfl, (by decide +kernel), Nat.le_of_ble_eq_true rfl⟩
set_option maxRecDepth 20000 in
theorem fn11_151 {ini : Bool} : FNd RX11 ini 151 TX11 2 := Or.inl ⟨rfl, lk11_151⟩
set_option maxRecDepth 20000 in
theorem ml11_172 : MLd RX11 172 yX11_isMind := Or.inl (tb 1143 (by decide +kernel) rfl)
set_option maxRecDepth 20000 in
theorem ms_X11_isMind : MSd yX11_isMind cX11_isMind 2 (some .boolean) 2 := ⟨tb 1144 (by decide +kernel) rfl, tb 13 (by decide +kernel) rfl, tb 1145 (by decide +kernel) rfl, (by decide +kernel), Nat.le_of_ble_eq_true rfl⟩
set_option maxRecDepth 20000 in
theorem ml11_176 : MLd RX11 176 yX11_fromOf := Or.inl (tb 1146 (by decide +kernel) rfl)
set_option maxRecDepth 20000 in
theorem mv_X11_fromOf : MVd yX11_fromOf cX11_fromOf 3 (some .int) 2 := ⟨tb 1148 (by decide +kernel) rfl, List.mem_filter.mpr ⟨tbp 73 (by decide +kernel), rfl⟩, tb 13 (by decide +kernel) rfl, tb 1149 (by decide +kernel) rfl, (by decide +kernel), Nat.le_of_ble_eq_true rfl⟩
set_option maxRecDepth 20000 in
theorem ml11_180 : MLd RX11 180 yX11_moves := Or.inl (tb 1150 (by decide +kernel) rfl)
set_option maxRecDepth 20000 in
theorem mv_X11_moves : MVd yX11_moves cX11_moves 3 none 2 := ⟨tb 1152 (by decide +kernel) rfl, List.mem_filter.mpr ⟨tbp 74 (by decide +kernel), rfl⟩, tb 13 (by decide +kernel) rfl, tb 1153 (by decide +kernel) rfl, (by decide +kernel), Nat.le_of_ble_eq_true rfl⟩
set_option maxRecDepth 20000 in
theorem ml11_184 : MLd RX11 184 yX11_puts := Or.inl (tb 1154 (by decide +kernel) rfl)
set_option maxRecDepth 20000 in
theorem mv_X11_puts : MVd yX11_puts cX11_puts 10 none 9 := ⟨tb 1156 (by decide +kernel) rfl, List.mem_filter.mpr ⟨tbp 75 (by decide +kernel), rfl⟩, tb 13 (by decide +kernel) rfl, tb 1157 (by decide +kernel) rfl, (by decide +kernel), Nat.le_of_ble_eq_true rfl⟩
set_option maxRecDepth 20000 in
theorem ml11_188 : MLd RX11 188 yX11_isPassing := Or.inl (tb 1162 (by decide +kernel) rfl)
set_option maxRecDepth 20000 in
theorem mv_X11_isPassing : MVd yX11_isPassing cX11_isPassing 3 (some .boolean) 2 := ⟨tb 1164 (by decide +kernel) rfl, List.mem_filter.mpr ⟨tbp 76 (by decide +kernel), rfl⟩, tb 13 (by decide +kernel) rfl, tb 1165 (by decide +kernel) rfl, (by decide +kernel), Nat.le_of_ble_eq_true rfl⟩
set_option maxRecDepth 20000 in
theorem ml11_191 : MLd RX11 191 yX11_holderOf := Or.inl (tb 1170 (by decide +kernel) rfl)
set_option maxRecDepth 20000 in
theorem mv_X11_holderOf : MVd yX11_holderOf cX11_holderOf 2 (some .int) 1 := ⟨tb 1172 (by decide +kernel) rfl, List.mem_filter.mpr ⟨tbp 77 (by decide +kernel), rfl⟩, tb 13 (by decide +kernel) rfl, tb 1173 (by decide +kernel) rfl, (by decide +kernel), Nat.le_of_ble_eq_true rfl⟩
set_option maxRecDepth 20000 in
theorem ml11_195 : MLd RX11 195 yX11_registered := Or.inl (tb 1178 (by decide +kernel) rfl)
set_option maxRecDepth 20000 in
theorem mv_X11_registered : MVd yX11_registered cX11_registered 5 (some .int) 2 := ⟨tb 1180 (by decide +kernel) rfl, List.mem_filter.mpr ⟨tbp 78 (by decide +kernel), rfl⟩, tb 13 (by decide +kernel) rfl, tb 1181 (by decide +kernel) rfl, (by decide +kernel), Nat.le_of_ble_eq_true rfl⟩
set_option maxRecDepth 20000 in
theorem lk11_198 : LKd RX11 198 TX11 20 := Or.inl (tb 944 (by decide +kernel) rfl)
set_option maxRecDepth 20000 in
theorem fn11_198 {ini : Bool} : FNd RX11 ini 198 TX11 20 := Or.inl ⟨rfl, lk11_198⟩
set_option maxRecDepth 20000 in
theorem ml11_201 : MLd RX11 201 yX11_types := Or.inl (tb 1194 (by decide +kernel) rfl)
set_option maxRecDepth 20000 in
theorem mv_X11_types : MVd yX11_types cX11_types 3 none 1 := ⟨tb 1196 (by decide +kernel) rfl, List.mem_filter.mpr ⟨tbp 79 (by decide +kernel), rfl⟩, tb 13 (by decide +kernel) rfl, tb 1197 (by decide +kernel) rfl, (by decide +kernel), Nat.le_of_ble_eq_true rfl⟩
set_option maxRecDepth 20000 in
theorem lk11_205 : LKd RX11 205 TX11 21 := Or.inl (tb 945 (by decide +kernel) rfl)
set_option maxRecDepth 20000 in
theorem lk11_208 : LKd RX11 208 TX11 22 := Or.inl (tb 946 (by decide +kernel) rfl)
set_option maxRecDepth 20000 in
theorem ml11_211 : MLd RX11 211 yX11_here := Or.inl (tb 1206 (by decide +kernel) rfl)
set_option maxRecDepth 20000 in
theorem mv_X11_here : MVd yX11_here cX11_here 1 (some .int) 0 := ⟨tb 1208 (by decide +kernel) rfl, List.mem_filter.mpr ⟨tbp 81 (by decide +kernel), rfl⟩, tb 13 (by decide +kernel) rfl, tb 1209 (by decide +kernel) rfl, (by decide +kernel), Nat.le_of_ble_eq_true rfl⟩
set_option maxRecDepth 20000 in
theorem lk11_215 : LKd RX11 215 TX11 23 := Or.inl (tb 947 (by decide +kernel) rfl)
set_option maxRecDepth 20000 in
theorem fn11_215 {ini : Bool} : FNd RX11 ini 215 TX11 23 := Or.inl ⟨rfl, lk11_215⟩
set_option maxRecDepth 20000 in
theorem ml11_218 : MLd RX11 218 yX11_wrong := Or.inl (tb 1213 (by decide +kernel) rfl)
set_option maxRecDepth 20000 in
theorem mv_X11_wrong : MVd yX11_wrong cX11_wrong 3 (some .boolean) 2 := ⟨tb 1215 (by decide +kernel) rfl, List.mem_filter.mpr ⟨tbp 82 (by decide +kernel), rfl⟩, tb 13 (by decide +kernel) rfl, tb 1216 (by decide +kernel) rfl, (by decide +kernel), Nat.le_of_ble_eq_true rfl⟩
set_option maxRecDepth 20000 in
theorem fn11_205 {ini : Bool} : FNd RX11 ini 205 TX11 21 := Or.inl ⟨rfl, lk11_205⟩
set_option maxRecDepth 20000 in
theorem lk11_221 : LKd RX11 221 TX11 28 := Or.inl (tb 952 (by decide +kernel) rfl)
set_option maxRecDepth 20000 in
theorem fn11_221 {ini : Bool} : FNd RX11 ini 221 TX11 28 := Or.inl ⟨rfl, lk11_221⟩
set_option maxRecDepth 20000 in
theorem ml11_224 : MLd RX11 224 yX11_isDigit := Or.inl (tb 1238 (by decide +kernel) rfl)
set_option maxRecDepth 20000 in
theorem mv_X11_isDigit : MVd yX11_isDigit cX11_isDigit 1 (some .boolean) 0 := ⟨tb 1240 (by decide +kernel) rfl, List.mem_filter.mpr ⟨tbp 88 (by decide +kernel), rfl⟩, tb 13 (by decide +kernel) rfl, tb 1241 (by decide +kernel) rfl, (by decide +kernel), Nat.le_of_ble_eq_true rfl⟩
set_option maxRecDepth 20000 in
theorem lk11_228 : LKd RX11 228 TX11 25 := Or.inl (tb 949 (by decide +kernel) rfl)
set_option maxRecDepth 20000 in
theorem kc_X11_231 : Cond.constant RX11 231 1048576 ∈ lw_tbl := List.mem_append_right _ (List.mem_of_getElem? (i := 1225) (by decide +kernel))
set_option maxRecDepth 20000 in
theorem fn11_228 {ini : Bool} : FNd RX11 ini 228 TX11 25 := Or.inl ⟨rfl, lk11_228⟩
set_option maxRecDepth 20000 in
theorem lk11_232 : LKd RX11 232 TX11 24 := Or.inl (tb 948 (by decide +kernel) rfl)
set_option maxRecDepth 20000 in
theorem fn11_232 {ini : Bool} : FNd RX11 ini 232 TX11 24 := Or.inl ⟨rfl, lk11_232⟩
set_option maxRecDepth 20000 in
theorem lk11_235 : LKd RX11 235 TX11 26 := Or.inl (tb 950 (by decide +kernel) rfl)
set_option maxRecDepth 20000 in
theorem fn11_235 {ini : Bool} : FNd RX11 ini 235 TX11 26 := Or.inl ⟨rfl, lk11_235⟩
set_option maxRecDepth 20000 in
theorem ml11_238 : MLd RX11 238 yX11_top := Or.inl (tb 1260 (by decide +kernel) rfl)
set_option maxRecDepth 20000 in
theorem mv_X11_top : MVd yX11_top cX11_top 1 (some .int) 0 := ⟨tb 1262 (by decide +kernel) rfl, List.mem_filter.mpr ⟨tbp 92 (by decide +kernel), rfl⟩, tb 13 (by decide +kernel) rfl, tb 1263 (by decide +kernel) rfl, (by decide +kernel), Nat.le_of_ble_eq_true rfl⟩
set_option maxRecDepth 20000 in
theorem ml11_241 : MLd RX11 241 yX11_says := Or.inl (tb 1246 (by decide +kernel) rfl)
set_option maxRecDepth 20000 in
theorem mv_X11_says : MVd yX11_says cX11_says 3 none 2 := ⟨tb 1248 (by decide +kernel) rfl, List.mem_filter.mpr ⟨tbp 90 (by decide +kernel), rfl⟩, tb 13 (by decide +kernel) rfl, tb 1249 (by decide +kernel) rfl, (by decide +kernel), Nat.le_of_ble_eq_true rfl⟩
set_option maxRecDepth 20000 in
theorem ml11_244 : MLd RX11 244 yX11_opens := Or.inl (tb 1221 (by decide +kernel) rfl)
set_option maxRecDepth 20000 in
theorem mv_X11_opens : MVd yX11_opens cX11_opens 2 (some .boolean) 1 := ⟨tb 1223 (by decide +kernel) rfl, List.mem_filter.mpr ⟨tbp 84 (by decide +kernel), rfl⟩, tb 13 (by decide +kernel) rfl, tb 1224 (by decide +kernel) rfl, (by decide +kernel), Nat.le_of_ble_eq_true rfl⟩
set_option maxRecDepth 20000 in
theorem ml11_247 : MLd RX11 247 yX11_readsNumber := Or.inl (tb 1242 (by decide +kernel) rfl)
set_option maxRecDepth 20000 in
theorem mv_X11_readsNumber : MVd yX11_readsNumber cX11_readsNumber 2 (some .boolean) 0 := ⟨tb 1244 (by decide +kernel) rfl, List.mem_filter.mpr ⟨tbp 89 (by decide +kernel), rfl⟩, tb 13 (by decide +kernel) rfl, tb 1245 (by decide +kernel) rfl, (by decide +kernel), Nat.le_of_ble_eq_true rfl⟩
set_option maxRecDepth 20000 in
theorem ml11_250 : MLd RX11 250 yX11_factOf := Or.inl (tb 1250 (by decide +kernel) rfl)
set_option maxRecDepth 20000 in
theorem ms_X11_factOf : MSd yX11_factOf cX11_factOf 1 (some .int) 1 := ⟨tb 1251 (by decide +kernel) rfl, tb 13 (by decide +kernel) rfl, tb 1252 (by decide +kernel) rfl, (by decide +kernel), Nat.le_of_ble_eq_true rfl⟩
set_option maxRecDepth 20000 in
theorem ml11_253 : MLd RX11 253 yX11_readsFactor := Or.inl (tb 1234 (by decide +kernel) rfl)
set_option maxRecDepth 20000 in
theorem mv_X11_readsFactor : MVd yX11_readsFactor cX11_readsFactor 2 (some .boolean) 0 := ⟨tb 1236 (by decide +kernel) rfl, List.mem_filter.mpr ⟨tbp 87 (by decide +kernel), rfl⟩, tb 13 (by decide +kernel) rfl, tb 1237 (by decide +kernel) rfl, (by decide +kernel), Nat.le_of_ble_eq_true rfl⟩
set_option maxRecDepth 20000 in
theorem ml11_256 : MLd RX11 256 yX11_sumSign := Or.inl (tb 1253 (by decide +kernel) rfl)
set_option maxRecDepth 20000 in
theorem ms_X11_sumSign : MSd yX11_sumSign cX11_sumSign 1 (some .int) 1 := ⟨tb 1254 (by decide +kernel) rfl, tb 13 (by decide +kernel) rfl, tb 1255 (by decide +kernel) rfl, (by decide +kernel), Nat.le_of_ble_eq_true rfl⟩
set_option maxRecDepth 20000 in
theorem ml11_259 : MLd RX11 259 yX11_closesSums := Or.inl (tb 1256 (by decide +kernel) rfl)
set_option maxRecDepth 20000 in
theorem mv_X11_closesSums : MVd yX11_closesSums cX11_closesSums 2 none 1 := ⟨tb 1258 (by decide +kernel) rfl, List.mem_filter.mpr ⟨tbp 91 (by decide +kernel), rfl⟩, tb 13 (by decide +kernel) rfl, tb 1259 (by decide +kernel) rfl, (by decide +kernel), Nat.le_of_ble_eq_true rfl⟩
set_option maxRecDepth 20000 in
theorem ml11_263 : MLd RX11 263 yX11_hasOpenSum := Or.inl (tb 1264 (by decide +kernel) rfl)
set_option maxRecDepth 20000 in
theorem mv_X11_hasOpenSum : MVd yX11_hasOpenSum cX11_hasOpenSum 3 (some .boolean) 1 := ⟨tb 1266 (by decide +kernel) rfl, List.mem_filter.mpr ⟨tbp 93 (by decide +kernel), rfl⟩, tb 13 (by decide +kernel) rfl, tb 1267 (by decide +kernel) rfl, (by decide +kernel), Nat.le_of_ble_eq_true rfl⟩
set_option maxRecDepth 20000 in
theorem ml11_266 : MLd RX11 266 yX11_readsSum := Or.inl (tb 1230 (by decide +kernel) rfl)
set_option maxRecDepth 20000 in
theorem mv_X11_readsSum : MVd yX11_readsSum cX11_readsSum 3 (some .boolean) 0 := ⟨tb 1232 (by decide +kernel) rfl, List.mem_filter.mpr ⟨tbp 86 (by decide +kernel), rfl⟩, tb 13 (by decide +kernel) rfl, tb 1233 (by decide +kernel) rfl, (by decide +kernel), Nat.le_of_ble_eq_true rfl⟩
set_option maxRecDepth 20000 in
theorem ml11_269 : MLd RX11 269 yX11_endsPiece := Or.inl (tb 1268 (by decide +kernel) rfl)
set_option maxRecDepth 20000 in
theorem mv_X11_endsPiece : MVd yX11_endsPiece cX11_endsPiece 1 none 0 := ⟨tb 1270 (by decide +kernel) rfl, List.mem_filter.mpr ⟨tbp 94 (by decide +kernel), rfl⟩, tb 13 (by decide +kernel) rfl, tb 1271 (by decide +kernel) rfl, (by decide +kernel), Nat.le_of_ble_eq_true rfl⟩
set_option maxRecDepth 20000 in
theorem ml11_272 : MLd RX11 272 yX11_readsCompared := Or.inl (tb 1226 (by decide +kernel) rfl)
set_option maxRecDepth 20000 in
theorem mv_X11_readsCompared : MVd yX11_readsCompared cX11_readsCompared 2 (some .boolean) 0 := ⟨tb 1228 (by decide +kernel) rfl, List.mem_filter.mpr ⟨tbp 85 (by decide +kernel), rfl⟩, tb 13 (by decide +kernel) rfl, tb 1229 (by decide +kernel) rfl, (by decide +kernel), Nat.le_of_ble_eq_true rfl⟩
set_option maxRecDepth 20000 in
theorem ml11_275 : MLd RX11 275 yX11_lands := Or.inl (tb 1272 (by decide +kernel) rfl)
set_option maxRecDepth 20000 in
theorem mv_X11_lands : MVd yX11_lands cX11_lands 3 none 1 := ⟨tb 1274 (by decide +kernel) rfl, List.mem_filter.mpr ⟨tbp 95 (by decide +kernel), rfl⟩, tb 13 (by decide +kernel) rfl, tb 1275 (by decide +kernel) rfl, (by decide +kernel), Nat.le_of_ble_eq_true rfl⟩
set_option maxRecDepth 20000 in
theorem ml11_278 : MLd RX11 278 yX11_jumps := Or.inl (tb 1276 (by decide +kernel) rfl)
set_option maxRecDepth 20000 in
theorem mv_X11_jumps : MVd yX11_jumps cX11_jumps 2 none 1 := ⟨tb 1278 (by decide +kernel) rfl, List.mem_filter.mpr ⟨tbp 96 (by decide +kernel), rfl⟩, tb 13 (by decide +kernel) rfl, tb 1279 (by decide +kernel) rfl, (by decide +kernel), Nat.le_of_ble_eq_true rfl⟩
set_option maxRecDepth 20000 in
theorem ml11_281 : MLd RX11 281 yX11_isClauseLetter := Or.inl (tb 1210 (by decide +kernel) rfl)
set_option maxRecDepth 20000 in
theorem ms_X11_isClauseLetter : MSd yX11_isClauseLetter cX11_isClauseLetter 1 (some .boolean) 1 := ⟨tb 1211 (by decide +kernel) rfl, tb 13 (by decide +kernel) rfl, tb 1212 (by decide +kernel) rfl, (by decide +kernel), Nat.le_of_ble_eq_true rfl⟩
set_option maxRecDepth 20000 in
theorem lk11_284 : LKd RX11 284 TX11 27 := Or.inl (tb 951 (by decide +kernel) rfl)
set_option maxRecDepth 20000 in
theorem ml11_287 : MLd RX11 287 yX11_readsCondition := Or.inl (tb 1217 (by decide +kernel) rfl)
set_option maxRecDepth 20000 in
theorem mv_X11_readsCondition : MVd yX11_readsCondition cX11_readsCondition 1 (some .boolean) 0 := ⟨tb 1219 (by decide +kernel) rfl, List.mem_filter.mpr ⟨tbp 83 (by decide +kernel), rfl⟩, tb 13 (by decide +kernel) rfl, tb 1220 (by decide +kernel) rfl, (by decide +kernel), Nat.le_of_ble_eq_true rfl⟩
set_option maxRecDepth 20000 in
theorem fn11_284 {ini : Bool} : FNd RX11 ini 284 TX11 27 := Or.inl ⟨rfl, lk11_284⟩
set_option maxRecDepth 20000 in
theorem fn11_208 {ini : Bool} : FNd RX11 ini 208 TX11 22 := Or.inl ⟨rfl, lk11_208⟩
set_option maxRecDepth 20000 in
theorem ml11_290 : MLd RX11 290 yX11_readsClause := Or.inl (tb 1202 (by decide +kernel) rfl)
set_option maxRecDepth 20000 in
theorem mv_X11_readsClause : MVd yX11_readsClause cX11_readsClause 1 (some .boolean) 0 := ⟨tb 1204 (by decide +kernel) rfl, List.mem_filter.mpr ⟨tbp 80 (by decide +kernel), rfl⟩, tb 13 (by decide +kernel) rfl, tb 1205 (by decide +kernel) rfl, (by decide +kernel), Nat.le_of_ble_eq_true rfl⟩
set_option maxRecDepth 20000 in
theorem ml11_293 : MLd RX11 293 yX11_takes := Or.inl (tb 1280 (by decide +kernel) rfl)
set_option maxRecDepth 20000 in
theorem mv_X11_takes : MVd yX11_takes cX11_takes 2 (some .boolean) 1 := ⟨tb 1282 (by decide +kernel) rfl, List.mem_filter.mpr ⟨tbp 97 (by decide +kernel), rfl⟩, tb 13 (by decide +kernel) rfl, tb 1283 (by decide +kernel) rfl, (by decide +kernel), Nat.le_of_ble_eq_true rfl⟩
set_option maxRecDepth 20000 in
theorem ml11_296 : MLd RX11 296 yX11_reckon := Or.inl (tb 1327 (by decide +kernel) rfl)
set_option maxRecDepth 20000 in
theorem ms_X11_reckon : MSd yX11_reckon cX11_reckon 3 (some .int) 3 := ⟨tb 1328 (by decide +kernel) rfl, tb 13 (by decide +kernel) rfl, tb 1329 (by decide +kernel) rfl, (by decide +kernel), Nat.le_of_ble_eq_true rfl⟩
set_option maxRecDepth 20000 in
theorem lk11_300 : LKd RX11 300 TX11 50 := Or.inl (tb 974 (by decide +kernel) rfl)
set_option maxRecDepth 20000 in
theorem fn11_300 {ini : Bool} : FNd RX11 ini 300 TX11 50 := Or.inl ⟨rfl, lk11_300⟩
set_option maxRecDepth 20000 in
theorem ml11_304 : MLd RX11 304 yX11_target := Or.inl (tb 1315 (by decide +kernel) rfl)
set_option maxRecDepth 20000 in
theorem mv_X11_target : MVd yX11_target cX11_target 7 (some .int) 5 := ⟨tb 1317 (by decide +kernel) rfl, List.mem_filter.mpr ⟨tbp 104 (by decide +kernel), rfl⟩, tb 13 (by decide +kernel) rfl, tb 1318 (by decide +kernel) rfl, (by decide +kernel), Nat.le_of_ble_eq_true rfl⟩
set_option maxRecDepth 20000 in
theorem lk11_308 : LKd RX11 308 TX11 41 := Or.inl (tb 965 (by decide +kernel) rfl)
set_option maxRecDepth 20000 in
theorem ml11_311 : MLd RX11 311 yX11_isTrue := Or.inl (tb 1323 (by decide +kernel) rfl)
set_option maxRecDepth 20000 in
theorem mv_X11_isTrue : MVd yX11_isTrue cX11_isTrue 7 (some .boolean) 1 := ⟨tb 1325 (by decide +kernel) rfl, List.mem_filter.mpr ⟨tbp 106 (by decide +kernel), rfl⟩, tb 13 (by decide +kernel) rfl, tb 1326 (by decide +kernel) rfl, (by decide +kernel), Nat.le_of_ble_eq_true rfl⟩
set_option maxRecDepth 20000 in
theorem ml11_314 : MLd RX11 314 yX11_feels := Or.inl (tb 1307 (by decide +kernel) rfl)
set_option maxRecDepth 20000 in
theorem mv_X11_feels : MVd yX11_feels cX11_feels 9 none 7 := ⟨tb 1309 (by decide +kernel) rfl, List.mem_filter.mpr ⟨tbp 102 (by decide +kernel), rfl⟩, tb 13 (by decide +kernel) rfl, tb 1310 (by decide +kernel) rfl, (by decide +kernel), Nat.le_of_ble_eq_true rfl⟩
set_option maxRecDepth 20000 in
theorem ml11_318 : MLd RX11 318 yX11_ruler := Or.inl (tb 1311 (by decide +kernel) rfl)
set_option maxRecDepth 20000 in
theorem mv_X11_ruler : MVd yX11_ruler cX11_ruler 9 (some .int) 5 := ⟨tb 1313 (by decide +kernel) rfl, List.mem_filter.mpr ⟨tbp 103 (by decide +kernel), rfl⟩, tb 13 (by decide +kernel) rfl, tb 1314 (by decide +kernel) rfl, (by decide +kernel), Nat.le_of_ble_eq_true rfl⟩
set_option maxRecDepth 20000 in
theorem ml11_321 : MLd RX11 321 yX11_hasSuch := Or.inl (tb 1319 (by decide +kernel) rfl)
set_option maxRecDepth 20000 in
theorem mv_X11_hasSuch : MVd yX11_hasSuch cX11_hasSuch 4 (some .boolean) 2 := ⟨tb 1321 (by decide +kernel) rfl, List.mem_filter.mpr ⟨tbp 105 (by decide +kernel), rfl⟩, tb 13 (by decide +kernel) rfl, tb 1322 (by decide +kernel) rfl, (by decide +kernel), Nat.le_of_ble_eq_true rfl⟩
set_option maxRecDepth 20000 in
theorem ml11_324 : MLd RX11 324 yX11_letterBy := Or.inl (tb 1300 (by decide +kernel) rfl)
set_option maxRecDepth 20000 in
theorem ms_X11_letterBy : MSd yX11_letterBy cX11_letterBy 1 (some .int) 1 := ⟨tb 1301 (by decide +kernel) rfl, tb 13 (by decide +kernel) rfl, tb 1302 (by decide +kernel) rfl, (by decide +kernel), Nat.le_of_ble_eq_true rfl⟩
set_option maxRecDepth 20000 in
theorem ml11_327 : MLd RX11 327 yX11_gives := Or.inl (tb 1303 (by decide +kernel) rfl)
set_option maxRecDepth 20000 in
theorem mv_X11_gives : MVd yX11_gives cX11_gives 7 (some .boolean) 6 := ⟨tb 1305 (by decide +kernel) rfl, List.mem_filter.mpr ⟨tbp 101 (by decide +kernel), rfl⟩, tb 13 (by decide +kernel) rfl, tb 1306 (by decide +kernel) rfl, (by decide +kernel), Nat.le_of_ble_eq_true rfl⟩
set_option maxRecDepth 20000 in
theorem lk11_331 : LKd RX11 331 TX11 51 := Or.inl (tb 975 (by decide +kernel) rfl)
set_option maxRecDepth 20000 in
theorem fn11_331 {ini : Bool} : FNd RX11 ini 331 TX11 51 := Or.inl ⟨rfl, lk11_331⟩
set_option maxRecDepth 20000 in
theorem fn11_308 {ini : Bool} : FNd RX11 ini 308 TX11 41 := Or.inl ⟨rfl, lk11_308⟩
set_option maxRecDepth 20000 in
theorem ml11_334 : MLd RX11 334 yX11_leastMinds := Or.inl (tb 1292 (by decide +kernel) rfl)
set_option maxRecDepth 20000 in
theorem mv_X11_leastMinds : MVd yX11_leastMinds cX11_leastMinds 3 none 1 := ⟨tb 1294 (by decide +kernel) rfl, List.mem_filter.mpr ⟨tbp 99 (by decide +kernel), rfl⟩, tb 13 (by decide +kernel) rfl, tb 1295 (by decide +kernel) rfl, (by decide +kernel), Nat.le_of_ble_eq_true rfl⟩
set_option maxRecDepth 20000 in
theorem ml11_337 : MLd RX11 337 yX11_works := Or.inl (tb 1296 (by decide +kernel) rfl)
set_option maxRecDepth 20000 in
theorem mv_X11_works : MVd yX11_works cX11_works 16 none 3 := ⟨tb 1298 (by decide +kernel) rfl, List.mem_filter.mpr ⟨tbp 100 (by decide +kernel), rfl⟩, tb 13 (by decide +kernel) rfl, tb 1299 (by decide +kernel) rfl, (by decide +kernel), Nat.le_of_ble_eq_true rfl⟩
set_option maxRecDepth 20000 in
theorem ml11_341 : MLd RX11 341 yX11_judges := Or.inl (tb 1288 (by decide +kernel) rfl)
set_option maxRecDepth 20000 in
theorem mv_X11_judges : MVd yX11_judges cX11_judges 3 none 2 := ⟨tb 1290 (by decide +kernel) rfl, List.mem_filter.mpr ⟨tbp 98 (by decide +kernel), rfl⟩, tb 13 (by decide +kernel) rfl, tb 1291 (by decide +kernel) rfl, (by decide +kernel), Nat.le_of_ble_eq_true rfl⟩
set_option maxRecDepth 20000 in
theorem ml11_344 : MLd RX11 344 yX11_canJudge := Or.inl (tb 1334 (by decide +kernel) rfl)
set_option maxRecDepth 20000 in
theorem mv_X11_canJudge : MVd yX11_canJudge cX11_canJudge 3 (some .boolean) 2 := ⟨tb 1336 (by decide +kernel) rfl, List.mem_filter.mpr ⟨tbp 107 (by decide +kernel), rfl⟩, tb 13 (by decide +kernel) rfl, tb 1337 (by decide +kernel) rfl, (by decide +kernel), Nat.le_of_ble_eq_true rfl⟩
set_option maxRecDepth 20000 in
theorem lk11_347 : LKd RX11 347 TX11 52 := Or.inl (tb 976 (by decide +kernel) rfl)
set_option maxRecDepth 20000 in
theorem fn11_347 {ini : Bool} : FNd RX11 ini 347 TX11 52 := Or.inl ⟨rfl, lk11_347⟩
set_option maxRecDepth 20000 in
theorem ml11_350 : MLd RX11 350 yX11_triesAll := Or.inl (tb 1350 (by decide +kernel) rfl)
set_option maxRecDepth 20000 in
theorem mv_X11_triesAll : MVd yX11_triesAll cX11_triesAll 7 (some .boolean) 2 := ⟨tb 1352 (by decide +kernel) rfl, List.mem_filter.mpr ⟨tbp 108 (by decide +kernel), rfl⟩, tb 13 (by decide +kernel) rfl, tb 1353 (by decide +kernel) rfl, (by decide +kernel), Nat.le_of_ble_eq_true rfl⟩
set_option maxRecDepth 20000 in
theorem lk11_353 : LKd RX11 353 TX11 56 := Or.inl (tb 980 (by decide +kernel) rfl)
set_option maxRecDepth 20000 in
theorem fn11_353 {ini : Bool} : FNd RX11 ini 353 TX11 56 := Or.inl ⟨rfl, lk11_353⟩
set_option maxRecDepth 20000 in
theorem ml11_356 : MLd RX11 356 yX11_asks := Or.inl (tb 1362 (by decide +kernel) rfl)
set_option maxRecDepth 20000 in
theorem mv_X11_asks : MVd yX11_asks cX11_asks 6 none 2 := ⟨tb 1364 (by decide +kernel) rfl, List.mem_filter.mpr ⟨tbp 109 (by decide +kernel), rfl⟩, tb 13 (by decide +kernel) rfl, tb 1365 (by decide +kernel) rfl, (by decide +kernel), Nat.le_of_ble_eq_true rfl⟩
set_option maxRecDepth 20000 in
theorem kc_X11_359 : Cond.constant RX11 359 (-2000000000) ∈ lw_tbl := List.mem_append_right _ (List.mem_of_getElem? (i := 1374) (by decide +kernel))
set_option maxRecDepth 20000 in
theorem ml11_360 : MLd RX11 360 yX11_whose := Or.inl (tb 1379 (by decide +kernel) rfl)
set_option maxRecDepth 20000 in
theorem mv_X11_whose : MVd yX11_whose cX11_whose 3 (some .int) 2 := ⟨tb 1331 (by decide +kernel) rfl, tb 1332 (by decide +kernel) rfl, tb 13 (by decide +kernel) rfl, tb 1333 (by decide +kernel) rfl, (by decide +kernel), Nat.le_of_ble_eq_true rfl⟩
set_option maxRecDepth 20000 in
theorem ml11_363 : MLd RX11 363 yX11_canSteal := Or.inl (tb 1384 (by decide +kernel) rfl)
set_option maxRecDepth 20000 in
theorem mv_X11_canSteal : MVd yX11_canSteal cX11_canSteal 6 (some .boolean) 5 := ⟨tb 1386 (by decide +kernel) rfl, List.mem_filter.mpr ⟨tbp 110 (by decide +kernel), rfl⟩, tb 13 (by decide +kernel) rfl, tb 1387 (by decide +kernel) rfl, (by decide +kernel), Nat.le_of_ble_eq_true rfl⟩
set_option maxRecDepth 20000 in
theorem ml11_367 : MLd RX11 367 yX11_goes := Or.inl (tb 1388 (by decide +kernel) rfl)
set_option maxRecDepth 20000 in
theorem mv_X11_goes : MVd yX11_goes cX11_goes 6 none 1 := ⟨tb 1390 (by decide +kernel) rfl, List.mem_filter.mpr ⟨tbp 111 (by decide +kernel), rfl⟩, tb 13 (by decide +kernel) rfl, tb 1391 (by decide +kernel) rfl, (by decide +kernel), Nat.le_of_ble_eq_true rfl⟩
set_option maxRecDepth 20000 in
theorem ml11_370 : MLd RX11 370 yX11_makes := Or.inl (tb 1392 (by decide +kernel) rfl)
set_option maxRecDepth 20000 in
theorem mv_X11_makes : MVd yX11_makes cX11_makes 8 (some .boolean) 6 := ⟨tb 1394 (by decide +kernel) rfl, List.mem_filter.mpr ⟨tbp 112 (by decide +kernel), rfl⟩, tb 13 (by decide +kernel) rfl, tb 1395 (by decide +kernel) rfl, (by decide +kernel), Nat.le_of_ble_eq_true rfl⟩
set_option maxRecDepth 20000 in
theorem kc_X11_373 : Cond.constant RX11 373 100000 ∈ lw_tbl := List.mem_append_right _ (List.mem_of_getElem? (i := 1400) (by decide +kernel))
set_option maxRecDepth 20000 in
theorem ml11_374 : MLd RX11 374 yX11_bits := Or.inl (tb 1401 (by decide +kernel) rfl)
set_option maxRecDepth 20000 in
theorem ms_X11_bits : MSd yX11_bits cX11_bits 3 (some .int) 1 := ⟨tb 1402 (by decide +kernel) rfl, tb 13 (by decide +kernel) rfl, tb 1403 (by decide +kernel) rfl, (by decide +kernel), Nat.le_of_ble_eq_true rfl⟩
set_option maxRecDepth 20000 in
theorem ml11_377 : MLd RX11 377 yX11_isStopped := Or.inl (tb 1404 (by decide +kernel) rfl)
set_option maxRecDepth 20000 in
theorem mv_X11_isStopped : MVd yX11_isStopped cX11_isStopped 8 (some .boolean) 6 := ⟨tb 1406 (by decide +kernel) rfl, List.mem_filter.mpr ⟨tbp 113 (by decide +kernel), rfl⟩, tb 13 (by decide +kernel) rfl, tb 1407 (by decide +kernel) rfl, (by decide +kernel), Nat.le_of_ble_eq_true rfl⟩
set_option maxRecDepth 20000 in
theorem ml11_380 : MLd RX11 380 yX11_tapeNumber := Or.inl (tb 1412 (by decide +kernel) rfl)
set_option maxRecDepth 20000 in
theorem mv_X11_tapeNumber : MVd yX11_tapeNumber cX11_tapeNumber 4 (some .int) 1 := ⟨tb 1414 (by decide +kernel) rfl, List.mem_filter.mpr ⟨tbp 114 (by decide +kernel), rfl⟩, tb 13 (by decide +kernel) rfl, tb 1415 (by decide +kernel) rfl, (by decide +kernel), Nat.le_of_ble_eq_true rfl⟩
set_option maxRecDepth 20000 in
theorem kc_J6_265 : Cond.constant RJ6 265 1431655765 ∈ lw_tbl := List.mem_append_right _ (List.mem_of_getElem? (i := 894) (by decide +kernel))
set_option maxRecDepth 20000 in
theorem kc_J6_266 : Cond.constant RJ6 266 858993459 ∈ lw_tbl := List.mem_append_right _ (List.mem_of_getElem? (i := 895) (by decide +kernel))
set_option maxRecDepth 20000 in
theorem kc_J6_267 : Cond.constant RJ6 267 252645135 ∈ lw_tbl := List.mem_append_right _ (List.mem_of_getElem? (i := 896) (by decide +kernel))
set_option maxRecDepth 20000 in
theorem xmJ0_633 : Cond.methodLink RJ0 633 yJ0_indexOf_7cf53 ∈ TWL := tb 480 (by decide +kernel) rfl
set_option maxRecDepth 20000 in
theorem mv_J0_indexOf_7cf53 : MVd yJ0_indexOf_7cf53 cJ0_indexOf_7cf53 3 (some .int) 2 := ⟨tb 481 (by decide +kernel) rfl, tb 482 (by decide +kernel) rfl, tb 15 (by decide +kernel) rfl, tb 483 (by decide +kernel) rfl, (by decide +kernel), Nat.le_of_ble_eq_true rfl⟩
set_option maxRecDepth 20000 in
theorem xmJ0_492 : Cond.methodLink RJ0 492 yJ0_isLatin1_aae02 ∈ TWL := tb 484 (by decide +kernel) rfl
set_option maxRecDepth 20000 in
theorem mv_J0_isLatin1_aae02 : MVd yJ0_isLatin1_aae02 cJ0_isLatin1_aae02 1 (some .boolean) 0 := ⟨tb 485 (by decide +kernel) rfl, tb 486 (by decide +kernel) rfl, tb 15 (by decide +kernel) rfl, tb 487 (by decide +kernel) rfl, (by decide +kernel), Nat.le_of_ble_eq_true rfl⟩
set_option maxRecDepth 20000 in
theorem xlJ0_9 : Cond.fieldLink RJ0 9 "java/lang/String" "value" "[B" ∈ TWL := tb 1425 (by decide +kernel) rfl
set_option maxRecDepth 20000 in
theorem xmJ0_505 : Cond.methodLink RJ0 505 yJ0_length_8abf5 ∈ TWL := tb 490 (by decide +kernel) rfl
set_option maxRecDepth 20000 in
theorem mv_J0_length_8abf5 : MVd yJ0_length_8abf5 cJ0_length_8abf5 1 (some .int) 0 := ⟨tb 491 (by decide +kernel) rfl, tb 492 (by decide +kernel) rfl, tb 15 (by decide +kernel) rfl, tb 493 (by decide +kernel) rfl, (by decide +kernel), Nat.le_of_ble_eq_true rfl⟩
set_option maxRecDepth 20000 in
theorem mlJ0_637 : MLd RJ0 637 yJ1_indexOf_4cfef := Or.inl (tb 498 (by decide +kernel) rfl)
set_option maxRecDepth 20000 in
theorem ms_J1_indexOf_4cfef : MSd yJ1_indexOf_4cfef cJ1_indexOf_4cfef 4 (some .int) 4 := ⟨tb 499 (by decide +kernel) rfl, tb 16 (by decide +kernel) rfl, tb 500 (by decide +kernel) rfl, (by decide +kernel), Nat.le_of_ble_eq_true rfl⟩
set_option maxRecDepth 20000 in
theorem xsJ0_38 : Cond.fieldLink RJ0 38 "java/lang/String" "COMPACT_STRINGS" "Z" ∈ TWL := tb 488 (by decide +kernel) rfl
set_option maxRecDepth 20000 in
theorem xlJ0_15 : Cond.fieldLink RJ0 15 "java/lang/String" "coder" "B" ∈ TWL := tb 1424 (by decide +kernel) rfl
set_option maxRecDepth 20000 in
theorem xmJ0_335 : Cond.methodLink RJ0 335 yJ0_coder_7d493 ∈ TWL := tb 494 (by decide +kernel) rfl
set_option maxRecDepth 20000 in
theorem mv_J0_coder_7d493 : MVd yJ0_coder_7d493 cJ0_coder_7d493 1 (some .byte) 0 := ⟨tb 495 (by decide +kernel) rfl, tb 496 (by decide +kernel) rfl, tb 15 (by decide +kernel) rfl, tb 497 (by decide +kernel) rfl, (by decide +kernel), Nat.le_of_ble_eq_true rfl⟩
set_option maxRecDepth 20000 in
theorem mlJ1_88 : MLd RJ1 88 yJ1_canEncode_9a6ad := Or.inl (tb 501 (by decide +kernel) rfl)
set_option maxRecDepth 20000 in
theorem ms_J1_canEncode_9a6ad : MSd yJ1_canEncode_9a6ad cJ1_canEncode_9a6ad 1 (some .boolean) 1 := ⟨tb 502 (by decide +kernel) rfl, tb 16 (by decide +kernel) rfl, tb 503 (by decide +kernel) rfl, (by decide +kernel), Nat.le_of_ble_eq_true rfl⟩
set_option maxRecDepth 20000 in
theorem mmJ1_92 : Cond.methodLink RJ1 92 Lib.Math.max.name ∈ TWL := tb 504 (by decide +kernel) rfl
set_option maxRecDepth 20000 in
theorem mmJ1_38 : Cond.methodLink RJ1 38 Lib.Math.min.name ∈ TWL := tb 507 (by decide +kernel) rfl
set_option maxRecDepth 20000 in
theorem mlJ1_95 : MLd RJ1 95 yJ1_indexOfChar_4cfef := Or.inl (tb 508 (by decide +kernel) rfl)
set_option maxRecDepth 20000 in
theorem ms_J1_indexOfChar_4cfef : MSd yJ1_indexOfChar_4cfef cJ1_indexOfChar_4cfef 6 (some .int) 4 := ⟨tb 509 (by decide +kernel) rfl, tb 16 (by decide +kernel) rfl, tb 510 (by decide +kernel) rfl, (by decide +kernel), Nat.le_of_ble_eq_true rfl⟩
