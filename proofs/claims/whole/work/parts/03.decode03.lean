theorem dX7_goOn_35 : decode cX7_goOn 35 = .ok (.iload_n 2, 1) := by decide +kernel
theorem dX7_goOn_36 : decode cX7_goOn 36 = .ok (.iaload, 1) := by decide +kernel
theorem dX7_goOn_37 : decode cX7_goOn 37 = .ok (.iadd, 1) := by decide +kernel
theorem dX7_goOn_38 : decode cX7_goOn 38 = .ok (.istore_n 3, 1) := by decide +kernel
theorem dX7_goOn_39 : decode cX7_goOn 39 = .ok (.aload_n 0, 1) := by decide +kernel
theorem dX7_goOn_40 : decode cX7_goOn 40 = .ok (.getfield 16, 3) := by decide +kernel
theorem dX7_goOn_43 : decode cX7_goOn 43 = .ok (.iload_n 2, 1) := by decide +kernel
theorem dX7_goOn_44 : decode cX7_goOn 44 = .ok (.iaload, 1) := by decide +kernel
theorem dX7_goOn_45 : decode cX7_goOn 45 = .ok (.iconst (-1), 1) := by decide +kernel
theorem dX7_goOn_46 : decode cX7_goOn 46 = .ok (.if_icmp .eq 13, 3) := by decide +kernel
theorem dX7_goOn_49 : decode cX7_goOn 49 = .ok (.iload_n 3, 1) := by decide +kernel
theorem dX7_goOn_50 : decode cX7_goOn 50 = .ok (.aload_n 0, 1) := by decide +kernel
theorem dX7_goOn_51 : decode cX7_goOn 51 = .ok (.getfield 16, 3) := by decide +kernel
theorem dX7_goOn_54 : decode cX7_goOn 54 = .ok (.iload_n 2, 1) := by decide +kernel
theorem dX7_goOn_55 : decode cX7_goOn 55 = .ok (.iaload, 1) := by decide +kernel
theorem dX7_goOn_56 : decode cX7_goOn 56 = .ok (.if_icmp .ge 10, 3) := by decide +kernel
theorem dX7_goOn_59 : decode cX7_goOn 59 = .ok (.aload_n 0, 1) := by decide +kernel
theorem dX7_goOn_60 : decode cX7_goOn 60 = .ok (.getfield 16, 3) := by decide +kernel
theorem dX7_goOn_63 : decode cX7_goOn 63 = .ok (.iload_n 2, 1) := by decide +kernel
theorem dX7_goOn_64 : decode cX7_goOn 64 = .ok (.iload_n 3, 1) := by decide +kernel
theorem dX7_goOn_65 : decode cX7_goOn 65 = .ok (.iastore, 1) := by decide +kernel
theorem dX7_goOn_66 : decode cX7_goOn 66 = .ok (.return_, 1) := by decide +kernel
theorem dX8_init_0 : decode cX8_init 0 = .ok (.aload_n 0, 1) := by decide +kernel
theorem dX8_init_1 : decode cX8_init 1 = .ok (.invokespecial 3, 3) := by decide +kernel
theorem dX8_init_4 : decode cX8_init 4 = .ok (.aload_n 0, 1) := by decide +kernel
theorem dX8_init_5 : decode cX8_init 5 = .ok (.sipush 200, 3) := by decide +kernel
theorem dX8_init_8 : decode cX8_init 8 = .ok (.newarray .byte, 2) := by decide +kernel
theorem dX8_init_10 : decode cX8_init 10 = .ok (.putfield 9, 3) := by decide +kernel
theorem dX8_init_13 : decode cX8_init 13 = .ok (.return_, 1) := by decide +kernel
theorem dX8_put_0 : decode cX8_put 0 = .ok (.bipush 24, 2) := by decide +kernel
theorem dX8_put_2 : decode cX8_put 2 = .ok (.istore_n 2, 1) := by decide +kernel
theorem dX8_put_3 : decode cX8_put 3 = .ok (.iload_n 2, 1) := by decide +kernel
theorem dX8_put_4 : decode cX8_put 4 = .ok (.ifCond .lt 42, 3) := by decide +kernel
theorem dX8_put_7 : decode cX8_put 7 = .ok (.aload_n 0, 1) := by decide +kernel
theorem dX8_put_8 : decode cX8_put 8 = .ok (.getfield 15, 3) := by decide +kernel
theorem dX8_put_11 : decode cX8_put 11 = .ok (.sipush 200, 3) := by decide +kernel
theorem dX8_put_14 : decode cX8_put 14 = .ok (.if_icmp .ge 32, 3) := by decide +kernel
theorem dX8_put_17 : decode cX8_put 17 = .ok (.aload_n 0, 1) := by decide +kernel
theorem dX8_put_18 : decode cX8_put 18 = .ok (.getfield 9, 3) := by decide +kernel
theorem dX8_put_21 : decode cX8_put 21 = .ok (.aload_n 0, 1) := by decide +kernel
theorem dX8_put_22 : decode cX8_put 22 = .ok (.getfield 15, 3) := by decide +kernel
theorem dX8_put_25 : decode cX8_put 25 = .ok (.iload_n 1, 1) := by decide +kernel
theorem dX8_put_26 : decode cX8_put 26 = .ok (.iload_n 2, 1) := by decide +kernel
theorem dX8_put_27 : decode cX8_put 27 = .ok (.iushr, 1) := by decide +kernel
theorem dX8_put_28 : decode cX8_put 28 = .ok (.i2b, 1) := by decide +kernel
theorem dX8_put_29 : decode cX8_put 29 = .ok (.bastore, 1) := by decide +kernel
theorem dX8_put_30 : decode cX8_put 30 = .ok (.aload_n 0, 1) := by decide +kernel
theorem dX8_put_31 : decode cX8_put 31 = .ok (.dup, 1) := by decide +kernel
theorem dX8_put_32 : decode cX8_put 32 = .ok (.getfield 15, 3) := by decide +kernel
theorem dX8_put_35 : decode cX8_put 35 = .ok (.iconst 1, 1) := by decide +kernel
theorem dX8_put_36 : decode cX8_put 36 = .ok (.iadd, 1) := by decide +kernel
theorem dX8_put_37 : decode cX8_put 37 = .ok (.putfield 15, 3) := by decide +kernel
theorem dX8_put_40 : decode cX8_put 40 = .ok (.iinc 2 (-8), 3) := by decide +kernel
theorem dX8_put_43 : decode cX8_put 43 = .ok (.goto (-40), 3) := by decide +kernel
theorem dX8_put_46 : decode cX8_put 46 = .ok (.return_, 1) := by decide +kernel
theorem dX8_number_0 : decode cX8_number 0 = .ok (.iconst 0, 1) := by decide +kernel
theorem dX8_number_1 : decode cX8_number 1 = .ok (.istore_n 2, 1) := by decide +kernel
theorem dX8_number_2 : decode cX8_number 2 = .ok (.iconst 4, 1) := by decide +kernel
theorem dX8_number_3 : decode cX8_number 3 = .ok (.iload_n 1, 1) := by decide +kernel
theorem dX8_number_4 : decode cX8_number 4 = .ok (.imul, 1) := by decide +kernel
theorem dX8_number_5 : decode cX8_number 5 = .ok (.istore_n 3, 1) := by decide +kernel
theorem dX8_number_6 : decode cX8_number 6 = .ok (.iload_n 3, 1) := by decide +kernel
theorem dX8_number_7 : decode cX8_number 7 = .ok (.iconst 4, 1) := by decide +kernel
theorem dX8_number_8 : decode cX8_number 8 = .ok (.iload_n 1, 1) := by decide +kernel
theorem dX8_number_9 : decode cX8_number 9 = .ok (.imul, 1) := by decide +kernel
theorem dX8_number_10 : decode cX8_number 10 = .ok (.iconst 4, 1) := by decide +kernel
theorem dX8_number_11 : decode cX8_number 11 = .ok (.iadd, 1) := by decide +kernel
theorem dX8_number_12 : decode cX8_number 12 = .ok (.if_icmp .ge 32, 3) := by decide +kernel
theorem dX8_number_15 : decode cX8_number 15 = .ok (.iload_n 3, 1) := by decide +kernel
theorem dX8_number_16 : decode cX8_number 16 = .ok (.sipush 200, 3) := by decide +kernel
theorem dX8_number_19 : decode cX8_number 19 = .ok (.if_icmp .ge 25, 3) := by decide +kernel
theorem dX8_number_22 : decode cX8_number 22 = .ok (.iload_n 2, 1) := by decide +kernel
theorem dX8_number_23 : decode cX8_number 23 = .ok (.bipush 8, 2) := by decide +kernel
theorem dX8_number_25 : decode cX8_number 25 = .ok (.ishl, 1) := by decide +kernel
theorem dX8_number_26 : decode cX8_number 26 = .ok (.aload_n 0, 1) := by decide +kernel
theorem dX8_number_27 : decode cX8_number 27 = .ok (.getfield 9, 3) := by decide +kernel
theorem dX8_number_30 : decode cX8_number 30 = .ok (.iload_n 3, 1) := by decide +kernel
theorem dX8_number_31 : decode cX8_number 31 = .ok (.baload, 1) := by decide +kernel
theorem dX8_number_32 : decode cX8_number 32 = .ok (.sipush 255, 3) := by decide +kernel
theorem dX8_number_35 : decode cX8_number 35 = .ok (.iand, 1) := by decide +kernel
theorem dX8_number_36 : decode cX8_number 36 = .ok (.ior, 1) := by decide +kernel
theorem dX8_number_37 : decode cX8_number 37 = .ok (.istore_n 2, 1) := by decide +kernel
theorem dX8_number_38 : decode cX8_number 38 = .ok (.iinc 3 1, 3) := by decide +kernel
theorem dX8_number_41 : decode cX8_number 41 = .ok (.goto (-35), 3) := by decide +kernel
theorem dX8_number_44 : decode cX8_number 44 = .ok (.iload_n 2, 1) := by decide +kernel
theorem dX8_number_45 : decode cX8_number 45 = .ok (.ireturn, 1) := by decide +kernel
theorem dX9_init_0 : decode cX9_init 0 = .ok (.aload_n 0, 1) := by decide +kernel
theorem dX9_init_1 : decode cX9_init 1 = .ok (.invokespecial 3, 3) := by decide +kernel
theorem dX9_init_4 : decode cX9_init 4 = .ok (.aload_n 0, 1) := by decide +kernel
theorem dX9_init_5 : decode cX9_init 5 = .ok (.bipush 20, 2) := by decide +kernel
theorem dX9_init_7 : decode cX9_init 7 = .ok (.anewarray 9, 3) := by decide +kernel
theorem dX9_init_10 : decode cX9_init 10 = .ok (.putfield 11, 3) := by decide +kernel
theorem dX9_init_13 : decode cX9_init 13 = .ok (.iconst 0, 1) := by decide +kernel
theorem dX9_init_14 : decode cX9_init 14 = .ok (.istore_n 1, 1) := by decide +kernel
theorem dX9_init_15 : decode cX9_init 15 = .ok (.iload_n 1, 1) := by decide +kernel
theorem dX9_init_16 : decode cX9_init 16 = .ok (.bipush 20, 2) := by decide +kernel
theorem dX9_init_18 : decode cX9_init 18 = .ok (.if_icmp .ge 22, 3) := by decide +kernel
theorem dX9_init_21 : decode cX9_init 21 = .ok (.aload_n 0, 1) := by decide +kernel
theorem dX9_init_22 : decode cX9_init 22 = .ok (.getfield 11, 3) := by decide +kernel
theorem dX9_init_25 : decode cX9_init 25 = .ok (.iload_n 1, 1) := by decide +kernel
theorem dX9_init_26 : decode cX9_init 26 = .ok (.new 9, 3) := by decide +kernel
theorem dX9_init_29 : decode cX9_init 29 = .ok (.dup, 1) := by decide +kernel
theorem dX9_init_30 : decode cX9_init 30 = .ok (.invokespecial 17, 3) := by decide +kernel
theorem dX9_init_33 : decode cX9_init 33 = .ok (.aastore, 1) := by decide +kernel
theorem dX9_init_34 : decode cX9_init 34 = .ok (.iinc 1 1, 3) := by decide +kernel
theorem dX9_init_37 : decode cX9_init 37 = .ok (.goto (-22), 3) := by decide +kernel
theorem dX9_init_40 : decode cX9_init 40 = .ok (.return_, 1) := by decide +kernel
theorem dX9_fromWhom_0 : decode cX9_fromWhom 0 = .ok (.iload_n 1, 1) := by decide +kernel
theorem dX9_fromWhom_1 : decode cX9_fromWhom 1 = .ok (.ifCond .le 25, 3) := by decide +kernel
theorem dX9_fromWhom_4 : decode cX9_fromWhom 4 = .ok (.iload_n 1, 1) := by decide +kernel
theorem dX9_fromWhom_5 : decode cX9_fromWhom 5 = .ok (.aload_n 0, 1) := by decide +kernel
theorem dX9_fromWhom_6 : decode cX9_fromWhom 6 = .ok (.getfield 18, 3) := by decide +kernel
theorem dX9_fromWhom_9 : decode cX9_fromWhom 9 = .ok (.if_icmp .gt 17, 3) := by decide +kernel
theorem dX9_fromWhom_12 : decode cX9_fromWhom 12 = .ok (.aload_n 0, 1) := by decide +kernel
theorem dX9_fromWhom_13 : decode cX9_fromWhom 13 = .ok (.getfield 11, 3) := by decide +kernel
theorem dX9_fromWhom_16 : decode cX9_fromWhom 16 = .ok (.iload_n 1, 1) := by decide +kernel
theorem dX9_fromWhom_17 : decode cX9_fromWhom 17 = .ok (.iconst 1, 1) := by decide +kernel
theorem dX9_fromWhom_18 : decode cX9_fromWhom 18 = .ok (.isub, 1) := by decide +kernel
theorem dX9_fromWhom_19 : decode cX9_fromWhom 19 = .ok (.aaload, 1) := by decide +kernel
theorem dX9_fromWhom_20 : decode cX9_fromWhom 20 = .ok (.getfield 22, 3) := by decide +kernel
theorem dX9_fromWhom_23 : decode cX9_fromWhom 23 = .ok (.goto 7, 3) := by decide +kernel
theorem dX9_fromWhom_26 : decode cX9_fromWhom 26 = .ok (.aload_n 0, 1) := by decide +kernel
theorem dX9_fromWhom_27 : decode cX9_fromWhom 27 = .ok (.getfield 25, 3) := by decide +kernel
theorem dX9_fromWhom_30 : decode cX9_fromWhom 30 = .ok (.ireturn, 1) := by decide +kernel
theorem dX9_holder_0 : decode cX9_holder 0 = .ok (.aload_n 0, 1) := by decide +kernel
theorem dX9_holder_1 : decode cX9_holder 1 = .ok (.aload_n 0, 1) := by decide +kernel
theorem dX9_holder_2 : decode cX9_holder 2 = .ok (.getfield 18, 3) := by decide +kernel
theorem dX9_holder_5 : decode cX9_holder 5 = .ok (.invokevirtual 28, 3) := by decide +kernel
theorem dX9_holder_8 : decode cX9_holder 8 = .ok (.ireturn, 1) := by decide +kernel
theorem dX9_registeredAhead_0 : decode cX9_registeredAhead 0 = .ok (.iload_n 1, 1) := by decide +kernel
theorem dX9_registeredAhead_1 : decode cX9_registeredAhead 1 = .ok (.aload_n 0, 1) := by decide +kernel
theorem dX9_registeredAhead_2 : decode cX9_registeredAhead 2 = .ok (.getfield 18, 3) := by decide +kernel
theorem dX9_registeredAhead_5 : decode cX9_registeredAhead 5 = .ok (.invokestatic 32, 3) := by decide +kernel
theorem dX9_registeredAhead_8 : decode cX9_registeredAhead 8 = .ok (.iconst 1, 1) := by decide +kernel
theorem dX9_registeredAhead_9 : decode cX9_registeredAhead 9 = .ok (.isub, 1) := by decide +kernel
theorem dX9_registeredAhead_10 : decode cX9_registeredAhead 10 = .ok (.istore_n 2, 1) := by decide +kernel
theorem dX9_registeredAhead_11 : decode cX9_registeredAhead 11 = .ok (.iload_n 2, 1) := by decide +kernel
theorem dX9_registeredAhead_12 : decode cX9_registeredAhead 12 = .ok (.ifCond .lt 33, 3) := by decide +kernel
theorem dX9_registeredAhead_15 : decode cX9_registeredAhead 15 = .ok (.aload_n 0, 1) := by decide +kernel
theorem dX9_registeredAhead_16 : decode cX9_registeredAhead 16 = .ok (.getfield 11, 3) := by decide +kernel
theorem dX9_registeredAhead_19 : decode cX9_registeredAhead 19 = .ok (.iload_n 2, 1) := by decide +kernel
theorem dX9_registeredAhead_20 : decode cX9_registeredAhead 20 = .ok (.aaload, 1) := by decide +kernel
theorem dX9_registeredAhead_21 : decode cX9_registeredAhead 21 = .ok (.iconst 4, 1) := by decide +kernel
theorem dX9_registeredAhead_22 : decode cX9_registeredAhead 22 = .ok (.invokevirtual 38, 3) := by decide +kernel
theorem dX9_registeredAhead_25 : decode cX9_registeredAhead 25 = .ok (.iconst 1, 1) := by decide +kernel
theorem dX9_registeredAhead_26 : decode cX9_registeredAhead 26 = .ok (.if_icmp .ne 13, 3) := by decide +kernel
theorem dX9_registeredAhead_29 : decode cX9_registeredAhead 29 = .ok (.aload_n 0, 1) := by decide +kernel
theorem dX9_registeredAhead_30 : decode cX9_registeredAhead 30 = .ok (.getfield 11, 3) := by decide +kernel
theorem dX9_registeredAhead_33 : decode cX9_registeredAhead 33 = .ok (.iload_n 2, 1) := by decide +kernel
theorem dX9_registeredAhead_34 : decode cX9_registeredAhead 34 = .ok (.aaload, 1) := by decide +kernel
theorem dX9_registeredAhead_35 : decode cX9_registeredAhead 35 = .ok (.getfield 22, 3) := by decide +kernel
theorem dX9_registeredAhead_38 : decode cX9_registeredAhead 38 = .ok (.ireturn, 1) := by decide +kernel
theorem dX9_registeredAhead_39 : decode cX9_registeredAhead 39 = .ok (.iinc 2 (-1), 3) := by decide +kernel
theorem dX9_registeredAhead_42 : decode cX9_registeredAhead 42 = .ok (.goto (-31), 3) := by decide +kernel
theorem dX9_registeredAhead_45 : decode cX9_registeredAhead 45 = .ok (.aload_n 0, 1) := by decide +kernel
theorem dX9_registeredAhead_46 : decode cX9_registeredAhead 46 = .ok (.getfield 25, 3) := by decide +kernel
theorem dX9_registeredAhead_49 : decode cX9_registeredAhead 49 = .ok (.ireturn, 1) := by decide +kernel
theorem dX9_placeOf_0 : decode cX9_placeOf 0 = .ok (.aload_n 0, 1) := by decide +kernel
theorem dX9_placeOf_1 : decode cX9_placeOf 1 = .ok (.getfield 18, 3) := by decide +kernel
theorem dX9_placeOf_4 : decode cX9_placeOf 4 = .ok (.istore_n 2, 1) := by decide +kernel
theorem dX9_placeOf_5 : decode cX9_placeOf 5 = .ok (.iload_n 2, 1) := by decide +kernel
theorem dX9_placeOf_6 : decode cX9_placeOf 6 = .ok (.ifCond .le 24, 3) := by decide +kernel
theorem dX9_placeOf_9 : decode cX9_placeOf 9 = .ok (.aload_n 0, 1) := by decide +kernel
theorem dX9_placeOf_10 : decode cX9_placeOf 10 = .ok (.getfield 11, 3) := by decide +kernel
theorem dX9_placeOf_13 : decode cX9_placeOf 13 = .ok (.iload_n 2, 1) := by decide +kernel
theorem dX9_placeOf_14 : decode cX9_placeOf 14 = .ok (.iconst 1, 1) := by decide +kernel
theorem dX9_placeOf_15 : decode cX9_placeOf 15 = .ok (.isub, 1) := by decide +kernel
theorem dX9_placeOf_16 : decode cX9_placeOf 16 = .ok (.aaload, 1) := by decide +kernel
theorem dX9_placeOf_17 : decode cX9_placeOf 17 = .ok (.getfield 41, 3) := by decide +kernel
theorem dX9_placeOf_20 : decode cX9_placeOf 20 = .ok (.iload_n 1, 1) := by decide +kernel
theorem dX9_placeOf_21 : decode cX9_placeOf 21 = .ok (.if_icmp .le 9, 3) := by decide +kernel
theorem dX9_placeOf_24 : decode cX9_placeOf 24 = .ok (.iinc 2 (-1), 3) := by decide +kernel
theorem dX9_placeOf_27 : decode cX9_placeOf 27 = .ok (.goto (-22), 3) := by decide +kernel
theorem dX9_placeOf_30 : decode cX9_placeOf 30 = .ok (.iload_n 2, 1) := by decide +kernel
theorem dX9_placeOf_31 : decode cX9_placeOf 31 = .ok (.ireturn, 1) := by decide +kernel
theorem dX9_canGoTo_0 : decode cX9_canGoTo 0 = .ok (.aload_n 0, 1) := by decide +kernel
theorem dX9_canGoTo_1 : decode cX9_canGoTo 1 = .ok (.getfield 18, 3) := by decide +kernel
theorem dX9_canGoTo_4 : decode cX9_canGoTo 4 = .ok (.bipush 20, 2) := by decide +kernel
theorem dX9_canGoTo_6 : decode cX9_canGoTo 6 = .ok (.if_icmp .ge 12, 3) := by decide +kernel
theorem dX9_canGoTo_9 : decode cX9_canGoTo 9 = .ok (.iload_n 1, 1) := by decide +kernel
theorem dX9_canGoTo_10 : decode cX9_canGoTo 10 = .ok (.aload_n 0, 1) := by decide +kernel
theorem dX9_canGoTo_11 : decode cX9_canGoTo 11 = .ok (.iload_n 2, 1) := by decide +kernel
theorem dX9_canGoTo_12 : decode cX9_canGoTo 12 = .ok (.invokevirtual 28, 3) := by decide +kernel
theorem dX9_canGoTo_15 : decode cX9_canGoTo 15 = .ok (.if_icmp .ne 5, 3) := by decide +kernel
theorem dX9_canGoTo_18 : decode cX9_canGoTo 18 = .ok (.iconst 0, 1) := by decide +kernel
theorem dX9_canGoTo_19 : decode cX9_canGoTo 19 = .ok (.ireturn, 1) := by decide +kernel
theorem dX9_canGoTo_20 : decode cX9_canGoTo 20 = .ok (.iload_n 2, 1) := by decide +kernel
theorem dX9_canGoTo_21 : decode cX9_canGoTo 21 = .ok (.aload_n 0, 1) := by decide +kernel
theorem dX9_canGoTo_22 : decode cX9_canGoTo 22 = .ok (.getfield 18, 3) := by decide +kernel
theorem dX9_canGoTo_25 : decode cX9_canGoTo 25 = .ok (.if_icmp .ge 16, 3) := by decide +kernel
theorem dX9_canGoTo_28 : decode cX9_canGoTo 28 = .ok (.aload_n 0, 1) := by decide +kernel
theorem dX9_canGoTo_29 : decode cX9_canGoTo 29 = .ok (.getfield 11, 3) := by decide +kernel
theorem dX9_canGoTo_32 : decode cX9_canGoTo 32 = .ok (.iload_n 2, 1) := by decide +kernel
theorem dX9_canGoTo_33 : decode cX9_canGoTo 33 = .ok (.aaload, 1) := by decide +kernel
theorem dX9_canGoTo_34 : decode cX9_canGoTo 34 = .ok (.getfield 22, 3) := by decide +kernel
theorem dX9_canGoTo_37 : decode cX9_canGoTo 37 = .ok (.iload_n 1, 1) := by decide +kernel
theorem dX9_canGoTo_38 : decode cX9_canGoTo 38 = .ok (.if_icmp .eq 7, 3) := by decide +kernel
theorem dX9_canGoTo_41 : decode cX9_canGoTo 41 = .ok (.iconst 1, 1) := by decide +kernel
theorem dX9_canGoTo_42 : decode cX9_canGoTo 42 = .ok (.goto 4, 3) := by decide +kernel
theorem dX9_canGoTo_45 : decode cX9_canGoTo 45 = .ok (.iconst 0, 1) := by decide +kernel
theorem dX9_canGoTo_46 : decode cX9_canGoTo 46 = .ok (.ireturn, 1) := by decide +kernel
theorem dX9_insert_0 : decode cX9_insert 0 = .ok (.aload_n 0, 1) := by decide +kernel
theorem dX9_insert_1 : decode cX9_insert 1 = .ok (.getfield 11, 3) := by decide +kernel
theorem dX9_insert_4 : decode cX9_insert 4 = .ok (.aload_n 0, 1) := by decide +kernel
theorem dX9_insert_5 : decode cX9_insert 5 = .ok (.getfield 18, 3) := by decide +kernel
theorem dX9_insert_8 : decode cX9_insert 8 = .ok (.aaload, 1) := by decide +kernel
theorem dX9_insert_9 : decode cX9_insert 9 = .ok (.astore_n 2, 1) := by decide +kernel
theorem dX9_insert_10 : decode cX9_insert 10 = .ok (.aload_n 0, 1) := by decide +kernel
theorem dX9_insert_11 : decode cX9_insert 11 = .ok (.getfield 18, 3) := by decide +kernel
theorem dX9_insert_14 : decode cX9_insert 14 = .ok (.istore_n 3, 1) := by decide +kernel
theorem dX9_insert_15 : decode cX9_insert 15 = .ok (.iload_n 3, 1) := by decide +kernel
theorem dX9_insert_16 : decode cX9_insert 16 = .ok (.iload_n 1, 1) := by decide +kernel
theorem dX9_insert_17 : decode cX9_insert 17 = .ok (.if_icmp .le 23, 3) := by decide +kernel
theorem dX9_insert_20 : decode cX9_insert 20 = .ok (.aload_n 0, 1) := by decide +kernel
theorem dX9_insert_21 : decode cX9_insert 21 = .ok (.getfield 11, 3) := by decide +kernel
theorem dX9_insert_24 : decode cX9_insert 24 = .ok (.iload_n 3, 1) := by decide +kernel
theorem dX9_insert_25 : decode cX9_insert 25 = .ok (.aload_n 0, 1) := by decide +kernel
theorem dX9_insert_26 : decode cX9_insert 26 = .ok (.getfield 11, 3) := by decide +kernel
theorem dX9_insert_29 : decode cX9_insert 29 = .ok (.iload_n 3, 1) := by decide +kernel
theorem dX9_insert_30 : decode cX9_insert 30 = .ok (.iconst 1, 1) := by decide +kernel
theorem dX9_insert_31 : decode cX9_insert 31 = .ok (.isub, 1) := by decide +kernel
theorem dX9_insert_32 : decode cX9_insert 32 = .ok (.aaload, 1) := by decide +kernel
theorem dX9_insert_33 : decode cX9_insert 33 = .ok (.aastore, 1) := by decide +kernel
theorem dX9_insert_34 : decode cX9_insert 34 = .ok (.iinc 3 (-1), 3) := by decide +kernel
theorem dX9_insert_37 : decode cX9_insert 37 = .ok (.goto (-22), 3) := by decide +kernel
theorem dX9_insert_40 : decode cX9_insert 40 = .ok (.aload_n 0, 1) := by decide +kernel
theorem dX9_insert_41 : decode cX9_insert 41 = .ok (.getfield 11, 3) := by decide +kernel
theorem dX9_insert_44 : decode cX9_insert 44 = .ok (.iload_n 1, 1) := by decide +kernel
theorem dX9_insert_45 : decode cX9_insert 45 = .ok (.aload_n 2, 1) := by decide +kernel
theorem dX9_insert_46 : decode cX9_insert 46 = .ok (.aastore, 1) := by decide +kernel
theorem dX9_insert_47 : decode cX9_insert 47 = .ok (.aload_n 0, 1) := by decide +kernel
theorem dX9_insert_48 : decode cX9_insert 48 = .ok (.dup, 1) := by decide +kernel
theorem dX9_insert_49 : decode cX9_insert 49 = .ok (.getfield 18, 3) := by decide +kernel
theorem dX9_insert_52 : decode cX9_insert 52 = .ok (.iconst 1, 1) := by decide +kernel
theorem dX9_insert_53 : decode cX9_insert 53 = .ok (.iadd, 1) := by decide +kernel
theorem dX9_insert_54 : decode cX9_insert 54 = .ok (.putfield 18, 3) := by decide +kernel
theorem dX9_insert_57 : decode cX9_insert 57 = .ok (.aload_n 2, 1) := by decide +kernel
theorem dX9_insert_58 : decode cX9_insert 58 = .ok (.areturn, 1) := by decide +kernel
theorem dX9_unsureCount_0 : decode cX9_unsureCount 0 = .ok (.iconst 0, 1) := by decide +kernel
theorem dX9_unsureCount_1 : decode cX9_unsureCount 1 = .ok (.istore_n 1, 1) := by decide +kernel
theorem dX9_unsureCount_2 : decode cX9_unsureCount 2 = .ok (.iconst 0, 1) := by decide +kernel
theorem dX9_unsureCount_3 : decode cX9_unsureCount 3 = .ok (.istore_n 2, 1) := by decide +kernel
theorem dX9_unsureCount_4 : decode cX9_unsureCount 4 = .ok (.iload_n 2, 1) := by decide +kernel
theorem dX9_unsureCount_5 : decode cX9_unsureCount 5 = .ok (.aload_n 0, 1) := by decide +kernel
theorem dX9_unsureCount_6 : decode cX9_unsureCount 6 = .ok (.getfield 18, 3) := by decide +kernel
theorem dX9_unsureCount_9 : decode cX9_unsureCount 9 = .ok (.if_icmp .ge 33, 3) := by decide +kernel
theorem dX9_unsureCount_12 : decode cX9_unsureCount 12 = .ok (.aload_n 0, 1) := by decide +kernel
theorem dX9_unsureCount_13 : decode cX9_unsureCount 13 = .ok (.getfield 11, 3) := by decide +kernel
theorem dX9_unsureCount_16 : decode cX9_unsureCount 16 = .ok (.iload_n 2, 1) := by decide +kernel
theorem dX9_unsureCount_17 : decode cX9_unsureCount 17 = .ok (.aaload, 1) := by decide +kernel
theorem dX9_unsureCount_18 : decode cX9_unsureCount 18 = .ok (.getfield 44, 3) := by decide +kernel
theorem dX9_unsureCount_21 : decode cX9_unsureCount 21 = .ok (.aload_n 0, 1) := by decide +kernel
theorem dX9_unsureCount_22 : decode cX9_unsureCount 22 = .ok (.getfield 11, 3) := by decide +kernel
theorem dX9_unsureCount_25 : decode cX9_unsureCount 25 = .ok (.iload_n 2, 1) := by decide +kernel
theorem dX9_unsureCount_26 : decode cX9_unsureCount 26 = .ok (.aaload, 1) := by decide +kernel
theorem dX9_unsureCount_27 : decode cX9_unsureCount 27 = .ok (.getfield 47, 3) := by decide +kernel
theorem dX9_unsureCount_30 : decode cX9_unsureCount 30 = .ok (.if_icmp .ge 6, 3) := by decide +kernel
theorem dX9_unsureCount_33 : decode cX9_unsureCount 33 = .ok (.iinc 1 1, 3) := by decide +kernel
theorem dX9_unsureCount_36 : decode cX9_unsureCount 36 = .ok (.iinc 2 1, 3) := by decide +kernel
theorem dX9_unsureCount_39 : decode cX9_unsureCount 39 = .ok (.goto (-35), 3) := by decide +kernel
theorem dX9_unsureCount_42 : decode cX9_unsureCount 42 = .ok (.iload_n 1, 1) := by decide +kernel
theorem dX9_unsureCount_43 : decode cX9_unsureCount 43 = .ok (.ireturn, 1) := by decide +kernel
theorem dX10_init_0 : decode cX10_init 0 = .ok (.aload_n 0, 1) := by decide +kernel
theorem dX10_init_1 : decode cX10_init 1 = .ok (.invokespecial 1, 3) := by decide +kernel
theorem dX10_init_4 : decode cX10_init 4 = .ok (.aload_n 0, 1) := by decide +kernel
theorem dX10_init_5 : decode cX10_init 5 = .ok (.bipush 12, 2) := by decide +kernel
theorem dX10_init_7 : decode cX10_init 7 = .ok (.newarray .int, 2) := by decide +kernel
theorem dX10_init_9 : decode cX10_init 9 = .ok (.putfield 9, 3) := by decide +kernel
theorem dX10_init_12 : decode cX10_init 12 = .ok (.aload_n 0, 1) := by decide +kernel
theorem dX10_init_13 : decode cX10_init 13 = .ok (.bipush 12, 2) := by decide +kernel
theorem dX10_init_15 : decode cX10_init 15 = .ok (.newarray .int, 2) := by decide +kernel
theorem dX10_init_17 : decode cX10_init 17 = .ok (.putfield 13, 3) := by decide +kernel
theorem dX10_init_20 : decode cX10_init 20 = .ok (.aload_n 0, 1) := by decide +kernel
theorem dX10_init_21 : decode cX10_init 21 = .ok (.iconst 4, 1) := by decide +kernel
theorem dX10_init_22 : decode cX10_init 22 = .ok (.anewarray 16, 3) := by decide +kernel
theorem dX10_init_25 : decode cX10_init 25 = .ok (.putfield 18, 3) := by decide +kernel
theorem dX10_init_28 : decode cX10_init 28 = .ok (.aload_n 0, 1) := by decide +kernel
theorem dX10_init_29 : decode cX10_init 29 = .ok (.bipush 6, 2) := by decide +kernel
theorem dX10_init_31 : decode cX10_init 31 = .ok (.anewarray 22, 3) := by decide +kernel
theorem dX10_init_34 : decode cX10_init 34 = .ok (.putfield 24, 3) := by decide +kernel
theorem dX10_init_37 : decode cX10_init 37 = .ok (.aload_n 0, 1) := by decide +kernel
theorem dX10_init_38 : decode cX10_init 38 = .ok (.bipush 6, 2) := by decide +kernel
theorem dX10_init_40 : decode cX10_init 40 = .ok (.bipush 9, 2) := by decide +kernel
theorem dX10_init_42 : decode cX10_init 42 = .ok (.multianewarray 28 2, 4) := by decide +kernel
theorem dX10_init_46 : decode cX10_init 46 = .ok (.putfield 30, 3) := by decide +kernel
theorem dX10_init_49 : decode cX10_init 49 = .ok (.aload_n 0, 1) := by decide +kernel
theorem dX10_init_50 : decode cX10_init 50 = .ok (.new 33, 3) := by decide +kernel
theorem dX10_init_53 : decode cX10_init 53 = .ok (.dup, 1) := by decide +kernel
theorem dX10_init_54 : decode cX10_init 54 = .ok (.invokespecial 35, 3) := by decide +kernel
theorem dX10_init_57 : decode cX10_init 57 = .ok (.putfield 36, 3) := by decide +kernel
theorem dX10_init_60 : decode cX10_init 60 = .ok (.aload_n 0, 1) := by decide +kernel
theorem dX10_init_61 : decode cX10_init 61 = .ok (.new 40, 3) := by decide +kernel
theorem dX10_init_64 : decode cX10_init 64 = .ok (.dup, 1) := by decide +kernel
theorem dX10_init_65 : decode cX10_init 65 = .ok (.invokespecial 42, 3) := by decide +kernel
theorem dX10_init_68 : decode cX10_init 68 = .ok (.putfield 43, 3) := by decide +kernel
theorem dX10_init_71 : decode cX10_init 71 = .ok (.aload_n 0, 1) := by decide +kernel
theorem dX10_init_72 : decode cX10_init 72 = .ok (.new 22, 3) := by decide +kernel
theorem dX10_init_75 : decode cX10_init 75 = .ok (.dup, 1) := by decide +kernel
theorem dX10_init_76 : decode cX10_init 76 = .ok (.invokespecial 47, 3) := by decide +kernel
theorem dX10_init_79 : decode cX10_init 79 = .ok (.putfield 48, 3) := by decide +kernel
theorem dX10_init_82 : decode cX10_init 82 = .ok (.iconst 0, 1) := by decide +kernel
theorem dX10_init_83 : decode cX10_init 83 = .ok (.istore_n 1, 1) := by decide +kernel
theorem dX10_init_84 : decode cX10_init 84 = .ok (.iload_n 1, 1) := by decide +kernel
theorem dX10_init_85 : decode cX10_init 85 = .ok (.iconst 4, 1) := by decide +kernel
theorem dX10_init_86 : decode cX10_init 86 = .ok (.if_icmp .ge 22, 3) := by decide +kernel
theorem dX10_init_89 : decode cX10_init 89 = .ok (.aload_n 0, 1) := by decide +kernel
theorem dX10_init_90 : decode cX10_init 90 = .ok (.getfield 18, 3) := by decide +kernel
theorem dX10_init_93 : decode cX10_init 93 = .ok (.iload_n 1, 1) := by decide +kernel
theorem dX10_init_94 : decode cX10_init 94 = .ok (.new 16, 3) := by decide +kernel
theorem dX10_init_97 : decode cX10_init 97 = .ok (.dup, 1) := by decide +kernel
theorem dX10_init_98 : decode cX10_init 98 = .ok (.invokespecial 52, 3) := by decide +kernel
theorem dX10_init_101 : decode cX10_init 101 = .ok (.aastore, 1) := by decide +kernel
theorem dX10_init_102 : decode cX10_init 102 = .ok (.iinc 1 1, 3) := by decide +kernel
theorem dX10_init_105 : decode cX10_init 105 = .ok (.goto (-21), 3) := by decide +kernel
theorem dX10_init_108 : decode cX10_init 108 = .ok (.iconst 0, 1) := by decide +kernel
theorem dX10_init_109 : decode cX10_init 109 = .ok (.istore_n 1, 1) := by decide +kernel
theorem dX10_init_110 : decode cX10_init 110 = .ok (.iload_n 1, 1) := by decide +kernel
theorem dX10_init_111 : decode cX10_init 111 = .ok (.bipush 6, 2) := by decide +kernel
theorem dX10_init_113 : decode cX10_init 113 = .ok (.if_icmp .ge 32, 3) := by decide +kernel
theorem dX10_init_116 : decode cX10_init 116 = .ok (.aload_n 0, 1) := by decide +kernel
theorem dX10_init_117 : decode cX10_init 117 = .ok (.getfield 24, 3) := by decide +kernel
theorem dX10_init_120 : decode cX10_init 120 = .ok (.iload_n 1, 1) := by decide +kernel
theorem dX10_init_121 : decode cX10_init 121 = .ok (.new 22, 3) := by decide +kernel
theorem dX10_init_124 : decode cX10_init 124 = .ok (.dup, 1) := by decide +kernel
theorem dX10_init_125 : decode cX10_init 125 = .ok (.invokespecial 47, 3) := by decide +kernel
theorem dX10_init_128 : decode cX10_init 128 = .ok (.aastore, 1) := by decide +kernel
theorem dX10_init_129 : decode cX10_init 129 = .ok (.aload_n 0, 1) := by decide +kernel
theorem dX10_init_130 : decode cX10_init 130 = .ok (.getfield 30, 3) := by decide +kernel
theorem dX10_init_133 : decode cX10_init 133 = .ok (.iload_n 1, 1) := by decide +kernel
theorem dX10_init_134 : decode cX10_init 134 = .ok (.aaload, 1) := by decide +kernel
theorem dX10_init_135 : decode cX10_init 135 = .ok (.iconst 1, 1) := by decide +kernel
theorem dX10_init_136 : decode cX10_init 136 = .ok (.invokestatic 53, 3) := by decide +kernel
theorem dX10_init_139 : decode cX10_init 139 = .ok (.iinc 1 1, 3) := by decide +kernel
theorem dX10_init_142 : decode cX10_init 142 = .ok (.goto (-32), 3) := by decide +kernel
theorem dX10_init_145 : decode cX10_init 145 = .ok (.aload_n 0, 1) := by decide +kernel
theorem dX10_init_146 : decode cX10_init 146 = .ok (.new 59, 3) := by decide +kernel
theorem dX10_init_149 : decode cX10_init 149 = .ok (.dup, 1) := by decide +kernel
theorem dX10_init_150 : decode cX10_init 150 = .ok (.aload_n 0, 1) := by decide +kernel
theorem dX10_init_151 : decode cX10_init 151 = .ok (.getfield 36, 3) := by decide +kernel
theorem dX10_init_154 : decode cX10_init 154 = .ok (.getfield 61, 3) := by decide +kernel
theorem dX10_init_157 : decode cX10_init 157 = .ok (.aload_n 0, 1) := by decide +kernel
theorem dX10_init_158 : decode cX10_init 158 = .ok (.getfield 48, 3) := by decide +kernel
theorem dX10_init_161 : decode cX10_init 161 = .ok (.invokespecial 65, 3) := by decide +kernel
theorem dX10_init_164 : decode cX10_init 164 = .ok (.putfield 68, 3) := by decide +kernel
theorem dX10_init_167 : decode cX10_init 167 = .ok (.aload_n 0, 1) := by decide +kernel
theorem dX10_init_168 : decode cX10_init 168 = .ok (.new 72, 3) := by decide +kernel
theorem dX10_init_171 : decode cX10_init 171 = .ok (.dup, 1) := by decide +kernel
theorem dX10_init_172 : decode cX10_init 172 = .ok (.aload_n 0, 1) := by decide +kernel
theorem dX10_init_173 : decode cX10_init 173 = .ok (.getfield 9, 3) := by decide +kernel
theorem dX10_init_176 : decode cX10_init 176 = .ok (.aload_n 0, 1) := by decide +kernel
theorem dX10_init_177 : decode cX10_init 177 = .ok (.getfield 24, 3) := by decide +kernel
theorem dX10_init_180 : decode cX10_init 180 = .ok (.aload_n 0, 1) := by decide +kernel
theorem dX10_init_181 : decode cX10_init 181 = .ok (.getfield 30, 3) := by decide +kernel
theorem dX10_init_184 : decode cX10_init 184 = .ok (.aload_n 0, 1) := by decide +kernel
theorem dX10_init_185 : decode cX10_init 185 = .ok (.getfield 18, 3) := by decide +kernel
theorem dX10_init_188 : decode cX10_init 188 = .ok (.iconst 0, 1) := by decide +kernel
theorem dX10_init_189 : decode cX10_init 189 = .ok (.aaload, 1) := by decide +kernel
theorem dX10_init_190 : decode cX10_init 190 = .ok (.invokespecial 74, 3) := by decide +kernel
theorem dX10_init_193 : decode cX10_init 193 = .ok (.putfield 77, 3) := by decide +kernel
theorem dX10_init_196 : decode cX10_init 196 = .ok (.aload_n 0, 1) := by decide +kernel
theorem dX10_init_197 : decode cX10_init 197 = .ok (.new 81, 3) := by decide +kernel
theorem dX10_init_200 : decode cX10_init 200 = .ok (.dup, 1) := by decide +kernel
theorem dX10_init_201 : decode cX10_init 201 = .ok (.aload_n 0, 1) := by decide +kernel
theorem dX10_init_202 : decode cX10_init 202 = .ok (.getfield 77, 3) := by decide +kernel
theorem dX10_init_205 : decode cX10_init 205 = .ok (.invokespecial 83, 3) := by decide +kernel
theorem dX10_init_208 : decode cX10_init 208 = .ok (.putfield 86, 3) := by decide +kernel
theorem dX10_init_211 : decode cX10_init 211 = .ok (.aload_n 0, 1) := by decide +kernel
theorem dX10_init_212 : decode cX10_init 212 = .ok (.new 90, 3) := by decide +kernel
theorem dX10_init_215 : decode cX10_init 215 = .ok (.dup, 1) := by decide +kernel
theorem dX10_init_216 : decode cX10_init 216 = .ok (.aload_n 0, 1) := by decide +kernel
theorem dX10_init_217 : decode cX10_init 217 = .ok (.getfield 77, 3) := by decide +kernel
theorem dX10_init_220 : decode cX10_init 220 = .ok (.invokespecial 92, 3) := by decide +kernel
theorem dX10_init_223 : decode cX10_init 223 = .ok (.putfield 93, 3) := by decide +kernel
theorem dX10_init_226 : decode cX10_init 226 = .ok (.return_, 1) := by decide +kernel
theorem dX10_now_0 : decode cX10_now 0 = .ok (.iload_n 1, 1) := by decide +kernel
theorem dX10_now_1 : decode cX10_now 1 = .ok (.aload_n 0, 1) := by decide +kernel
theorem dX10_now_2 : decode cX10_now 2 = .ok (.getfield 97, 3) := by decide +kernel
theorem dX10_now_5 : decode cX10_now 5 = .ok (.sipush 599, 3) := by decide +kernel
theorem dX10_now_8 : decode cX10_now 8 = .ok (.invokestatic 101, 3) := by decide +kernel
theorem dX10_now_11 : decode cX10_now 11 = .ok (.ifCond .ne 5, 3) := by decide +kernel
theorem dX10_now_14 : decode cX10_now 14 = .ok (.iconst 0, 1) := by decide +kernel
theorem dX10_now_15 : decode cX10_now 15 = .ok (.ireturn, 1) := by decide +kernel
theorem dX10_now_16 : decode cX10_now 16 = .ok (.aload_n 0, 1) := by decide +kernel
theorem dX10_now_17 : decode cX10_now 17 = .ok (.iload_n 1, 1) := by decide +kernel
theorem dX10_now_18 : decode cX10_now 18 = .ok (.putfield 97, 3) := by decide +kernel
theorem dX10_now_21 : decode cX10_now 21 = .ok (.iconst 1, 1) := by decide +kernel
theorem dX10_now_22 : decode cX10_now 22 = .ok (.ireturn, 1) := by decide +kernel
theorem dX10_person_0 : decode cX10_person 0 = .ok (.aload_n 0, 1) := by decide +kernel
theorem dX10_person_1 : decode cX10_person 1 = .ok (.getfield 105, 3) := by decide +kernel
theorem dX10_person_4 : decode cX10_person 4 = .ok (.bipush 12, 2) := by decide +kernel
theorem dX10_person_6 : decode cX10_person 6 = .ok (.if_icmp .ge 20, 3) := by decide +kernel
theorem dX10_person_9 : decode cX10_person 9 = .ok (.iload_n 1, 1) := by decide +kernel
theorem dX10_person_10 : decode cX10_person 10 = .ok (.invokestatic 108, 3) := by decide +kernel
theorem dX10_person_13 : decode cX10_person 13 = .ok (.ifCond .eq 13, 3) := by decide +kernel
theorem dX10_person_16 : decode cX10_person 16 = .ok (.iload_n 2, 1) := by decide +kernel
theorem dX10_person_17 : decode cX10_person 17 = .ok (.iconst 0, 1) := by decide +kernel
theorem dX10_person_18 : decode cX10_person 18 = .ok (.ldc 112, 2) := by decide +kernel
theorem dX10_person_20 : decode cX10_person 20 = .ok (.invokestatic 101, 3) := by decide +kernel
theorem dX10_person_23 : decode cX10_person 23 = .ok (.ifCond .ne 5, 3) := by decide +kernel
theorem dX10_person_26 : decode cX10_person 26 = .ok (.iconst (-1), 1) := by decide +kernel
theorem dX10_person_27 : decode cX10_person 27 = .ok (.ireturn, 1) := by decide +kernel
theorem dX10_person_28 : decode cX10_person 28 = .ok (.aload_n 0, 1) := by decide +kernel
theorem dX10_person_29 : decode cX10_person 29 = .ok (.getfield 9, 3) := by decide +kernel
theorem dX10_person_32 : decode cX10_person 32 = .ok (.aload_n 0, 1) := by decide +kernel
theorem dX10_person_33 : decode cX10_person 33 = .ok (.getfield 105, 3) := by decide +kernel
theorem dX10_person_36 : decode cX10_person 36 = .ok (.iload_n 1, 1) := by decide +kernel
theorem dX10_person_37 : decode cX10_person 37 = .ok (.iastore, 1) := by decide +kernel
theorem dX10_person_38 : decode cX10_person 38 = .ok (.aload_n 0, 1) := by decide +kernel
theorem dX10_person_39 : decode cX10_person 39 = .ok (.getfield 13, 3) := by decide +kernel
theorem dX10_person_42 : decode cX10_person 42 = .ok (.aload_n 0, 1) := by decide +kernel
theorem dX10_person_43 : decode cX10_person 43 = .ok (.getfield 105, 3) := by decide +kernel
theorem dX10_person_46 : decode cX10_person 46 = .ok (.iload_n 2, 1) := by decide +kernel
theorem dX10_person_47 : decode cX10_person 47 = .ok (.iastore, 1) := by decide +kernel
theorem dX10_person_48 : decode cX10_person 48 = .ok (.aload_n 0, 1) := by decide +kernel
theorem dX10_person_49 : decode cX10_person 49 = .ok (.dup, 1) := by decide +kernel
theorem dX10_person_50 : decode cX10_person 50 = .ok (.getfield 105, 3) := by decide +kernel
theorem dX10_person_53 : decode cX10_person 53 = .ok (.iconst 1, 1) := by decide +kernel
theorem dX10_person_54 : decode cX10_person 54 = .ok (.iadd, 1) := by decide +kernel
theorem dX10_person_55 : decode cX10_person 55 = .ok (.putfield 105, 3) := by decide +kernel
theorem dX10_person_58 : decode cX10_person 58 = .ok (.aload_n 0, 1) := by decide +kernel
theorem dX10_person_59 : decode cX10_person 59 = .ok (.getfield 105, 3) := by decide +kernel
theorem dX10_person_62 : decode cX10_person 62 = .ok (.iconst 1, 1) := by decide +kernel
theorem dX10_person_63 : decode cX10_person 63 = .ok (.isub, 1) := by decide +kernel
theorem dX10_person_64 : decode cX10_person 64 = .ok (.ireturn, 1) := by decide +kernel
theorem dX10_thing_0 : decode cX10_thing 0 = .ok (.aload_n 0, 1) := by decide +kernel
theorem dX10_thing_1 : decode cX10_thing 1 = .ok (.getfield 113, 3) := by decide +kernel
theorem dX10_thing_4 : decode cX10_thing 4 = .ok (.iconst 4, 1) := by decide +kernel
theorem dX10_thing_5 : decode cX10_thing 5 = .ok (.if_icmp .ge 28, 3) := by decide +kernel
theorem dX10_thing_8 : decode cX10_thing 8 = .ok (.iload_n 1, 1) := by decide +kernel
theorem dX10_thing_9 : decode cX10_thing 9 = .ok (.iconst 1, 1) := by decide +kernel
theorem dX10_thing_10 : decode cX10_thing 10 = .ok (.ldc 112, 2) := by decide +kernel
theorem dX10_thing_12 : decode cX10_thing 12 = .ok (.invokestatic 101, 3) := by decide +kernel
theorem dX10_thing_15 : decode cX10_thing 15 = .ok (.ifCond .eq 18, 3) := by decide +kernel
theorem dX10_thing_18 : decode cX10_thing 18 = .ok (.aload_n 0, 1) := by decide +kernel
theorem dX10_thing_19 : decode cX10_thing 19 = .ok (.iload_n 2, 1) := by decide +kernel
theorem dX10_thing_20 : decode cX10_thing 20 = .ok (.invokevirtual 116, 3) := by decide +kernel
theorem dX10_thing_23 : decode cX10_thing 23 = .ok (.ifCond .eq 10, 3) := by decide +kernel
theorem dX10_thing_26 : decode cX10_thing 26 = .ok (.iload_n 3, 1) := by decide +kernel
theorem dX10_thing_27 : decode cX10_thing 27 = .ok (.invokestatic 108, 3) := by decide +kernel
theorem dX10_thing_30 : decode cX10_thing 30 = .ok (.ifCond .ne 5, 3) := by decide +kernel
theorem dX10_thing_33 : decode cX10_thing 33 = .ok (.iconst (-1), 1) := by decide +kernel
theorem dX10_thing_34 : decode cX10_thing 34 = .ok (.ireturn, 1) := by decide +kernel
theorem dX10_thing_35 : decode cX10_thing 35 = .ok (.aload_n 0, 1) := by decide +kernel
theorem dX10_thing_36 : decode cX10_thing 36 = .ok (.getfield 18, 3) := by decide +kernel
theorem dX10_thing_39 : decode cX10_thing 39 = .ok (.aload_n 0, 1) := by decide +kernel
theorem dX10_thing_40 : decode cX10_thing 40 = .ok (.getfield 113, 3) := by decide +kernel
theorem dX10_thing_43 : decode cX10_thing 43 = .ok (.aaload, 1) := by decide +kernel
theorem dX10_thing_44 : decode cX10_thing 44 = .ok (.astore 4, 2) := by decide +kernel
theorem dX10_thing_46 : decode cX10_thing 46 = .ok (.aload 4, 2) := by decide +kernel
theorem dX10_thing_48 : decode cX10_thing 48 = .ok (.iload_n 1, 1) := by decide +kernel
theorem dX10_thing_49 : decode cX10_thing 49 = .ok (.putfield 119, 3) := by decide +kernel
theorem dX10_thing_52 : decode cX10_thing 52 = .ok (.aload 4, 2) := by decide +kernel
theorem dX10_thing_54 : decode cX10_thing 54 = .ok (.iload_n 2, 1) := by decide +kernel
theorem dX10_thing_55 : decode cX10_thing 55 = .ok (.putfield 122, 3) := by decide +kernel
theorem dX10_thing_58 : decode cX10_thing 58 = .ok (.aload 4, 2) := by decide +kernel
theorem dX10_thing_60 : decode cX10_thing 60 = .ok (.iload_n 3, 1) := by decide +kernel
theorem dX10_thing_61 : decode cX10_thing 61 = .ok (.putfield 125, 3) := by decide +kernel
theorem dX10_thing_64 : decode cX10_thing 64 = .ok (.aload_n 0, 1) := by decide +kernel
theorem dX10_thing_65 : decode cX10_thing 65 = .ok (.dup, 1) := by decide +kernel
theorem dX10_thing_66 : decode cX10_thing 66 = .ok (.getfield 113, 3) := by decide +kernel
theorem dX10_thing_69 : decode cX10_thing 69 = .ok (.iconst 1, 1) := by decide +kernel
theorem dX10_thing_70 : decode cX10_thing 70 = .ok (.iadd, 1) := by decide +kernel
theorem dX10_thing_71 : decode cX10_thing 71 = .ok (.putfield 113, 3) := by decide +kernel
theorem dX10_thing_74 : decode cX10_thing 74 = .ok (.aload_n 0, 1) := by decide +kernel
theorem dX10_thing_75 : decode cX10_thing 75 = .ok (.getfield 113, 3) := by decide +kernel
theorem dX10_thing_78 : decode cX10_thing 78 = .ok (.iconst 1, 1) := by decide +kernel
theorem dX10_thing_79 : decode cX10_thing 79 = .ok (.isub, 1) := by decide +kernel
theorem dX10_thing_80 : decode cX10_thing 80 = .ok (.ireturn, 1) := by decide +kernel
theorem dX10_passing_0 : decode cX10_passing 0 = .ok (.aload_n 0, 1) := by decide +kernel
theorem dX10_passing_1 : decode cX10_passing 1 = .ok (.iload_n 1, 1) := by decide +kernel
theorem dX10_passing_2 : decode cX10_passing 2 = .ok (.invokevirtual 128, 3) := by decide +kernel
theorem dX10_passing_5 : decode cX10_passing 5 = .ok (.ifCond .eq 29, 3) := by decide +kernel
theorem dX10_passing_8 : decode cX10_passing 8 = .ok (.aload_n 0, 1) := by decide +kernel
theorem dX10_passing_9 : decode cX10_passing 9 = .ok (.iload_n 3, 1) := by decide +kernel
theorem dX10_passing_10 : decode cX10_passing 10 = .ok (.invokevirtual 116, 3) := by decide +kernel
theorem dX10_passing_13 : decode cX10_passing 13 = .ok (.ifCond .eq 21, 3) := by decide +kernel
theorem dX10_passing_16 : decode cX10_passing 16 = .ok (.iload 4, 2) := by decide +kernel
theorem dX10_passing_18 : decode cX10_passing 18 = .ok (.invokestatic 108, 3) := by decide +kernel
theorem dX10_passing_21 : decode cX10_passing 21 = .ok (.ifCond .eq 13, 3) := by decide +kernel
theorem dX10_passing_24 : decode cX10_passing 24 = .ok (.iload 8, 2) := by decide +kernel
theorem dX10_passing_26 : decode cX10_passing 26 = .ok (.iload 9, 2) := by decide +kernel
theorem dX10_passing_28 : decode cX10_passing 28 = .ok (.invokestatic 131, 3) := by decide +kernel
theorem dX10_passing_31 : decode cX10_passing 31 = .ok (.ifCond .ne 5, 3) := by decide +kernel
theorem dX10_passing_34 : decode cX10_passing 34 = .ok (.iconst (-1), 1) := by decide +kernel
theorem dX10_passing_35 : decode cX10_passing 35 = .ok (.ireturn, 1) := by decide +kernel
theorem dX10_passing_36 : decode cX10_passing 36 = .ok (.iload_n 2, 1) := by decide +kernel
theorem dX10_passing_37 : decode cX10_passing 37 = .ok (.iconst 0, 1) := by decide +kernel
theorem dX10_passing_38 : decode cX10_passing 38 = .ok (.bipush 7, 2) := by decide +kernel
theorem dX10_passing_40 : decode cX10_passing 40 = .ok (.invokestatic 101, 3) := by decide +kernel
theorem dX10_passing_43 : decode cX10_passing 43 = .ok (.ifCond .eq 27, 3) := by decide +kernel
theorem dX10_passing_46 : decode cX10_passing 46 = .ok (.iload 5, 2) := by decide +kernel
theorem dX10_passing_48 : decode cX10_passing 48 = .ok (.iconst 0, 1) := by decide +kernel
theorem dX10_passing_49 : decode cX10_passing 49 = .ok (.aload_n 0, 1) := by decide +kernel
theorem dX10_passing_50 : decode cX10_passing 50 = .ok (.getfield 97, 3) := by decide +kernel
theorem dX10_passing_53 : decode cX10_passing 53 = .ok (.invokestatic 101, 3) := by decide +kernel
theorem dX10_passing_56 : decode cX10_passing 56 = .ok (.ifCond .eq 14, 3) := by decide +kernel
theorem dX10_passing_59 : decode cX10_passing 59 = .ok (.iload 7, 2) := by decide +kernel
theorem dX10_passing_61 : decode cX10_passing 61 = .ok (.iconst 0, 1) := by decide +kernel
theorem dX10_passing_62 : decode cX10_passing 62 = .ok (.bipush 7, 2) := by decide +kernel
theorem dX10_passing_64 : decode cX10_passing 64 = .ok (.invokestatic 101, 3) := by decide +kernel
theorem dX10_passing_67 : decode cX10_passing 67 = .ok (.ifCond .ne 5, 3) := by decide +kernel
theorem dX10_passing_70 : decode cX10_passing 70 = .ok (.iconst (-1), 1) := by decide +kernel
theorem dX10_passing_71 : decode cX10_passing 71 = .ok (.ireturn, 1) := by decide +kernel
theorem dX10_passing_72 : decode cX10_passing 72 = .ok (.iload 6, 2) := by decide +kernel
theorem dX10_passing_74 : decode cX10_passing 74 = .ok (.iconst 0, 1) := by decide +kernel
theorem dX10_passing_75 : decode cX10_passing 75 = .ok (.iload_n 2, 1) := by decide +kernel
theorem dX10_passing_76 : decode cX10_passing 76 = .ok (.ifCond .ne 8, 3) := by decide +kernel
theorem dX10_passing_79 : decode cX10_passing 79 = .ok (.ldc 112, 2) := by decide +kernel
theorem dX10_passing_81 : decode cX10_passing 81 = .ok (.goto 4, 3) := by decide +kernel
theorem dX10_passing_84 : decode cX10_passing 84 = .ok (.iconst 0, 1) := by decide +kernel
theorem dX10_passing_85 : decode cX10_passing 85 = .ok (.invokestatic 101, 3) := by decide +kernel
theorem dX10_passing_88 : decode cX10_passing 88 = .ok (.ifCond .ne 5, 3) := by decide +kernel
theorem dX10_passing_91 : decode cX10_passing 91 = .ok (.iconst (-1), 1) := by decide +kernel
theorem dX10_passing_92 : decode cX10_passing 92 = .ok (.ireturn, 1) := by decide +kernel
theorem dX10_passing_93 : decode cX10_passing 93 = .ok (.aload_n 0, 1) := by decide +kernel
theorem dX10_passing_94 : decode cX10_passing 94 = .ok (.getfield 18, 3) := by decide +kernel
theorem dX10_passing_97 : decode cX10_passing 97 = .ok (.iload_n 1, 1) := by decide +kernel
theorem dX10_passing_98 : decode cX10_passing 98 = .ok (.aaload, 1) := by decide +kernel
theorem dX10_passing_99 : decode cX10_passing 99 = .ok (.astore 10, 2) := by decide +kernel
theorem dX10_passing_101 : decode cX10_passing 101 = .ok (.aload 10, 2) := by decide +kernel
theorem dX10_passing_103 : decode cX10_passing 103 = .ok (.iload 5, 2) := by decide +kernel
theorem dX10_passing_105 : decode cX10_passing 105 = .ok (.invokevirtual 135, 3) := by decide +kernel
theorem dX10_passing_108 : decode cX10_passing 108 = .ok (.istore 11, 2) := by decide +kernel
theorem dX10_passing_110 : decode cX10_passing 110 = .ok (.aload 10, 2) := by decide +kernel
theorem dX10_passing_112 : decode cX10_passing 112 = .ok (.iload_n 3, 1) := by decide +kernel
theorem dX10_passing_113 : decode cX10_passing 113 = .ok (.iload 11, 2) := by decide +kernel
theorem dX10_passing_115 : decode cX10_passing 115 = .ok (.invokevirtual 139, 3) := by decide +kernel
theorem dX10_passing_118 : decode cX10_passing 118 = .ok (.ifCond .ne 5, 3) := by decide +kernel
theorem dX10_passing_121 : decode cX10_passing 121 = .ok (.iconst (-1), 1) := by decide +kernel
theorem dX10_passing_122 : decode cX10_passing 122 = .ok (.ireturn, 1) := by decide +kernel
theorem dX10_passing_123 : decode cX10_passing 123 = .ok (.aload 10, 2) := by decide +kernel
theorem dX10_passing_125 : decode cX10_passing 125 = .ok (.iload 11, 2) := by decide +kernel
theorem dX10_passing_127 : decode cX10_passing 127 = .ok (.invokevirtual 142, 3) := by decide +kernel
theorem dX10_passing_130 : decode cX10_passing 130 = .ok (.astore 12, 2) := by decide +kernel
theorem dX10_passing_132 : decode cX10_passing 132 = .ok (.aload 12, 2) := by decide +kernel
theorem dX10_passing_134 : decode cX10_passing 134 = .ok (.iload_n 2, 1) := by decide +kernel
theorem dX10_passing_135 : decode cX10_passing 135 = .ok (.iload_n 3, 1) := by decide +kernel
theorem dX10_passing_136 : decode cX10_passing 136 = .ok (.iload 4, 2) := by decide +kernel
theorem dX10_passing_138 : decode cX10_passing 138 = .ok (.iload 5, 2) := by decide +kernel
theorem dX10_passing_140 : decode cX10_passing 140 = .ok (.invokevirtual 146, 3) := by decide +kernel
theorem dX10_passing_143 : decode cX10_passing 143 = .ok (.aload 12, 2) := by decide +kernel
theorem dX10_passing_145 : decode cX10_passing 145 = .ok (.iload 6, 2) := by decide +kernel
theorem dX10_passing_147 : decode cX10_passing 147 = .ok (.iload 7, 2) := by decide +kernel
theorem dX10_passing_149 : decode cX10_passing 149 = .ok (.invokevirtual 152, 3) := by decide +kernel
theorem dX10_passing_152 : decode cX10_passing 152 = .ok (.aload 12, 2) := by decide +kernel
theorem dX10_passing_154 : decode cX10_passing 154 = .ok (.iload 8, 2) := by decide +kernel
theorem dX10_passing_156 : decode cX10_passing 156 = .ok (.iload 9, 2) := by decide +kernel
theorem dX10_passing_158 : decode cX10_passing 158 = .ok (.invokevirtual 156, 3) := by decide +kernel
theorem dX10_passing_161 : decode cX10_passing 161 = .ok (.iload 11, 2) := by decide +kernel
theorem dX10_passing_163 : decode cX10_passing 163 = .ok (.ireturn, 1) := by decide +kernel
theorem dX10_mind_0 : decode cX10_mind 0 = .ok (.aload_n 0, 1) := by decide +kernel
theorem dX10_mind_1 : decode cX10_mind 1 = .ok (.iload_n 1, 1) := by decide +kernel
theorem dX10_mind_2 : decode cX10_mind 2 = .ok (.iload_n 2, 1) := by decide +kernel
theorem dX10_mind_3 : decode cX10_mind 3 = .ok (.invokevirtual 159, 3) := by decide +kernel
theorem dX10_mind_6 : decode cX10_mind 6 = .ok (.ifCond .eq 12, 3) := by decide +kernel
theorem dX10_mind_9 : decode cX10_mind 9 = .ok (.iload_n 3, 1) := by decide +kernel
theorem dX10_mind_10 : decode cX10_mind 10 = .ok (.iload 4, 2) := by decide +kernel
theorem dX10_mind_12 : decode cX10_mind 12 = .ok (.invokestatic 131, 3) := by decide +kernel
theorem dX10_mind_15 : decode cX10_mind 15 = .ok (.ifCond .ne 5, 3) := by decide +kernel
theorem dX10_mind_18 : decode cX10_mind 18 = .ok (.iconst 0, 1) := by decide +kernel
theorem dX10_mind_19 : decode cX10_mind 19 = .ok (.ireturn, 1) := by decide +kernel
theorem dX10_mind_20 : decode cX10_mind 20 = .ok (.aload_n 0, 1) := by decide +kernel
theorem dX10_mind_21 : decode cX10_mind 21 = .ok (.getfield 18, 3) := by decide +kernel
theorem dX10_mind_24 : decode cX10_mind 24 = .ok (.iload_n 1, 1) := by decide +kernel
theorem dX10_mind_25 : decode cX10_mind 25 = .ok (.aaload, 1) := by decide +kernel
theorem dX10_mind_26 : decode cX10_mind 26 = .ok (.getfield 162, 3) := by decide +kernel
theorem dX10_mind_29 : decode cX10_mind 29 = .ok (.iload_n 2, 1) := by decide +kernel
theorem dX10_mind_30 : decode cX10_mind 30 = .ok (.aaload, 1) := by decide +kernel
theorem dX10_mind_31 : decode cX10_mind 31 = .ok (.iload_n 3, 1) := by decide +kernel
theorem dX10_mind_32 : decode cX10_mind 32 = .ok (.iload 4, 2) := by decide +kernel
theorem dX10_mind_34 : decode cX10_mind 34 = .ok (.invokevirtual 156, 3) := by decide +kernel
theorem dX10_mind_37 : decode cX10_mind 37 = .ok (.iconst 1, 1) := by decide +kernel
theorem dX10_mind_38 : decode cX10_mind 38 = .ok (.ireturn, 1) := by decide +kernel
theorem dX10_feed_0 : decode cX10_feed 0 = .ok (.aload_n 0, 1) := by decide +kernel
theorem dX10_feed_1 : decode cX10_feed 1 = .ok (.getfield 36, 3) := by decide +kernel
theorem dX10_feed_4 : decode cX10_feed 4 = .ok (.getfield 166, 3) := by decide +kernel
theorem dX10_feed_7 : decode cX10_feed 7 = .ok (.bipush 20, 2) := by decide +kernel
theorem dX10_feed_9 : decode cX10_feed 9 = .ok (.iadd, 1) := by decide +kernel
theorem dX10_feed_10 : decode cX10_feed 10 = .ok (.sipush 200, 3) := by decide +kernel
theorem dX10_feed_13 : decode cX10_feed 13 = .ok (.if_icmp .le 5, 3) := by decide +kernel
theorem dX10_feed_16 : decode cX10_feed 16 = .ok (.iconst (-1), 1) := by decide +kernel
theorem dX10_feed_17 : decode cX10_feed 17 = .ok (.ireturn, 1) := by decide +kernel
theorem dX10_feed_18 : decode cX10_feed 18 = .ok (.aload_n 0, 1) := by decide +kernel
theorem dX10_feed_19 : decode cX10_feed 19 = .ok (.getfield 36, 3) := by decide +kernel
theorem dX10_feed_22 : decode cX10_feed 22 = .ok (.iload_n 1, 1) := by decide +kernel
theorem dX10_feed_23 : decode cX10_feed 23 = .ok (.invokevirtual 169, 3) := by decide +kernel
theorem dX10_feed_26 : decode cX10_feed 26 = .ok (.aload_n 0, 1) := by decide +kernel
theorem dX10_feed_27 : decode cX10_feed 27 = .ok (.getfield 36, 3) := by decide +kernel
theorem dX10_feed_30 : decode cX10_feed 30 = .ok (.iload_n 2, 1) := by decide +kernel
theorem dX10_feed_31 : decode cX10_feed 31 = .ok (.invokevirtual 169, 3) := by decide +kernel
theorem dX10_feed_34 : decode cX10_feed 34 = .ok (.aload_n 0, 1) := by decide +kernel
theorem dX10_feed_35 : decode cX10_feed 35 = .ok (.getfield 36, 3) := by decide +kernel
theorem dX10_feed_38 : decode cX10_feed 38 = .ok (.iload_n 3, 1) := by decide +kernel
theorem dX10_feed_39 : decode cX10_feed 39 = .ok (.invokevirtual 169, 3) := by decide +kernel
theorem dX10_feed_42 : decode cX10_feed 42 = .ok (.aload_n 0, 1) := by decide +kernel
theorem dX10_feed_43 : decode cX10_feed 43 = .ok (.getfield 36, 3) := by decide +kernel
theorem dX10_feed_46 : decode cX10_feed 46 = .ok (.iload 4, 2) := by decide +kernel
theorem dX10_feed_48 : decode cX10_feed 48 = .ok (.invokevirtual 169, 3) := by decide +kernel
theorem dX10_feed_51 : decode cX10_feed 51 = .ok (.aload_n 0, 1) := by decide +kernel
theorem dX10_feed_52 : decode cX10_feed 52 = .ok (.getfield 36, 3) := by decide +kernel
theorem dX10_feed_55 : decode cX10_feed 55 = .ok (.iload 5, 2) := by decide +kernel
theorem dX10_feed_57 : decode cX10_feed 57 = .ok (.invokevirtual 169, 3) := by decide +kernel
theorem dX10_feed_60 : decode cX10_feed 60 = .ok (.aload_n 0, 1) := by decide +kernel
theorem dX10_feed_61 : decode cX10_feed 61 = .ok (.getfield 36, 3) := by decide +kernel
theorem dX10_feed_64 : decode cX10_feed 64 = .ok (.getfield 166, 3) := by decide +kernel
theorem dX10_feed_67 : decode cX10_feed 67 = .ok (.ireturn, 1) := by decide +kernel
theorem dX10_law_0 : decode cX10_law 0 = .ok (.iload_n 1, 1) := by decide +kernel
theorem dX10_law_1 : decode cX10_law 1 = .ok (.invokestatic 108, 3) := by decide +kernel
theorem dX10_law_4 : decode cX10_law 4 = .ok (.ifCond .eq 25, 3) := by decide +kernel
theorem dX10_law_7 : decode cX10_law 7 = .ok (.iload_n 2, 1) := by decide +kernel
theorem dX10_law_8 : decode cX10_law 8 = .ok (.iconst 1, 1) := by decide +kernel
theorem dX10_law_9 : decode cX10_law 9 = .ok (.sipush 160, 3) := by decide +kernel
theorem dX10_law_12 : decode cX10_law 12 = .ok (.invokestatic 101, 3) := by decide +kernel
theorem dX10_law_15 : decode cX10_law 15 = .ok (.ifCond .eq 14, 3) := by decide +kernel
theorem dX10_law_18 : decode cX10_law 18 = .ok (.iload_n 2, 1) := by decide +kernel
theorem dX10_law_19 : decode cX10_law 19 = .ok (.aload_n 0, 1) := by decide +kernel
theorem dX10_law_20 : decode cX10_law 20 = .ok (.getfield 36, 3) := by decide +kernel
theorem dX10_law_23 : decode cX10_law 23 = .ok (.getfield 166, 3) := by decide +kernel
theorem dX10_law_26 : decode cX10_law 26 = .ok (.if_icmp .le 5, 3) := by decide +kernel
theorem dX10_law_29 : decode cX10_law 29 = .ok (.iconst (-1), 1) := by decide +kernel
theorem dX10_law_30 : decode cX10_law 30 = .ok (.ireturn, 1) := by decide +kernel
theorem dX10_law_31 : decode cX10_law 31 = .ok (.aload_n 0, 1) := by decide +kernel
theorem dX10_law_32 : decode cX10_law 32 = .ok (.getfield 68, 3) := by decide +kernel
theorem dX10_law_35 : decode cX10_law 35 = .ok (.iload_n 2, 1) := by decide +kernel
theorem dX10_law_36 : decode cX10_law 36 = .ok (.aload_n 0, 1) := by decide +kernel
theorem dX10_law_37 : decode cX10_law 37 = .ok (.getfield 48, 3) := by decide +kernel
theorem dX10_law_40 : decode cX10_law 40 = .ok (.invokevirtual 173, 3) := by decide +kernel
theorem dX10_law_43 : decode cX10_law 43 = .ok (.istore_n 3, 1) := by decide +kernel
theorem dX10_law_44 : decode cX10_law 44 = .ok (.aload_n 0, 1) := by decide +kernel
theorem dX10_law_45 : decode cX10_law 45 = .ok (.getfield 36, 3) := by decide +kernel
theorem dX10_law_48 : decode cX10_law 48 = .ok (.iconst 0, 1) := by decide +kernel
theorem dX10_law_49 : decode cX10_law 49 = .ok (.putfield 166, 3) := by decide +kernel
theorem dX10_law_52 : decode cX10_law 52 = .ok (.iload_n 3, 1) := by decide +kernel
theorem dX10_law_53 : decode cX10_law 53 = .ok (.ifCond .lt 27, 3) := by decide +kernel
theorem dX10_law_56 : decode cX10_law 56 = .ok (.aload_n 0, 1) := by decide +kernel
theorem dX10_law_57 : decode cX10_law 57 = .ok (.getfield 24, 3) := by decide +kernel
theorem dX10_law_60 : decode cX10_law 60 = .ok (.iload_n 1, 1) := by decide +kernel
theorem dX10_law_61 : decode cX10_law 61 = .ok (.aaload, 1) := by decide +kernel
theorem dX10_law_62 : decode cX10_law 62 = .ok (.astore 4, 2) := by decide +kernel
theorem dX10_law_64 : decode cX10_law 64 = .ok (.aload_n 0, 1) := by decide +kernel
theorem dX10_law_65 : decode cX10_law 65 = .ok (.getfield 24, 3) := by decide +kernel
theorem dX10_law_68 : decode cX10_law 68 = .ok (.iload_n 1, 1) := by decide +kernel
theorem dX10_law_69 : decode cX10_law 69 = .ok (.aload_n 0, 1) := by decide +kernel
theorem dX10_law_70 : decode cX10_law 70 = .ok (.getfield 48, 3) := by decide +kernel
theorem dX10_law_73 : decode cX10_law 73 = .ok (.aastore, 1) := by decide +kernel
theorem dX10_law_74 : decode cX10_law 74 = .ok (.aload_n 0, 1) := by decide +kernel
theorem dX10_law_75 : decode cX10_law 75 = .ok (.aload 4, 2) := by decide +kernel
theorem dX10_law_77 : decode cX10_law 77 = .ok (.putfield 48, 3) := by decide +kernel
theorem dX10_law_80 : decode cX10_law 80 = .ok (.iload_n 3, 1) := by decide +kernel
theorem dX10_law_81 : decode cX10_law 81 = .ok (.ireturn, 1) := by decide +kernel
theorem dX10_sends_0 : decode cX10_sends 0 = .ok (.iload_n 1, 1) := by decide +kernel
theorem dX10_sends_1 : decode cX10_sends 1 = .ok (.invokestatic 108, 3) := by decide +kernel
theorem dX10_sends_4 : decode cX10_sends 4 = .ok (.ifCond .eq 22, 3) := by decide +kernel
theorem dX10_sends_7 : decode cX10_sends 7 = .ok (.iload_n 2, 1) := by decide +kernel
theorem dX10_sends_8 : decode cX10_sends 8 = .ok (.iconst 0, 1) := by decide +kernel
theorem dX10_sends_9 : decode cX10_sends 9 = .ok (.bipush 8, 2) := by decide +kernel
theorem dX10_sends_11 : decode cX10_sends 11 = .ok (.invokestatic 101, 3) := by decide +kernel
theorem dX10_sends_14 : decode cX10_sends 14 = .ok (.ifCond .eq 12, 3) := by decide +kernel
theorem dX10_sends_17 : decode cX10_sends 17 = .ok (.iload_n 3, 1) := by decide +kernel
theorem dX10_sends_18 : decode cX10_sends 18 = .ok (.iconst 0, 1) := by decide +kernel
theorem dX10_sends_19 : decode cX10_sends 19 = .ok (.iconst 5, 1) := by decide +kernel
theorem dX10_sends_20 : decode cX10_sends 20 = .ok (.invokestatic 101, 3) := by decide +kernel
theorem dX10_sends_23 : decode cX10_sends 23 = .ok (.ifCond .ne 5, 3) := by decide +kernel
theorem dX10_sends_26 : decode cX10_sends 26 = .ok (.iconst 0, 1) := by decide +kernel
theorem dX10_sends_27 : decode cX10_sends 27 = .ok (.ireturn, 1) := by decide +kernel
theorem dX10_sends_28 : decode cX10_sends 28 = .ok (.aload_n 0, 1) := by decide +kernel
theorem dX10_sends_29 : decode cX10_sends 29 = .ok (.getfield 30, 3) := by decide +kernel
theorem dX10_sends_32 : decode cX10_sends 32 = .ok (.iload_n 1, 1) := by decide +kernel
theorem dX10_sends_33 : decode cX10_sends 33 = .ok (.aaload, 1) := by decide +kernel
theorem dX10_sends_34 : decode cX10_sends 34 = .ok (.iload_n 2, 1) := by decide +kernel
theorem dX10_sends_35 : decode cX10_sends 35 = .ok (.iload_n 3, 1) := by decide +kernel
theorem dX10_sends_36 : decode cX10_sends 36 = .ok (.iastore, 1) := by decide +kernel
theorem dX10_sends_37 : decode cX10_sends 37 = .ok (.iconst 1, 1) := by decide +kernel
theorem dX10_sends_38 : decode cX10_sends 38 = .ok (.ireturn, 1) := by decide +kernel
theorem dX10_rules_0 : decode cX10_rules 0 = .ok (.iload_n 1, 1) := by decide +kernel
theorem dX10_rules_1 : decode cX10_rules 1 = .ok (.invokestatic 108, 3) := by decide +kernel
theorem dX10_rules_4 : decode cX10_rules 4 = .ok (.ifCond .eq 22, 3) := by decide +kernel
theorem dX10_rules_7 : decode cX10_rules 7 = .ok (.aload_n 0, 1) := by decide +kernel
theorem dX10_rules_8 : decode cX10_rules 8 = .ok (.iload_n 2, 1) := by decide +kernel
theorem dX10_rules_9 : decode cX10_rules 9 = .ok (.iload_n 3, 1) := by decide +kernel
theorem dX10_rules_10 : decode cX10_rules 10 = .ok (.invokevirtual 159, 3) := by decide +kernel
theorem dX10_rules_13 : decode cX10_rules 13 = .ok (.ifCond .eq 13, 3) := by decide +kernel
theorem dX10_rules_16 : decode cX10_rules 16 = .ok (.iload 4, 2) := by decide +kernel
theorem dX10_rules_18 : decode cX10_rules 18 = .ok (.iconst 0, 1) := by decide +kernel
theorem dX10_rules_19 : decode cX10_rules 19 = .ok (.iconst 1, 1) := by decide +kernel
theorem dX10_rules_20 : decode cX10_rules 20 = .ok (.invokestatic 101, 3) := by decide +kernel
theorem dX10_rules_23 : decode cX10_rules 23 = .ok (.ifCond .ne 5, 3) := by decide +kernel
theorem dX10_rules_26 : decode cX10_rules 26 = .ok (.iconst (-1), 1) := by decide +kernel
theorem dX10_rules_27 : decode cX10_rules 27 = .ok (.ireturn, 1) := by decide +kernel
theorem dX10_rules_28 : decode cX10_rules 28 = .ok (.aload_n 0, 1) := by decide +kernel
theorem dX10_rules_29 : decode cX10_rules 29 = .ok (.iload_n 1, 1) := by decide +kernel
theorem dX10_rules_30 : decode cX10_rules 30 = .ok (.iload_n 2, 1) := by decide +kernel
theorem dX10_rules_31 : decode cX10_rules 31 = .ok (.invokevirtual 177, 3) := by decide +kernel
theorem dX10_rules_34 : decode cX10_rules 34 = .ok (.pop, 1) := by decide +kernel
theorem dX10_rules_35 : decode cX10_rules 35 = .ok (.iload 4, 2) := by decide +kernel
theorem dX10_rules_37 : decode cX10_rules 37 = .ok (.iconst 1, 1) := by decide +kernel
theorem dX10_rules_38 : decode cX10_rules 38 = .ok (.if_icmp .ne 23, 3) := by decide +kernel
theorem dX10_rules_41 : decode cX10_rules 41 = .ok (.aload_n 0, 1) := by decide +kernel
theorem dX10_rules_42 : decode cX10_rules 42 = .ok (.getfield 77, 3) := by decide +kernel
theorem dX10_rules_45 : decode cX10_rules 45 = .ok (.iload_n 3, 1) := by decide +kernel
theorem dX10_rules_46 : decode cX10_rules 46 = .ok (.bipush 8, 2) := by decide +kernel
theorem dX10_rules_48 : decode cX10_rules 48 = .ok (.aload_n 0, 1) := by decide +kernel
theorem dX10_rules_49 : decode cX10_rules 49 = .ok (.getfield 77, 3) := by decide +kernel
theorem dX10_rules_52 : decode cX10_rules 52 = .ok (.getfield 181, 3) := by decide +kernel
theorem dX10_rules_55 : decode cX10_rules 55 = .ok (.iload_n 3, 1) := by decide +kernel
theorem dX10_rules_56 : decode cX10_rules 56 = .ok (.iaload, 1) := by decide +kernel
theorem dX10_rules_57 : decode cX10_rules 57 = .ok (.invokevirtual 184, 3) := by decide +kernel
theorem dX10_rules_60 : decode cX10_rules 60 = .ok (.ireturn, 1) := by decide +kernel
theorem dX10_rules_61 : decode cX10_rules 61 = .ok (.aload_n 0, 1) := by decide +kernel
theorem dX10_rules_62 : decode cX10_rules 62 = .ok (.getfield 77, 3) := by decide +kernel
theorem dX10_rules_65 : decode cX10_rules 65 = .ok (.iload_n 3, 1) := by decide +kernel
theorem dX10_rules_66 : decode cX10_rules 66 = .ok (.aload_n 0, 1) := by decide +kernel
theorem dX10_rules_67 : decode cX10_rules 67 = .ok (.getfield 18, 3) := by decide +kernel
theorem dX10_rules_70 : decode cX10_rules 70 = .ok (.iload_n 2, 1) := by decide +kernel
theorem dX10_rules_71 : decode cX10_rules 71 = .ok (.aaload, 1) := by decide +kernel
theorem dX10_rules_72 : decode cX10_rules 72 = .ok (.getfield 162, 3) := by decide +kernel
theorem dX10_rules_75 : decode cX10_rules 75 = .ok (.iload_n 3, 1) := by decide +kernel
theorem dX10_rules_76 : decode cX10_rules 76 = .ok (.aaload, 1) := by decide +kernel
theorem dX10_rules_77 : decode cX10_rules 77 = .ok (.getfield 188, 3) := by decide +kernel
theorem dX10_rules_80 : decode cX10_rules 80 = .ok (.aload_n 0, 1) := by decide +kernel
theorem dX10_rules_81 : decode cX10_rules 81 = .ok (.getfield 77, 3) := by decide +kernel
theorem dX10_rules_84 : decode cX10_rules 84 = .ok (.iload_n 3, 1) := by decide +kernel
theorem dX10_rules_85 : decode cX10_rules 85 = .ok (.invokevirtual 191, 3) := by decide +kernel
theorem dX10_rules_88 : decode cX10_rules 88 = .ok (.invokevirtual 184, 3) := by decide +kernel
theorem dX10_rules_91 : decode cX10_rules 91 = .ok (.ireturn, 1) := by decide +kernel
theorem dX10_whose_0 : decode cX10_whose 0 = .ok (.iload_n 1, 1) := by decide +kernel
theorem dX10_whose_1 : decode cX10_whose 1 = .ok (.invokestatic 108, 3) := by decide +kernel
theorem dX10_whose_4 : decode cX10_whose 4 = .ok (.ifCond .eq 11, 3) := by decide +kernel
theorem dX10_whose_7 : decode cX10_whose 7 = .ok (.aload_n 0, 1) := by decide +kernel
theorem dX10_whose_8 : decode cX10_whose 8 = .ok (.iload_n 2, 1) := by decide +kernel
theorem dX10_whose_9 : decode cX10_whose 9 = .ok (.invokevirtual 128, 3) := by decide +kernel
theorem dX10_whose_12 : decode cX10_whose 12 = .ok (.ifCond .ne 5, 3) := by decide +kernel
theorem dX10_whose_15 : decode cX10_whose 15 = .ok (.iconst (-1), 1) := by decide +kernel
theorem dX10_whose_16 : decode cX10_whose 16 = .ok (.ireturn, 1) := by decide +kernel
theorem dX10_whose_17 : decode cX10_whose 17 = .ok (.aload_n 0, 1) := by decide +kernel
theorem dX10_whose_18 : decode cX10_whose 18 = .ok (.iload_n 1, 1) := by decide +kernel
theorem dX10_whose_19 : decode cX10_whose 19 = .ok (.iload_n 2, 1) := by decide +kernel
theorem dX10_whose_20 : decode cX10_whose 20 = .ok (.invokevirtual 177, 3) := by decide +kernel
theorem dX10_whose_23 : decode cX10_whose 23 = .ok (.ireturn, 1) := by decide +kernel
theorem dX10_title_0 : decode cX10_title 0 = .ok (.iload_n 1, 1) := by decide +kernel
theorem dX10_title_1 : decode cX10_title 1 = .ok (.invokestatic 108, 3) := by decide +kernel
theorem dX10_title_4 : decode cX10_title 4 = .ok (.ifCond .eq 12, 3) := by decide +kernel
theorem dX10_title_7 : decode cX10_title 7 = .ok (.aload_n 0, 1) := by decide +kernel
theorem dX10_title_8 : decode cX10_title 8 = .ok (.iload_n 2, 1) := by decide +kernel
theorem dX10_title_9 : decode cX10_title 9 = .ok (.iload_n 3, 1) := by decide +kernel
theorem dX10_title_10 : decode cX10_title 10 = .ok (.invokevirtual 159, 3) := by decide +kernel
theorem dX10_title_13 : decode cX10_title 13 = .ok (.ifCond .ne 5, 3) := by decide +kernel
theorem dX10_title_16 : decode cX10_title 16 = .ok (.iconst (-1), 1) := by decide +kernel
theorem dX10_title_17 : decode cX10_title 17 = .ok (.ireturn, 1) := by decide +kernel
theorem dX10_title_18 : decode cX10_title 18 = .ok (.aload_n 0, 1) := by decide +kernel
theorem dX10_title_19 : decode cX10_title 19 = .ok (.iload_n 1, 1) := by decide +kernel
theorem dX10_title_20 : decode cX10_title 20 = .ok (.iload_n 2, 1) := by decide +kernel
theorem dX10_title_21 : decode cX10_title 21 = .ok (.invokevirtual 177, 3) := by decide +kernel
theorem dX10_title_24 : decode cX10_title 24 = .ok (.pop, 1) := by decide +kernel
theorem dX10_title_25 : decode cX10_title 25 = .ok (.aload_n 0, 1) := by decide +kernel
theorem dX10_title_26 : decode cX10_title 26 = .ok (.getfield 77, 3) := by decide +kernel
theorem dX10_title_29 : decode cX10_title 29 = .ok (.getfield 181, 3) := by decide +kernel
theorem dX10_title_32 : decode cX10_title 32 = .ok (.iload_n 3, 1) := by decide +kernel
theorem dX10_title_33 : decode cX10_title 33 = .ok (.iaload, 1) := by decide +kernel
theorem dX10_title_34 : decode cX10_title 34 = .ok (.ireturn, 1) := by decide +kernel
theorem dX10_when_0 : decode cX10_when 0 = .ok (.iload_n 1, 1) := by decide +kernel
theorem dX10_when_1 : decode cX10_when 1 = .ok (.invokestatic 108, 3) := by decide +kernel
theorem dX10_when_4 : decode cX10_when 4 = .ok (.ifCond .eq 22, 3) := by decide +kernel
theorem dX10_when_7 : decode cX10_when 7 = .ok (.aload_n 0, 1) := by decide +kernel
theorem dX10_when_8 : decode cX10_when 8 = .ok (.iload_n 2, 1) := by decide +kernel
theorem dX10_when_9 : decode cX10_when 9 = .ok (.iload_n 3, 1) := by decide +kernel
theorem dX10_when_10 : decode cX10_when 10 = .ok (.invokevirtual 159, 3) := by decide +kernel
theorem dX10_when_13 : decode cX10_when 13 = .ok (.ifCond .eq 13, 3) := by decide +kernel
theorem dX10_when_16 : decode cX10_when 16 = .ok (.iload 4, 2) := by decide +kernel
theorem dX10_when_18 : decode cX10_when 18 = .ok (.iconst 0, 1) := by decide +kernel
theorem dX10_when_19 : decode cX10_when 19 = .ok (.iconst 1, 1) := by decide +kernel
theorem dX10_when_20 : decode cX10_when 20 = .ok (.invokestatic 101, 3) := by decide +kernel
theorem dX10_when_23 : decode cX10_when 23 = .ok (.ifCond .ne 5, 3) := by decide +kernel
theorem dX10_when_26 : decode cX10_when 26 = .ok (.iconst (-1), 1) := by decide +kernel
theorem dX10_when_27 : decode cX10_when 27 = .ok (.ireturn, 1) := by decide +kernel
theorem dX10_when_28 : decode cX10_when 28 = .ok (.aload_n 0, 1) := by decide +kernel
theorem dX10_when_29 : decode cX10_when 29 = .ok (.iload_n 1, 1) := by decide +kernel
theorem dX10_when_30 : decode cX10_when 30 = .ok (.iload_n 2, 1) := by decide +kernel
theorem dX10_when_31 : decode cX10_when 31 = .ok (.invokevirtual 177, 3) := by decide +kernel
theorem dX10_when_34 : decode cX10_when 34 = .ok (.pop, 1) := by decide +kernel
theorem dX10_when_35 : decode cX10_when 35 = .ok (.iload 4, 2) := by decide +kernel
theorem dX10_when_37 : decode cX10_when 37 = .ok (.ifCond .ne 15, 3) := by decide +kernel
theorem dX10_when_40 : decode cX10_when 40 = .ok (.aload_n 0, 1) := by decide +kernel
theorem dX10_when_41 : decode cX10_when 41 = .ok (.getfield 77, 3) := by decide +kernel
theorem dX10_when_44 : decode cX10_when 44 = .ok (.getfield 194, 3) := by decide +kernel
theorem dX10_when_47 : decode cX10_when 47 = .ok (.iload_n 3, 1) := by decide +kernel
theorem dX10_when_48 : decode cX10_when 48 = .ok (.iaload, 1) := by decide +kernel
theorem dX10_when_49 : decode cX10_when 49 = .ok (.goto 12, 3) := by decide +kernel
theorem dX10_when_52 : decode cX10_when 52 = .ok (.aload_n 0, 1) := by decide +kernel
theorem dX10_when_53 : decode cX10_when 53 = .ok (.getfield 77, 3) := by decide +kernel
theorem dX10_when_56 : decode cX10_when 56 = .ok (.getfield 197, 3) := by decide +kernel
theorem dX10_when_59 : decode cX10_when 59 = .ok (.iload_n 3, 1) := by decide +kernel
theorem dX10_when_60 : decode cX10_when 60 = .ok (.iaload, 1) := by decide +kernel
theorem dX10_when_61 : decode cX10_when 61 = .ok (.ireturn, 1) := by decide +kernel
theorem dX10_holds_0 : decode cX10_holds 0 = .ok (.aload_n 0, 1) := by decide +kernel
theorem dX10_holds_1 : decode cX10_holds 1 = .ok (.iload_n 1, 1) := by decide +kernel
theorem dX10_holds_2 : decode cX10_holds 2 = .ok (.invokevirtual 128, 3) := by decide +kernel
theorem dX10_holds_5 : decode cX10_holds 5 = .ok (.ifCond .eq 15, 3) := by decide +kernel
theorem dX10_holds_8 : decode cX10_holds 8 = .ok (.aload_n 0, 1) := by decide +kernel
theorem dX10_holds_9 : decode cX10_holds 9 = .ok (.getfield 18, 3) := by decide +kernel
theorem dX10_holds_12 : decode cX10_holds 12 = .ok (.iload_n 1, 1) := by decide +kernel
theorem dX10_holds_13 : decode cX10_holds 13 = .ok (.aaload, 1) := by decide +kernel
theorem dX10_holds_14 : decode cX10_holds 14 = .ok (.invokevirtual 200, 3) := by decide +kernel
theorem dX10_holds_17 : decode cX10_holds 17 = .ok (.goto 4, 3) := by decide +kernel
theorem dX10_holds_20 : decode cX10_holds 20 = .ok (.iconst (-1), 1) := by decide +kernel
theorem dX10_holds_21 : decode cX10_holds 21 = .ok (.ireturn, 1) := by decide +kernel
theorem dX10_register_0 : decode cX10_register 0 = .ok (.aload_n 0, 1) := by decide +kernel
theorem dX10_register_1 : decode cX10_register 1 = .ok (.iload_n 1, 1) := by decide +kernel
theorem dX10_register_2 : decode cX10_register 2 = .ok (.invokevirtual 128, 3) := by decide +kernel
theorem dX10_register_5 : decode cX10_register 5 = .ok (.ifCond .eq 24, 3) := by decide +kernel
theorem dX10_register_8 : decode cX10_register 8 = .ok (.aload_n 0, 1) := by decide +kernel
theorem dX10_register_9 : decode cX10_register 9 = .ok (.getfield 18, 3) := by decide +kernel
theorem dX10_register_12 : decode cX10_register 12 = .ok (.iload_n 1, 1) := by decide +kernel
theorem dX10_register_13 : decode cX10_register 13 = .ok (.aaload, 1) := by decide +kernel
theorem dX10_register_14 : decode cX10_register 14 = .ok (.aload_n 0, 1) := by decide +kernel
theorem dX10_register_15 : decode cX10_register 15 = .ok (.getfield 18, 3) := by decide +kernel
theorem dX10_register_18 : decode cX10_register 18 = .ok (.iload_n 1, 1) := by decide +kernel
theorem dX10_register_19 : decode cX10_register 19 = .ok (.aaload, 1) := by decide +kernel
theorem dX10_register_20 : decode cX10_register 20 = .ok (.getfield 204, 3) := by decide +kernel
theorem dX10_register_23 : decode cX10_register 23 = .ok (.invokevirtual 207, 3) := by decide +kernel
theorem dX10_register_26 : decode cX10_register 26 = .ok (.goto 4, 3) := by decide +kernel
theorem dX10_register_29 : decode cX10_register 29 = .ok (.iconst (-1), 1) := by decide +kernel
theorem dX10_register_30 : decode cX10_register 30 = .ok (.ireturn, 1) := by decide +kernel
theorem dX10_may_0 : decode cX10_may 0 = .ok (.iload_n 1, 1) := by decide +kernel
theorem dX10_may_1 : decode cX10_may 1 = .ok (.invokestatic 108, 3) := by decide +kernel
theorem dX10_may_4 : decode cX10_may 4 = .ok (.ifCond .eq 25, 3) := by decide +kernel
theorem dX10_may_7 : decode cX10_may 7 = .ok (.aload_n 0, 1) := by decide +kernel
theorem dX10_may_8 : decode cX10_may 8 = .ok (.iload_n 2, 1) := by decide +kernel
theorem dX10_may_9 : decode cX10_may 9 = .ok (.invokevirtual 128, 3) := by decide +kernel
theorem dX10_may_12 : decode cX10_may 12 = .ok (.ifCond .eq 17, 3) := by decide +kernel
theorem dX10_may_15 : decode cX10_may 15 = .ok (.aload_n 0, 1) := by decide +kernel
theorem dX10_may_16 : decode cX10_may 16 = .ok (.getfield 18, 3) := by decide +kernel
theorem dX10_may_19 : decode cX10_may 19 = .ok (.iload_n 2, 1) := by decide +kernel
theorem dX10_may_20 : decode cX10_may 20 = .ok (.aaload, 1) := by decide +kernel
theorem dX10_may_21 : decode cX10_may 21 = .ok (.invokevirtual 210, 3) := by decide +kernel
theorem dX10_may_24 : decode cX10_may 24 = .ok (.bipush 8, 2) := by decide +kernel
theorem dX10_may_26 : decode cX10_may 26 = .ok (.if_icmp .le 5, 3) := by decide +kernel
theorem dX10_may_29 : decode cX10_may 29 = .ok (.iconst (-1), 1) := by decide +kernel
theorem dX10_may_30 : decode cX10_may 30 = .ok (.ireturn, 1) := by decide +kernel
theorem dX10_may_31 : decode cX10_may 31 = .ok (.aload_n 0, 1) := by decide +kernel
theorem dX10_may_32 : decode cX10_may 32 = .ok (.getfield 77, 3) := by decide +kernel
theorem dX10_may_35 : decode cX10_may 35 = .ok (.iload_n 1, 1) := by decide +kernel
theorem dX10_may_36 : decode cX10_may 36 = .ok (.aload_n 0, 1) := by decide +kernel
theorem dX10_may_37 : decode cX10_may 37 = .ok (.getfield 18, 3) := by decide +kernel
theorem dX10_may_40 : decode cX10_may 40 = .ok (.iload_n 2, 1) := by decide +kernel
theorem dX10_may_41 : decode cX10_may 41 = .ok (.aaload, 1) := by decide +kernel
theorem dX10_may_42 : decode cX10_may 42 = .ok (.aload_n 0, 1) := by decide +kernel
theorem dX10_may_43 : decode cX10_may 43 = .ok (.getfield 97, 3) := by decide +kernel
theorem dX10_may_46 : decode cX10_may 46 = .ok (.invokevirtual 213, 3) := by decide +kernel
theorem dX10_may_49 : decode cX10_may 49 = .ok (.aload_n 0, 1) := by decide +kernel
theorem dX10_may_50 : decode cX10_may 50 = .ok (.getfield 86, 3) := by decide +kernel
theorem dX10_may_53 : decode cX10_may 53 = .ok (.invokevirtual 217, 3) := by decide +kernel
theorem dX10_may_56 : decode cX10_may 56 = .ok (.ireturn, 1) := by decide +kernel
theorem dX10_hangs_0 : decode cX10_hangs 0 = .ok (.iload_n 1, 1) := by decide +kernel
theorem dX10_hangs_1 : decode cX10_hangs 1 = .ok (.invokestatic 108, 3) := by decide +kernel
theorem dX10_hangs_4 : decode cX10_hangs 4 = .ok (.ifCond .eq 25, 3) := by decide +kernel
theorem dX10_hangs_7 : decode cX10_hangs 7 = .ok (.aload_n 0, 1) := by decide +kernel
theorem dX10_hangs_8 : decode cX10_hangs 8 = .ok (.iload_n 2, 1) := by decide +kernel
theorem dX10_hangs_9 : decode cX10_hangs 9 = .ok (.invokevirtual 128, 3) := by decide +kernel
theorem dX10_hangs_12 : decode cX10_hangs 12 = .ok (.ifCond .eq 17, 3) := by decide +kernel
theorem dX10_hangs_15 : decode cX10_hangs 15 = .ok (.aload_n 0, 1) := by decide +kernel
theorem dX10_hangs_16 : decode cX10_hangs 16 = .ok (.getfield 18, 3) := by decide +kernel
theorem dX10_hangs_19 : decode cX10_hangs 19 = .ok (.iload_n 2, 1) := by decide +kernel
theorem dX10_hangs_20 : decode cX10_hangs 20 = .ok (.aaload, 1) := by decide +kernel
theorem dX10_hangs_21 : decode cX10_hangs 21 = .ok (.invokevirtual 210, 3) := by decide +kernel
theorem dX10_hangs_24 : decode cX10_hangs 24 = .ok (.bipush 8, 2) := by decide +kernel
theorem dX10_hangs_26 : decode cX10_hangs 26 = .ok (.if_icmp .le 5, 3) := by decide +kernel
theorem dX10_hangs_29 : decode cX10_hangs 29 = .ok (.iconst (-1), 1) := by decide +kernel
theorem dX10_hangs_30 : decode cX10_hangs 30 = .ok (.ireturn, 1) := by decide +kernel
theorem dX10_hangs_31 : decode cX10_hangs 31 = .ok (.aload_n 0, 1) := by decide +kernel
theorem dX10_hangs_32 : decode cX10_hangs 32 = .ok (.getfield 77, 3) := by decide +kernel
theorem dX10_hangs_35 : decode cX10_hangs 35 = .ok (.iload_n 1, 1) := by decide +kernel
theorem dX10_hangs_36 : decode cX10_hangs 36 = .ok (.aload_n 0, 1) := by decide +kernel
theorem dX10_hangs_37 : decode cX10_hangs 37 = .ok (.getfield 18, 3) := by decide +kernel
theorem dX10_hangs_40 : decode cX10_hangs 40 = .ok (.iload_n 2, 1) := by decide +kernel
theorem dX10_hangs_41 : decode cX10_hangs 41 = .ok (.aaload, 1) := by decide +kernel
theorem dX10_hangs_42 : decode cX10_hangs 42 = .ok (.aload_n 0, 1) := by decide +kernel
theorem dX10_hangs_43 : decode cX10_hangs 43 = .ok (.getfield 97, 3) := by decide +kernel
theorem dX10_hangs_46 : decode cX10_hangs 46 = .ok (.invokevirtual 213, 3) := by decide +kernel
theorem dX10_hangs_49 : decode cX10_hangs 49 = .ok (.aload_n 0, 1) := by decide +kernel
theorem dX10_hangs_50 : decode cX10_hangs 50 = .ok (.getfield 86, 3) := by decide +kernel
theorem dX10_hangs_53 : decode cX10_hangs 53 = .ok (.invokevirtual 220, 3) := by decide +kernel
theorem dX10_hangs_56 : decode cX10_hangs 56 = .ok (.ireturn, 1) := by decide +kernel
theorem dX10_asked_0 : decode cX10_asked 0 = .ok (.iload_n 1, 1) := by decide +kernel
theorem dX10_asked_1 : decode cX10_asked 1 = .ok (.invokestatic 108, 3) := by decide +kernel
theorem dX10_asked_4 : decode cX10_asked 4 = .ok (.ifCond .eq 22, 3) := by decide +kernel
theorem dX10_asked_7 : decode cX10_asked 7 = .ok (.aload_n 0, 1) := by decide +kernel
theorem dX10_asked_8 : decode cX10_asked 8 = .ok (.iload_n 2, 1) := by decide +kernel
theorem dX10_asked_9 : decode cX10_asked 9 = .ok (.iload_n 3, 1) := by decide +kernel
theorem dX10_asked_10 : decode cX10_asked 10 = .ok (.invokevirtual 159, 3) := by decide +kernel
theorem dX10_asked_13 : decode cX10_asked 13 = .ok (.ifCond .eq 13, 3) := by decide +kernel
theorem dX10_asked_16 : decode cX10_asked 16 = .ok (.iload 4, 2) := by decide +kernel
theorem dX10_asked_18 : decode cX10_asked 18 = .ok (.iconst 0, 1) := by decide +kernel
theorem dX10_asked_19 : decode cX10_asked 19 = .ok (.iconst 1, 1) := by decide +kernel
theorem dX10_asked_20 : decode cX10_asked 20 = .ok (.invokestatic 101, 3) := by decide +kernel
theorem dX10_asked_23 : decode cX10_asked 23 = .ok (.ifCond .ne 5, 3) := by decide +kernel
theorem dX10_asked_26 : decode cX10_asked 26 = .ok (.iconst (-1), 1) := by decide +kernel
theorem dX10_asked_27 : decode cX10_asked 27 = .ok (.ireturn, 1) := by decide +kernel
theorem dX10_asked_28 : decode cX10_asked 28 = .ok (.aload_n 0, 1) := by decide +kernel
theorem dX10_asked_29 : decode cX10_asked 29 = .ok (.iload_n 1, 1) := by decide +kernel
theorem dX10_asked_30 : decode cX10_asked 30 = .ok (.iload_n 2, 1) := by decide +kernel
theorem dX10_asked_31 : decode cX10_asked 31 = .ok (.invokevirtual 177, 3) := by decide +kernel
theorem dX10_asked_34 : decode cX10_asked 34 = .ok (.pop, 1) := by decide +kernel
theorem dX10_asked_35 : decode cX10_asked 35 = .ok (.aload_n 0, 1) := by decide +kernel
theorem dX10_asked_36 : decode cX10_asked 36 = .ok (.getfield 93, 3) := by decide +kernel
theorem dX10_asked_39 : decode cX10_asked 39 = .ok (.aload_n 0, 1) := by decide +kernel
theorem dX10_asked_40 : decode cX10_asked 40 = .ok (.getfield 13, 3) := by decide +kernel
theorem dX10_asked_43 : decode cX10_asked 43 = .ok (.invokevirtual 223, 3) := by decide +kernel
theorem dX10_asked_46 : decode cX10_asked 46 = .ok (.iload 4, 2) := by decide +kernel
theorem dX10_asked_48 : decode cX10_asked 48 = .ok (.ifCond .ne 15, 3) := by decide +kernel
theorem dX10_asked_51 : decode cX10_asked 51 = .ok (.aload_n 0, 1) := by decide +kernel
theorem dX10_asked_52 : decode cX10_asked 52 = .ok (.getfield 93, 3) := by decide +kernel
theorem dX10_asked_55 : decode cX10_asked 55 = .ok (.getfield 227, 3) := by decide +kernel
theorem dX10_asked_58 : decode cX10_asked 58 = .ok (.iload_n 3, 1) := by decide +kernel
theorem dX10_asked_59 : decode cX10_asked 59 = .ok (.iaload, 1) := by decide +kernel
theorem dX10_asked_60 : decode cX10_asked 60 = .ok (.goto 12, 3) := by decide +kernel
theorem dX10_asked_63 : decode cX10_asked 63 = .ok (.aload_n 0, 1) := by decide +kernel
theorem dX10_asked_64 : decode cX10_asked 64 = .ok (.getfield 93, 3) := by decide +kernel
theorem dX10_asked_67 : decode cX10_asked 67 = .ok (.getfield 230, 3) := by decide +kernel
theorem dX10_asked_70 : decode cX10_asked 70 = .ok (.iload_n 3, 1) := by decide +kernel
theorem dX10_asked_71 : decode cX10_asked 71 = .ok (.iaload, 1) := by decide +kernel
theorem dX10_asked_72 : decode cX10_asked 72 = .ok (.ireturn, 1) := by decide +kernel
theorem dX10_back_0 : decode cX10_back 0 = .ok (.iload_n 1, 1) := by decide +kernel
theorem dX10_back_1 : decode cX10_back 1 = .ok (.invokestatic 108, 3) := by decide +kernel
theorem dX10_back_4 : decode cX10_back 4 = .ok (.ifCond .eq 11, 3) := by decide +kernel
theorem dX10_back_7 : decode cX10_back 7 = .ok (.aload_n 0, 1) := by decide +kernel
theorem dX10_back_8 : decode cX10_back 8 = .ok (.iload_n 2, 1) := by decide +kernel
theorem dX10_back_9 : decode cX10_back 9 = .ok (.invokevirtual 128, 3) := by decide +kernel
theorem dX10_back_12 : decode cX10_back 12 = .ok (.ifCond .ne 5, 3) := by decide +kernel
theorem dX10_back_15 : decode cX10_back 15 = .ok (.iconst (-1), 1) := by decide +kernel
theorem dX10_back_16 : decode cX10_back 16 = .ok (.ireturn, 1) := by decide +kernel
theorem dX10_back_17 : decode cX10_back 17 = .ok (.aload_n 0, 1) := by decide +kernel
theorem dX10_back_18 : decode cX10_back 18 = .ok (.iload_n 1, 1) := by decide +kernel
theorem dX10_back_19 : decode cX10_back 19 = .ok (.iload_n 2, 1) := by decide +kernel
theorem dX10_back_20 : decode cX10_back 20 = .ok (.invokevirtual 177, 3) := by decide +kernel
theorem dX10_back_23 : decode cX10_back 23 = .ok (.pop, 1) := by decide +kernel
theorem dX10_back_24 : decode cX10_back 24 = .ok (.aload_n 0, 1) := by decide +kernel
theorem dX10_back_25 : decode cX10_back 25 = .ok (.getfield 93, 3) := by decide +kernel
theorem dX10_back_28 : decode cX10_back 28 = .ok (.aload_n 0, 1) := by decide +kernel
theorem dX10_back_29 : decode cX10_back 29 = .ok (.getfield 13, 3) := by decide +kernel
theorem dX10_back_32 : decode cX10_back 32 = .ok (.invokevirtual 223, 3) := by decide +kernel
theorem dX10_back_35 : decode cX10_back 35 = .ok (.aload_n 0, 1) := by decide +kernel
theorem dX10_back_36 : decode cX10_back 36 = .ok (.getfield 93, 3) := by decide +kernel
theorem dX10_back_39 : decode cX10_back 39 = .ok (.getfield 233, 3) := by decide +kernel
theorem dX10_back_42 : decode cX10_back 42 = .ok (.ireturn, 1) := by decide +kernel
theorem dX10_out_0 : decode cX10_out 0 = .ok (.iload_n 1, 1) := by decide +kernel
theorem dX10_out_1 : decode cX10_out 1 = .ok (.invokestatic 108, 3) := by decide +kernel
theorem dX10_out_4 : decode cX10_out 4 = .ok (.ifCond .eq 19, 3) := by decide +kernel
theorem dX10_out_7 : decode cX10_out 7 = .ok (.aload_n 0, 1) := by decide +kernel
theorem dX10_out_8 : decode cX10_out 8 = .ok (.iload_n 2, 1) := by decide +kernel
theorem dX10_out_9 : decode cX10_out 9 = .ok (.invokevirtual 128, 3) := by decide +kernel
theorem dX10_out_12 : decode cX10_out 12 = .ok (.ifCond .eq 11, 3) := by decide +kernel
theorem dX10_out_15 : decode cX10_out 15 = .ok (.aload_n 0, 1) := by decide +kernel
theorem dX10_out_16 : decode cX10_out 16 = .ok (.iload_n 3, 1) := by decide +kernel
theorem dX10_out_17 : decode cX10_out 17 = .ok (.invokevirtual 116, 3) := by decide +kernel
theorem dX10_out_20 : decode cX10_out 20 = .ok (.ifCond .ne 6, 3) := by decide +kernel
theorem dX10_out_23 : decode cX10_out 23 = .ok (.ldc 236, 2) := by decide +kernel
theorem dX10_out_25 : decode cX10_out 25 = .ok (.ireturn, 1) := by decide +kernel
theorem dX10_out_26 : decode cX10_out 26 = .ok (.aload_n 0, 1) := by decide +kernel
theorem dX10_out_27 : decode cX10_out 27 = .ok (.iload_n 1, 1) := by decide +kernel
theorem dX10_out_28 : decode cX10_out 28 = .ok (.iload_n 2, 1) := by decide +kernel
theorem dX10_out_29 : decode cX10_out 29 = .ok (.invokevirtual 177, 3) := by decide +kernel
theorem dX10_out_32 : decode cX10_out 32 = .ok (.pop, 1) := by decide +kernel
theorem dX10_out_33 : decode cX10_out 33 = .ok (.aload_n 0, 1) := by decide +kernel
theorem dX10_out_34 : decode cX10_out 34 = .ok (.getfield 93, 3) := by decide +kernel
theorem dX10_out_37 : decode cX10_out 37 = .ok (.aload_n 0, 1) := by decide +kernel
theorem dX10_out_38 : decode cX10_out 38 = .ok (.getfield 13, 3) := by decide +kernel
theorem dX10_out_41 : decode cX10_out 41 = .ok (.invokevirtual 223, 3) := by decide +kernel
theorem dX10_out_44 : decode cX10_out 44 = .ok (.aload_n 0, 1) := by decide +kernel
theorem dX10_out_45 : decode cX10_out 45 = .ok (.getfield 93, 3) := by decide +kernel
theorem dX10_out_48 : decode cX10_out 48 = .ok (.iload_n 3, 1) := by decide +kernel
theorem dX10_out_49 : decode cX10_out 49 = .ok (.invokevirtual 237, 3) := by decide +kernel
theorem dX10_out_52 : decode cX10_out 52 = .ok (.ireturn, 1) := by decide +kernel
theorem dX10_joined_0 : decode cX10_joined 0 = .ok (.iload_n 1, 1) := by decide +kernel
theorem dX10_joined_1 : decode cX10_joined 1 = .ok (.invokestatic 108, 3) := by decide +kernel
theorem dX10_joined_4 : decode cX10_joined 4 = .ok (.ifCond .eq 34, 3) := by decide +kernel
theorem dX10_joined_7 : decode cX10_joined 7 = .ok (.aload_n 0, 1) := by decide +kernel
theorem dX10_joined_8 : decode cX10_joined 8 = .ok (.iload_n 2, 1) := by decide +kernel
theorem dX10_joined_9 : decode cX10_joined 9 = .ok (.invokevirtual 128, 3) := by decide +kernel
theorem dX10_joined_12 : decode cX10_joined 12 = .ok (.ifCond .eq 26, 3) := by decide +kernel
theorem dX10_joined_15 : decode cX10_joined 15 = .ok (.aload_n 0, 1) := by decide +kernel
theorem dX10_joined_16 : decode cX10_joined 16 = .ok (.iload_n 3, 1) := by decide +kernel
theorem dX10_joined_17 : decode cX10_joined 17 = .ok (.invokevirtual 128, 3) := by decide +kernel
theorem dX10_joined_20 : decode cX10_joined 20 = .ok (.ifCond .eq 18, 3) := by decide +kernel
theorem dX10_joined_23 : decode cX10_joined 23 = .ok (.iload_n 2, 1) := by decide +kernel
theorem dX10_joined_24 : decode cX10_joined 24 = .ok (.iload_n 3, 1) := by decide +kernel
theorem dX10_joined_25 : decode cX10_joined 25 = .ok (.if_icmp .eq 13, 3) := by decide +kernel
theorem dX10_joined_28 : decode cX10_joined 28 = .ok (.iload 4, 2) := by decide +kernel
theorem dX10_joined_30 : decode cX10_joined 30 = .ok (.iconst 0, 1) := by decide +kernel
theorem dX10_joined_31 : decode cX10_joined 31 = .ok (.iconst 2, 1) := by decide +kernel
theorem dX10_joined_32 : decode cX10_joined 32 = .ok (.invokestatic 101, 3) := by decide +kernel
theorem dX10_joined_35 : decode cX10_joined 35 = .ok (.ifCond .ne 5, 3) := by decide +kernel
theorem dX10_joined_38 : decode cX10_joined 38 = .ok (.iconst (-1), 1) := by decide +kernel
theorem dX10_joined_39 : decode cX10_joined 39 = .ok (.ireturn, 1) := by decide +kernel
theorem dX10_joined_40 : decode cX10_joined 40 = .ok (.aload_n 0, 1) := by decide +kernel
theorem dX10_joined_41 : decode cX10_joined 41 = .ok (.getfield 18, 3) := by decide +kernel
theorem dX10_joined_44 : decode cX10_joined 44 = .ok (.iload_n 2, 1) := by decide +kernel
theorem dX10_joined_45 : decode cX10_joined 45 = .ok (.aaload, 1) := by decide +kernel
theorem dX10_joined_46 : decode cX10_joined 46 = .ok (.getfield 119, 3) := by decide +kernel
theorem dX10_joined_49 : decode cX10_joined 49 = .ok (.aload_n 0, 1) := by decide +kernel
theorem dX10_joined_50 : decode cX10_joined 50 = .ok (.getfield 18, 3) := by decide +kernel
theorem dX10_joined_53 : decode cX10_joined 53 = .ok (.iload_n 3, 1) := by decide +kernel
theorem dX10_joined_54 : decode cX10_joined 54 = .ok (.aaload, 1) := by decide +kernel
theorem dX10_joined_55 : decode cX10_joined 55 = .ok (.getfield 119, 3) := by decide +kernel
theorem dX10_joined_58 : decode cX10_joined 58 = .ok (.if_icmp .lt 7, 3) := by decide +kernel
theorem dX10_joined_61 : decode cX10_joined 61 = .ok (.iconst 1, 1) := by decide +kernel
theorem dX10_joined_62 : decode cX10_joined 62 = .ok (.goto 4, 3) := by decide +kernel
theorem dX10_joined_65 : decode cX10_joined 65 = .ok (.iconst 0, 1) := by decide +kernel
theorem dX10_joined_66 : decode cX10_joined 66 = .ok (.istore 5, 2) := by decide +kernel
theorem dX10_joined_68 : decode cX10_joined 68 = .ok (.iload 5, 2) := by decide +kernel
theorem dX10_joined_70 : decode cX10_joined 70 = .ok (.ifCond .eq 7, 3) := by decide +kernel
theorem dX10_joined_73 : decode cX10_joined 73 = .ok (.iload_n 3, 1) := by decide +kernel
theorem dX10_joined_74 : decode cX10_joined 74 = .ok (.goto 4, 3) := by decide +kernel
theorem dX10_joined_77 : decode cX10_joined 77 = .ok (.iload_n 2, 1) := by decide +kernel
theorem dX10_joined_78 : decode cX10_joined 78 = .ok (.istore 6, 2) := by decide +kernel
theorem dX10_joined_80 : decode cX10_joined 80 = .ok (.aload_n 0, 1) := by decide +kernel
theorem dX10_joined_81 : decode cX10_joined 81 = .ok (.iload_n 1, 1) := by decide +kernel
theorem dX10_joined_82 : decode cX10_joined 82 = .ok (.iload 5, 2) := by decide +kernel
theorem dX10_joined_84 : decode cX10_joined 84 = .ok (.ifCond .eq 7, 3) := by decide +kernel
theorem dX10_joined_87 : decode cX10_joined 87 = .ok (.iload_n 2, 1) := by decide +kernel
theorem dX10_joined_88 : decode cX10_joined 88 = .ok (.goto 4, 3) := by decide +kernel
theorem dX10_joined_91 : decode cX10_joined 91 = .ok (.iload_n 3, 1) := by decide +kernel
theorem dX10_joined_92 : decode cX10_joined 92 = .ok (.invokevirtual 177, 3) := by decide +kernel
theorem dX10_joined_95 : decode cX10_joined 95 = .ok (.istore 7, 2) := by decide +kernel
theorem dX10_joined_97 : decode cX10_joined 97 = .ok (.iload 4, 2) := by decide +kernel
theorem dX10_joined_99 : decode cX10_joined 99 = .ok (.ifCond .ne 6, 3) := by decide +kernel
theorem dX10_joined_102 : decode cX10_joined 102 = .ok (.iload 7, 2) := by decide +kernel
theorem dX10_joined_104 : decode cX10_joined 104 = .ok (.ireturn, 1) := by decide +kernel
theorem dX10_joined_105 : decode cX10_joined 105 = .ok (.aload_n 0, 1) := by decide +kernel
theorem dX10_joined_106 : decode cX10_joined 106 = .ok (.iload_n 1, 1) := by decide +kernel
theorem dX10_joined_107 : decode cX10_joined 107 = .ok (.iload 6, 2) := by decide +kernel
theorem dX10_joined_109 : decode cX10_joined 109 = .ok (.invokevirtual 177, 3) := by decide +kernel
theorem dX10_joined_112 : decode cX10_joined 112 = .ok (.istore 8, 2) := by decide +kernel
theorem dX10_joined_114 : decode cX10_joined 114 = .ok (.iload 8, 2) := by decide +kernel
theorem dX10_joined_116 : decode cX10_joined 116 = .ok (.iload 7, 2) := by decide +kernel
theorem dX10_joined_118 : decode cX10_joined 118 = .ok (.if_icmp .ne 5, 3) := by decide +kernel
theorem dX10_joined_121 : decode cX10_joined 121 = .ok (.iconst (-1), 1) := by decide +kernel
theorem dX10_joined_122 : decode cX10_joined 122 = .ok (.ireturn, 1) := by decide +kernel
theorem dX10_joined_123 : decode cX10_joined 123 = .ok (.iload 4, 2) := by decide +kernel
theorem dX10_joined_125 : decode cX10_joined 125 = .ok (.iconst 1, 1) := by decide +kernel
theorem dX10_joined_126 : decode cX10_joined 126 = .ok (.if_icmp .ne 8, 3) := by decide +kernel
theorem dX10_joined_129 : decode cX10_joined 129 = .ok (.iload 8, 2) := by decide +kernel
theorem dX10_joined_131 : decode cX10_joined 131 = .ok (.goto 13, 3) := by decide +kernel
theorem dX10_joined_134 : decode cX10_joined 134 = .ok (.aload_n 0, 1) := by decide +kernel
theorem dX10_joined_135 : decode cX10_joined 135 = .ok (.getfield 18, 3) := by decide +kernel
theorem dX10_joined_138 : decode cX10_joined 138 = .ok (.iload 6, 2) := by decide +kernel
theorem dX10_joined_140 : decode cX10_joined 140 = .ok (.aaload, 1) := by decide +kernel
theorem dX10_joined_141 : decode cX10_joined 141 = .ok (.getfield 119, 3) := by decide +kernel
theorem dX10_joined_144 : decode cX10_joined 144 = .ok (.ireturn, 1) := by decide +kernel
theorem dX10_road_0 : decode cX10_road 0 = .ok (.iload_n 1, 1) := by decide +kernel
theorem dX10_road_1 : decode cX10_road 1 = .ok (.invokestatic 108, 3) := by decide +kernel
theorem dX10_road_4 : decode cX10_road 4 = .ok (.ifCond .eq 26, 3) := by decide +kernel
theorem dX10_road_7 : decode cX10_road 7 = .ok (.iload_n 2, 1) := by decide +kernel
theorem dX10_road_8 : decode cX10_road 8 = .ok (.invokestatic 108, 3) := by decide +kernel
theorem dX10_road_11 : decode cX10_road 11 = .ok (.ifCond .eq 19, 3) := by decide +kernel
theorem dX10_road_14 : decode cX10_road 14 = .ok (.iload_n 1, 1) := by decide +kernel
theorem dX10_road_15 : decode cX10_road 15 = .ok (.iload_n 2, 1) := by decide +kernel
theorem dX10_road_16 : decode cX10_road 16 = .ok (.if_icmp .eq 14, 3) := by decide +kernel
theorem dX10_road_19 : decode cX10_road 19 = .ok (.iload_n 3, 1) := by decide +kernel
theorem dX10_road_20 : decode cX10_road 20 = .ok (.iconst 0, 1) := by decide +kernel
theorem dX10_road_21 : decode cX10_road 21 = .ok (.sipush 10000, 3) := by decide +kernel
theorem dX10_road_24 : decode cX10_road 24 = .ok (.invokestatic 101, 3) := by decide +kernel
theorem dX10_road_27 : decode cX10_road 27 = .ok (.ifCond .ne 5, 3) := by decide +kernel
theorem dX10_road_30 : decode cX10_road 30 = .ok (.iconst 0, 1) := by decide +kernel
theorem dX10_road_31 : decode cX10_road 31 = .ok (.ireturn, 1) := by decide +kernel
theorem dX10_road_32 : decode cX10_road 32 = .ok (.aload_n 0, 1) := by decide +kernel
theorem dX10_road_33 : decode cX10_road 33 = .ok (.getfield 43, 3) := by decide +kernel
theorem dX10_road_36 : decode cX10_road 36 = .ok (.iload_n 1, 1) := by decide +kernel
theorem dX10_road_37 : decode cX10_road 37 = .ok (.iload_n 2, 1) := by decide +kernel
theorem dX10_road_38 : decode cX10_road 38 = .ok (.iload_n 3, 1) := by decide +kernel
theorem dX10_road_39 : decode cX10_road 39 = .ok (.invokevirtual 240, 3) := by decide +kernel
theorem dX10_road_42 : decode cX10_road 42 = .ok (.iconst 1, 1) := by decide +kernel
theorem dX10_road_43 : decode cX10_road 43 = .ok (.ireturn, 1) := by decide +kernel
theorem dX10_cheapest_0 : decode cX10_cheapest 0 = .ok (.iload 6, 2) := by decide +kernel
theorem dX10_cheapest_2 : decode cX10_cheapest 2 = .ok (.iconst 0, 1) := by decide +kernel
theorem dX10_cheapest_3 : decode cX10_cheapest 3 = .ok (.iconst 1, 1) := by decide +kernel
theorem dX10_cheapest_4 : decode cX10_cheapest 4 = .ok (.invokestatic 101, 3) := by decide +kernel
theorem dX10_cheapest_7 : decode cX10_cheapest 7 = .ok (.ifCond .eq 28, 3) := by decide +kernel
theorem dX10_cheapest_10 : decode cX10_cheapest 10 = .ok (.aload_n 0, 1) := by decide +kernel
theorem dX10_cheapest_11 : decode cX10_cheapest 11 = .ok (.iload_n 1, 1) := by decide +kernel
theorem dX10_cheapest_12 : decode cX10_cheapest 12 = .ok (.iload_n 2, 1) := by decide +kernel
theorem dX10_cheapest_13 : decode cX10_cheapest 13 = .ok (.iload_n 3, 1) := by decide +kernel
theorem dX10_cheapest_14 : decode cX10_cheapest 14 = .ok (.iload 4, 2) := by decide +kernel
theorem dX10_cheapest_16 : decode cX10_cheapest 16 = .ok (.iload 5, 2) := by decide +kernel
theorem dX10_cheapest_18 : decode cX10_cheapest 18 = .ok (.invokevirtual 244, 3) := by decide +kernel
theorem dX10_cheapest_21 : decode cX10_cheapest 21 = .ok (.ifCond .eq 14, 3) := by decide +kernel
theorem dX10_cheapest_24 : decode cX10_cheapest 24 = .ok (.iload 5, 2) := by decide +kernel
theorem dX10_cheapest_26 : decode cX10_cheapest 26 = .ok (.aload_n 0, 1) := by decide +kernel
theorem dX10_cheapest_27 : decode cX10_cheapest 27 = .ok (.iload_n 1, 1) := by decide +kernel
theorem dX10_cheapest_28 : decode cX10_cheapest 28 = .ok (.iload_n 3, 1) := by decide +kernel
theorem dX10_cheapest_29 : decode cX10_cheapest 29 = .ok (.invokevirtual 177, 3) := by decide +kernel
theorem dX10_cheapest_32 : decode cX10_cheapest 32 = .ok (.if_icmp .ne 5, 3) := by decide +kernel
theorem dX10_cheapest_35 : decode cX10_cheapest 35 = .ok (.iconst (-1), 1) := by decide +kernel
theorem dX10_cheapest_36 : decode cX10_cheapest 36 = .ok (.ireturn, 1) := by decide +kernel
theorem dX10_cheapest_37 : decode cX10_cheapest 37 = .ok (.aload_n 0, 1) := by decide +kernel
theorem dX10_cheapest_38 : decode cX10_cheapest 38 = .ok (.getfield 43, 3) := by decide +kernel
theorem dX10_cheapest_41 : decode cX10_cheapest 41 = .ok (.iload_n 2, 1) := by decide +kernel
theorem dX10_cheapest_42 : decode cX10_cheapest 42 = .ok (.invokevirtual 248, 3) := by decide +kernel
theorem dX10_cheapest_45 : decode cX10_cheapest 45 = .ok (.aload_n 0, 1) := by decide +kernel
theorem dX10_cheapest_46 : decode cX10_cheapest 46 = .ok (.iload_n 3, 1) := by decide +kernel
theorem dX10_cheapest_47 : decode cX10_cheapest 47 = .ok (.iload_n 2, 1) := by decide +kernel
theorem dX10_cheapest_48 : decode cX10_cheapest 48 = .ok (.iload 4, 2) := by decide +kernel
theorem dX10_cheapest_50 : decode cX10_cheapest 50 = .ok (.iload 5, 2) := by decide +kernel
theorem dX10_cheapest_52 : decode cX10_cheapest 52 = .ok (.invokevirtual 251, 3) := by decide +kernel
theorem dX10_cheapest_55 : decode cX10_cheapest 55 = .ok (.astore 7, 2) := by decide +kernel
theorem dX10_cheapest_57 : decode cX10_cheapest 57 = .ok (.bipush (-2), 2) := by decide +kernel
theorem dX10_cheapest_59 : decode cX10_cheapest 59 = .ok (.istore 8, 2) := by decide +kernel
theorem dX10_cheapest_61 : decode cX10_cheapest 61 = .ok (.iconst 0, 1) := by decide +kernel
theorem dX10_cheapest_62 : decode cX10_cheapest 62 = .ok (.istore 9, 2) := by decide +kernel
theorem dX10_cheapest_64 : decode cX10_cheapest 64 = .ok (.iload 9, 2) := by decide +kernel
theorem dX10_cheapest_66 : decode cX10_cheapest 66 = .ok (.bipush 6, 2) := by decide +kernel
theorem dX10_cheapest_68 : decode cX10_cheapest 68 = .ok (.if_icmp .ge 87, 3) := by decide +kernel
theorem dX10_cheapest_71 : decode cX10_cheapest 71 = .ok (.aload 7, 2) := by decide +kernel
theorem dX10_cheapest_73 : decode cX10_cheapest 73 = .ok (.iload 9, 2) := by decide +kernel
theorem dX10_cheapest_75 : decode cX10_cheapest 75 = .ok (.putfield 255, 3) := by decide +kernel
theorem dX10_cheapest_78 : decode cX10_cheapest 78 = .ok (.iload 8, 2) := by decide +kernel
theorem dX10_cheapest_80 : decode cX10_cheapest 80 = .ok (.bipush (-2), 2) := by decide +kernel
theorem dX10_cheapest_82 : decode cX10_cheapest 82 = .ok (.if_icmp .eq 26, 3) := by decide +kernel
theorem dX10_cheapest_85 : decode cX10_cheapest 85 = .ok (.aload_n 0, 1) := by decide +kernel
theorem dX10_cheapest_86 : decode cX10_cheapest 86 = .ok (.getfield 43, 3) := by decide +kernel
theorem dX10_cheapest_89 : decode cX10_cheapest 89 = .ok (.getfield 258, 3) := by decide +kernel
theorem dX10_cheapest_92 : decode cX10_cheapest 92 = .ok (.iload 9, 2) := by decide +kernel
theorem dX10_cheapest_94 : decode cX10_cheapest 94 = .ok (.iaload, 1) := by decide +kernel
theorem dX10_cheapest_95 : decode cX10_cheapest 95 = .ok (.aload_n 0, 1) := by decide +kernel
theorem dX10_cheapest_96 : decode cX10_cheapest 96 = .ok (.getfield 43, 3) := by decide +kernel
theorem dX10_cheapest_99 : decode cX10_cheapest 99 = .ok (.getfield 258, 3) := by decide +kernel
theorem dX10_cheapest_102 : decode cX10_cheapest 102 = .ok (.iload 8, 2) := by decide +kernel
theorem dX10_cheapest_104 : decode cX10_cheapest 104 = .ok (.iaload, 1) := by decide +kernel
theorem dX10_cheapest_105 : decode cX10_cheapest 105 = .ok (.if_icmp .ge 7, 3) := by decide +kernel
theorem dX10_cheapest_108 : decode cX10_cheapest 108 = .ok (.iconst 1, 1) := by decide +kernel
theorem dX10_cheapest_109 : decode cX10_cheapest 109 = .ok (.goto 4, 3) := by decide +kernel
theorem dX10_cheapest_112 : decode cX10_cheapest 112 = .ok (.iconst 0, 1) := by decide +kernel
theorem dX10_cheapest_113 : decode cX10_cheapest 113 = .ok (.istore 10, 2) := by decide +kernel
theorem dX10_cheapest_115 : decode cX10_cheapest 115 = .ok (.aload_n 0, 1) := by decide +kernel
theorem dX10_cheapest_116 : decode cX10_cheapest 116 = .ok (.getfield 43, 3) := by decide +kernel
theorem dX10_cheapest_119 : decode cX10_cheapest 119 = .ok (.getfield 258, 3) := by decide +kernel
theorem dX10_cheapest_122 : decode cX10_cheapest 122 = .ok (.iload 9, 2) := by decide +kernel
theorem dX10_cheapest_124 : decode cX10_cheapest 124 = .ok (.iaload, 1) := by decide +kernel
theorem dX10_cheapest_125 : decode cX10_cheapest 125 = .ok (.iconst (-1), 1) := by decide +kernel
theorem dX10_cheapest_126 : decode cX10_cheapest 126 = .ok (.if_icmp .eq 23, 3) := by decide +kernel
theorem dX10_cheapest_129 : decode cX10_cheapest 129 = .ok (.iload 10, 2) := by decide +kernel
theorem dX10_cheapest_131 : decode cX10_cheapest 131 = .ok (.ifCond .eq 18, 3) := by decide +kernel
theorem dX10_cheapest_134 : decode cX10_cheapest 134 = .ok (.aload_n 0, 1) := by decide +kernel
theorem dX10_cheapest_135 : decode cX10_cheapest 135 = .ok (.iload_n 1, 1) := by decide +kernel
theorem dX10_cheapest_136 : decode cX10_cheapest 136 = .ok (.iload_n 3, 1) := by decide +kernel
theorem dX10_cheapest_137 : decode cX10_cheapest 137 = .ok (.invokevirtual 177, 3) := by decide +kernel
theorem dX10_cheapest_140 : decode cX10_cheapest 140 = .ok (.iload 5, 2) := by decide +kernel
theorem dX10_cheapest_142 : decode cX10_cheapest 142 = .ok (.if_icmp .ne 7, 3) := by decide +kernel
theorem dX10_cheapest_145 : decode cX10_cheapest 145 = .ok (.iload 9, 2) := by decide +kernel
theorem dX10_cheapest_147 : decode cX10_cheapest 147 = .ok (.istore 8, 2) := by decide +kernel
theorem dX10_cheapest_149 : decode cX10_cheapest 149 = .ok (.iinc 9 1, 3) := by decide +kernel
theorem dX10_cheapest_152 : decode cX10_cheapest 152 = .ok (.goto (-88), 3) := by decide +kernel
theorem dX10_cheapest_155 : decode cX10_cheapest 155 = .ok (.aload_n 0, 1) := by decide +kernel
theorem dX10_cheapest_156 : decode cX10_cheapest 156 = .ok (.iload_n 3, 1) := by decide +kernel
theorem dX10_cheapest_157 : decode cX10_cheapest 157 = .ok (.invokevirtual 261, 3) := by decide +kernel
theorem dX10_cheapest_160 : decode cX10_cheapest 160 = .ok (.iload 6, 2) := by decide +kernel
theorem dX10_cheapest_162 : decode cX10_cheapest 162 = .ok (.ifCond .eq 10, 3) := by decide +kernel
theorem dX10_cheapest_165 : decode cX10_cheapest 165 = .ok (.iload 8, 2) := by decide +kernel
theorem dX10_cheapest_167 : decode cX10_cheapest 167 = .ok (.bipush (-2), 2) := by decide +kernel
theorem dX10_cheapest_169 : decode cX10_cheapest 169 = .ok (.if_icmp .ne 8, 3) := by decide +kernel
theorem dX10_cheapest_172 : decode cX10_cheapest 172 = .ok (.iload 8, 2) := by decide +kernel
theorem dX10_cheapest_174 : decode cX10_cheapest 174 = .ok (.goto 13, 3) := by decide +kernel
theorem dX10_cheapest_177 : decode cX10_cheapest 177 = .ok (.aload_n 0, 1) := by decide +kernel
theorem dX10_cheapest_178 : decode cX10_cheapest 178 = .ok (.getfield 43, 3) := by decide +kernel
theorem dX10_cheapest_181 : decode cX10_cheapest 181 = .ok (.getfield 258, 3) := by decide +kernel
theorem dX10_cheapest_184 : decode cX10_cheapest 184 = .ok (.iload 8, 2) := by decide +kernel
theorem dX10_cheapest_186 : decode cX10_cheapest 186 = .ok (.iaload, 1) := by decide +kernel
theorem dX10_cheapest_187 : decode cX10_cheapest 187 = .ok (.ireturn, 1) := by decide +kernel
theorem dX10_stopped_0 : decode cX10_stopped 0 = .ok (.iload 6, 2) := by decide +kernel
theorem dX10_stopped_2 : decode cX10_stopped 2 = .ok (.iconst 0, 1) := by decide +kernel
theorem dX10_stopped_3 : decode cX10_stopped 3 = .ok (.ldc_w 264, 3) := by decide +kernel
theorem dX10_stopped_6 : decode cX10_stopped 6 = .ok (.invokestatic 101, 3) := by decide +kernel
theorem dX10_stopped_9 : decode cX10_stopped 9 = .ok (.ifCond .eq 28, 3) := by decide +kernel
theorem dX10_stopped_12 : decode cX10_stopped 12 = .ok (.aload_n 0, 1) := by decide +kernel
theorem dX10_stopped_13 : decode cX10_stopped 13 = .ok (.iload_n 1, 1) := by decide +kernel
theorem dX10_stopped_14 : decode cX10_stopped 14 = .ok (.iload_n 2, 1) := by decide +kernel
theorem dX10_stopped_15 : decode cX10_stopped 15 = .ok (.iload_n 3, 1) := by decide +kernel
theorem dX10_stopped_16 : decode cX10_stopped 16 = .ok (.iload 4, 2) := by decide +kernel
theorem dX10_stopped_18 : decode cX10_stopped 18 = .ok (.iload 5, 2) := by decide +kernel
theorem dX10_stopped_20 : decode cX10_stopped 20 = .ok (.invokevirtual 244, 3) := by decide +kernel
theorem dX10_stopped_23 : decode cX10_stopped 23 = .ok (.ifCond .eq 14, 3) := by decide +kernel
theorem dX10_stopped_26 : decode cX10_stopped 26 = .ok (.iload 5, 2) := by decide +kernel
theorem dX10_stopped_28 : decode cX10_stopped 28 = .ok (.aload_n 0, 1) := by decide +kernel
theorem dX10_stopped_29 : decode cX10_stopped 29 = .ok (.iload_n 1, 1) := by decide +kernel
theorem dX10_stopped_30 : decode cX10_stopped 30 = .ok (.iload_n 3, 1) := by decide +kernel
theorem dX10_stopped_31 : decode cX10_stopped 31 = .ok (.invokevirtual 177, 3) := by decide +kernel
theorem dX10_stopped_34 : decode cX10_stopped 34 = .ok (.if_icmp .ne 5, 3) := by decide +kernel
theorem dX10_stopped_37 : decode cX10_stopped 37 = .ok (.iconst (-1), 1) := by decide +kernel
theorem dX10_stopped_38 : decode cX10_stopped 38 = .ok (.ireturn, 1) := by decide +kernel
theorem dX10_stopped_39 : decode cX10_stopped 39 = .ok (.aload_n 0, 1) := by decide +kernel
theorem dX10_stopped_40 : decode cX10_stopped 40 = .ok (.invokevirtual 265, 3) := by decide +kernel
theorem dX10_stopped_43 : decode cX10_stopped 43 = .ok (.lstore 7, 2) := by decide +kernel
theorem dX10_stopped_45 : decode cX10_stopped 45 = .ok (.iconst 0, 1) := by decide +kernel
theorem dX10_stopped_46 : decode cX10_stopped 46 = .ok (.istore 9, 2) := by decide +kernel
theorem dX10_stopped_48 : decode cX10_stopped 48 = .ok (.iload 9, 2) := by decide +kernel
theorem dX10_stopped_50 : decode cX10_stopped 50 = .ok (.aload_n 0, 1) := by decide +kernel
theorem dX10_stopped_51 : decode cX10_stopped 51 = .ok (.getfield 113, 3) := by decide +kernel
theorem dX10_stopped_54 : decode cX10_stopped 54 = .ok (.if_icmp .ge 29, 3) := by decide +kernel
theorem dX10_stopped_57 : decode cX10_stopped 57 = .ok (.aload_n 0, 1) := by decide +kernel
theorem dX10_stopped_58 : decode cX10_stopped 58 = .ok (.iload_n 1, 1) := by decide +kernel
