theorem dX11_mind_6 : decode cX11_mind 6 = .ok (.ifCond .eq 12, 3) := by decide +kernel
theorem dX11_mind_9 : decode cX11_mind 9 = .ok (.iload_n 3, 1) := by decide +kernel
theorem dX11_mind_10 : decode cX11_mind 10 = .ok (.iload 4, 2) := by decide +kernel
theorem dX11_mind_12 : decode cX11_mind 12 = .ok (.invokestatic 172, 3) := by decide +kernel
theorem dX11_mind_15 : decode cX11_mind 15 = .ok (.ifCond .ne 5, 3) := by decide +kernel
theorem dX11_mind_18 : decode cX11_mind 18 = .ok (.iconst 0, 1) := by decide +kernel
theorem dX11_mind_19 : decode cX11_mind 19 = .ok (.ireturn, 1) := by decide +kernel
theorem dX11_mind_20 : decode cX11_mind 20 = .ok (.aload_n 0, 1) := by decide +kernel
theorem dX11_mind_21 : decode cX11_mind 21 = .ok (.getfield 46, 3) := by decide +kernel
theorem dX11_mind_24 : decode cX11_mind 24 = .ok (.bipush 22, 2) := by decide +kernel
theorem dX11_mind_26 : decode cX11_mind 26 = .ok (.iload_n 1, 1) := by decide +kernel
theorem dX11_mind_27 : decode cX11_mind 27 = .ok (.imul, 1) := by decide +kernel
theorem dX11_mind_28 : decode cX11_mind 28 = .ok (.iload_n 2, 1) := by decide +kernel
theorem dX11_mind_29 : decode cX11_mind 29 = .ok (.iadd, 1) := by decide +kernel
theorem dX11_mind_30 : decode cX11_mind 30 = .ok (.iload_n 3, 1) := by decide +kernel
theorem dX11_mind_31 : decode cX11_mind 31 = .ok (.iastore, 1) := by decide +kernel
theorem dX11_mind_32 : decode cX11_mind 32 = .ok (.aload_n 0, 1) := by decide +kernel
theorem dX11_mind_33 : decode cX11_mind 33 = .ok (.getfield 49, 3) := by decide +kernel
theorem dX11_mind_36 : decode cX11_mind 36 = .ok (.bipush 22, 2) := by decide +kernel
theorem dX11_mind_38 : decode cX11_mind 38 = .ok (.iload_n 1, 1) := by decide +kernel
theorem dX11_mind_39 : decode cX11_mind 39 = .ok (.imul, 1) := by decide +kernel
theorem dX11_mind_40 : decode cX11_mind 40 = .ok (.iload_n 2, 1) := by decide +kernel
theorem dX11_mind_41 : decode cX11_mind 41 = .ok (.iadd, 1) := by decide +kernel
theorem dX11_mind_42 : decode cX11_mind 42 = .ok (.iload 4, 2) := by decide +kernel
theorem dX11_mind_44 : decode cX11_mind 44 = .ok (.iastore, 1) := by decide +kernel
theorem dX11_mind_45 : decode cX11_mind 45 = .ok (.iconst 1, 1) := by decide +kernel
theorem dX11_mind_46 : decode cX11_mind 46 = .ok (.ireturn, 1) := by decide +kernel
theorem dX11_holderOf_0 : decode cX11_holderOf 0 = .ok (.aload_n 0, 1) := by decide +kernel
theorem dX11_holderOf_1 : decode cX11_holderOf 1 = .ok (.iload_n 1, 1) := by decide +kernel
theorem dX11_holderOf_2 : decode cX11_holderOf 2 = .ok (.aload_n 0, 1) := by decide +kernel
theorem dX11_holderOf_3 : decode cX11_holderOf 3 = .ok (.getfield 25, 3) := by decide +kernel
theorem dX11_holderOf_6 : decode cX11_holderOf 6 = .ok (.iload_n 1, 1) := by decide +kernel
theorem dX11_holderOf_7 : decode cX11_holderOf 7 = .ok (.iaload, 1) := by decide +kernel
theorem dX11_holderOf_8 : decode cX11_holderOf 8 = .ok (.invokevirtual 176, 3) := by decide +kernel
theorem dX11_holderOf_11 : decode cX11_holderOf 11 = .ok (.ireturn, 1) := by decide +kernel
theorem dX11_holds_0 : decode cX11_holds 0 = .ok (.aload_n 0, 1) := by decide +kernel
theorem dX11_holds_1 : decode cX11_holds 1 = .ok (.iload_n 1, 1) := by decide +kernel
theorem dX11_holds_2 : decode cX11_holds 2 = .ok (.invokevirtual 154, 3) := by decide +kernel
theorem dX11_holds_5 : decode cX11_holds 5 = .ok (.ifCond .eq 11, 3) := by decide +kernel
theorem dX11_holds_8 : decode cX11_holds 8 = .ok (.aload_n 0, 1) := by decide +kernel
theorem dX11_holds_9 : decode cX11_holds 9 = .ok (.iload_n 1, 1) := by decide +kernel
theorem dX11_holds_10 : decode cX11_holds 10 = .ok (.invokevirtual 191, 3) := by decide +kernel
theorem dX11_holds_13 : decode cX11_holds 13 = .ok (.goto 4, 3) := by decide +kernel
theorem dX11_holds_16 : decode cX11_holds 16 = .ok (.iconst (-1), 1) := by decide +kernel
theorem dX11_holds_17 : decode cX11_holds 17 = .ok (.ireturn, 1) := by decide +kernel
theorem dX11_registered_0 : decode cX11_registered 0 = .ok (.aload_n 0, 1) := by decide +kernel
theorem dX11_registered_1 : decode cX11_registered 1 = .ok (.getfield 19, 3) := by decide +kernel
theorem dX11_registered_4 : decode cX11_registered 4 = .ok (.iload_n 1, 1) := by decide +kernel
theorem dX11_registered_5 : decode cX11_registered 5 = .ok (.iaload, 1) := by decide +kernel
theorem dX11_registered_6 : decode cX11_registered 6 = .ok (.istore_n 3, 1) := by decide +kernel
theorem dX11_registered_7 : decode cX11_registered 7 = .ok (.iconst 0, 1) := by decide +kernel
theorem dX11_registered_8 : decode cX11_registered 8 = .ok (.istore 4, 2) := by decide +kernel
theorem dX11_registered_10 : decode cX11_registered 10 = .ok (.iload 4, 2) := by decide +kernel
theorem dX11_registered_12 : decode cX11_registered 12 = .ok (.iload_n 2, 1) := by decide +kernel
theorem dX11_registered_13 : decode cX11_registered 13 = .ok (.if_icmp .ge 43, 3) := by decide +kernel
theorem dX11_registered_16 : decode cX11_registered 16 = .ok (.aload_n 0, 1) := by decide +kernel
theorem dX11_registered_17 : decode cX11_registered 17 = .ok (.getfield 43, 3) := by decide +kernel
theorem dX11_registered_20 : decode cX11_registered 20 = .ok (.bipush 22, 2) := by decide +kernel
theorem dX11_registered_22 : decode cX11_registered 22 = .ok (.iload_n 1, 1) := by decide +kernel
theorem dX11_registered_23 : decode cX11_registered 23 = .ok (.imul, 1) := by decide +kernel
theorem dX11_registered_24 : decode cX11_registered 24 = .ok (.iload 4, 2) := by decide +kernel
theorem dX11_registered_26 : decode cX11_registered 26 = .ok (.iadd, 1) := by decide +kernel
theorem dX11_registered_27 : decode cX11_registered 27 = .ok (.iaload, 1) := by decide +kernel
theorem dX11_registered_28 : decode cX11_registered 28 = .ok (.iconst 4, 1) := by decide +kernel
theorem dX11_registered_29 : decode cX11_registered 29 = .ok (.iand, 1) := by decide +kernel
theorem dX11_registered_30 : decode cX11_registered 30 = .ok (.ifCond .eq 18, 3) := by decide +kernel
theorem dX11_registered_33 : decode cX11_registered 33 = .ok (.aload_n 0, 1) := by decide +kernel
theorem dX11_registered_34 : decode cX11_registered 34 = .ok (.getfield 31, 3) := by decide +kernel
theorem dX11_registered_37 : decode cX11_registered 37 = .ok (.bipush 22, 2) := by decide +kernel
theorem dX11_registered_39 : decode cX11_registered 39 = .ok (.iload_n 1, 1) := by decide +kernel
theorem dX11_registered_40 : decode cX11_registered 40 = .ok (.imul, 1) := by decide +kernel
theorem dX11_registered_41 : decode cX11_registered 41 = .ok (.iload 4, 2) := by decide +kernel
theorem dX11_registered_43 : decode cX11_registered 43 = .ok (.iadd, 1) := by decide +kernel
theorem dX11_registered_44 : decode cX11_registered 44 = .ok (.iaload, 1) := by decide +kernel
theorem dX11_registered_45 : decode cX11_registered 45 = .ok (.goto 4, 3) := by decide +kernel
theorem dX11_registered_48 : decode cX11_registered 48 = .ok (.iload_n 3, 1) := by decide +kernel
theorem dX11_registered_49 : decode cX11_registered 49 = .ok (.istore_n 3, 1) := by decide +kernel
theorem dX11_registered_50 : decode cX11_registered 50 = .ok (.iinc 4 1, 3) := by decide +kernel
theorem dX11_registered_53 : decode cX11_registered 53 = .ok (.goto (-43), 3) := by decide +kernel
theorem dX11_registered_56 : decode cX11_registered 56 = .ok (.iload_n 3, 1) := by decide +kernel
theorem dX11_registered_57 : decode cX11_registered 57 = .ok (.ireturn, 1) := by decide +kernel
theorem dX11_register_0 : decode cX11_register 0 = .ok (.aload_n 0, 1) := by decide +kernel
theorem dX11_register_1 : decode cX11_register 1 = .ok (.iload_n 1, 1) := by decide +kernel
theorem dX11_register_2 : decode cX11_register 2 = .ok (.invokevirtual 154, 3) := by decide +kernel
theorem dX11_register_5 : decode cX11_register 5 = .ok (.ifCond .eq 17, 3) := by decide +kernel
theorem dX11_register_8 : decode cX11_register 8 = .ok (.aload_n 0, 1) := by decide +kernel
theorem dX11_register_9 : decode cX11_register 9 = .ok (.iload_n 1, 1) := by decide +kernel
theorem dX11_register_10 : decode cX11_register 10 = .ok (.aload_n 0, 1) := by decide +kernel
theorem dX11_register_11 : decode cX11_register 11 = .ok (.getfield 25, 3) := by decide +kernel
theorem dX11_register_14 : decode cX11_register 14 = .ok (.iload_n 1, 1) := by decide +kernel
theorem dX11_register_15 : decode cX11_register 15 = .ok (.iaload, 1) := by decide +kernel
theorem dX11_register_16 : decode cX11_register 16 = .ok (.invokevirtual 195, 3) := by decide +kernel
theorem dX11_register_19 : decode cX11_register 19 = .ok (.goto 4, 3) := by decide +kernel
theorem dX11_register_22 : decode cX11_register 22 = .ok (.iconst (-1), 1) := by decide +kernel
theorem dX11_register_23 : decode cX11_register 23 = .ok (.ireturn, 1) := by decide +kernel
theorem dX11_sends_0 : decode cX11_sends 0 = .ok (.iload_n 1, 1) := by decide +kernel
theorem dX11_sends_1 : decode cX11_sends 1 = .ok (.invokestatic 165, 3) := by decide +kernel
theorem dX11_sends_4 : decode cX11_sends 4 = .ok (.ifCond .eq 22, 3) := by decide +kernel
theorem dX11_sends_7 : decode cX11_sends 7 = .ok (.iload_n 2, 1) := by decide +kernel
theorem dX11_sends_8 : decode cX11_sends 8 = .ok (.iconst 0, 1) := by decide +kernel
theorem dX11_sends_9 : decode cX11_sends 9 = .ok (.bipush 8, 2) := by decide +kernel
theorem dX11_sends_11 : decode cX11_sends 11 = .ok (.invokestatic 161, 3) := by decide +kernel
theorem dX11_sends_14 : decode cX11_sends 14 = .ok (.ifCond .eq 12, 3) := by decide +kernel
theorem dX11_sends_17 : decode cX11_sends 17 = .ok (.iload_n 3, 1) := by decide +kernel
theorem dX11_sends_18 : decode cX11_sends 18 = .ok (.iconst 0, 1) := by decide +kernel
theorem dX11_sends_19 : decode cX11_sends 19 = .ok (.iconst 5, 1) := by decide +kernel
theorem dX11_sends_20 : decode cX11_sends 20 = .ok (.invokestatic 161, 3) := by decide +kernel
theorem dX11_sends_23 : decode cX11_sends 23 = .ok (.ifCond .ne 5, 3) := by decide +kernel
theorem dX11_sends_26 : decode cX11_sends 26 = .ok (.iconst 0, 1) := by decide +kernel
theorem dX11_sends_27 : decode cX11_sends 27 = .ok (.ireturn, 1) := by decide +kernel
theorem dX11_sends_28 : decode cX11_sends 28 = .ok (.aload_n 0, 1) := by decide +kernel
theorem dX11_sends_29 : decode cX11_sends 29 = .ok (.getfield 52, 3) := by decide +kernel
theorem dX11_sends_32 : decode cX11_sends 32 = .ok (.bipush 9, 2) := by decide +kernel
theorem dX11_sends_34 : decode cX11_sends 34 = .ok (.iload_n 1, 1) := by decide +kernel
theorem dX11_sends_35 : decode cX11_sends 35 = .ok (.imul, 1) := by decide +kernel
theorem dX11_sends_36 : decode cX11_sends 36 = .ok (.iload_n 2, 1) := by decide +kernel
theorem dX11_sends_37 : decode cX11_sends 37 = .ok (.iadd, 1) := by decide +kernel
theorem dX11_sends_38 : decode cX11_sends 38 = .ok (.iload_n 3, 1) := by decide +kernel
theorem dX11_sends_39 : decode cX11_sends 39 = .ok (.iastore, 1) := by decide +kernel
theorem dX11_sends_40 : decode cX11_sends 40 = .ok (.iconst 1, 1) := by decide +kernel
theorem dX11_sends_41 : decode cX11_sends 41 = .ok (.ireturn, 1) := by decide +kernel
theorem dX11_road_0 : decode cX11_road 0 = .ok (.iload_n 1, 1) := by decide +kernel
theorem dX11_road_1 : decode cX11_road 1 = .ok (.invokestatic 165, 3) := by decide +kernel
theorem dX11_road_4 : decode cX11_road 4 = .ok (.ifCond .eq 26, 3) := by decide +kernel
theorem dX11_road_7 : decode cX11_road 7 = .ok (.iload_n 2, 1) := by decide +kernel
theorem dX11_road_8 : decode cX11_road 8 = .ok (.invokestatic 165, 3) := by decide +kernel
theorem dX11_road_11 : decode cX11_road 11 = .ok (.ifCond .eq 19, 3) := by decide +kernel
theorem dX11_road_14 : decode cX11_road 14 = .ok (.iload_n 1, 1) := by decide +kernel
theorem dX11_road_15 : decode cX11_road 15 = .ok (.iload_n 2, 1) := by decide +kernel
theorem dX11_road_16 : decode cX11_road 16 = .ok (.if_icmp .eq 14, 3) := by decide +kernel
theorem dX11_road_19 : decode cX11_road 19 = .ok (.iload_n 3, 1) := by decide +kernel
theorem dX11_road_20 : decode cX11_road 20 = .ok (.iconst 0, 1) := by decide +kernel
theorem dX11_road_21 : decode cX11_road 21 = .ok (.sipush 10000, 3) := by decide +kernel
theorem dX11_road_24 : decode cX11_road 24 = .ok (.invokestatic 161, 3) := by decide +kernel
theorem dX11_road_27 : decode cX11_road 27 = .ok (.ifCond .ne 5, 3) := by decide +kernel
theorem dX11_road_30 : decode cX11_road 30 = .ok (.iconst 0, 1) := by decide +kernel
theorem dX11_road_31 : decode cX11_road 31 = .ok (.ireturn, 1) := by decide +kernel
theorem dX11_road_32 : decode cX11_road 32 = .ok (.aload_n 0, 1) := by decide +kernel
theorem dX11_road_33 : decode cX11_road 33 = .ok (.getfield 55, 3) := by decide +kernel
theorem dX11_road_36 : decode cX11_road 36 = .ok (.bipush 6, 2) := by decide +kernel
theorem dX11_road_38 : decode cX11_road 38 = .ok (.iload_n 1, 1) := by decide +kernel
theorem dX11_road_39 : decode cX11_road 39 = .ok (.imul, 1) := by decide +kernel
theorem dX11_road_40 : decode cX11_road 40 = .ok (.iload_n 2, 1) := by decide +kernel
theorem dX11_road_41 : decode cX11_road 41 = .ok (.iadd, 1) := by decide +kernel
theorem dX11_road_42 : decode cX11_road 42 = .ok (.iload_n 3, 1) := by decide +kernel
theorem dX11_road_43 : decode cX11_road 43 = .ok (.iastore, 1) := by decide +kernel
theorem dX11_road_44 : decode cX11_road 44 = .ok (.aload_n 0, 1) := by decide +kernel
theorem dX11_road_45 : decode cX11_road 45 = .ok (.getfield 55, 3) := by decide +kernel
theorem dX11_road_48 : decode cX11_road 48 = .ok (.bipush 6, 2) := by decide +kernel
theorem dX11_road_50 : decode cX11_road 50 = .ok (.iload_n 2, 1) := by decide +kernel
theorem dX11_road_51 : decode cX11_road 51 = .ok (.imul, 1) := by decide +kernel
theorem dX11_road_52 : decode cX11_road 52 = .ok (.iload_n 1, 1) := by decide +kernel
theorem dX11_road_53 : decode cX11_road 53 = .ok (.iadd, 1) := by decide +kernel
theorem dX11_road_54 : decode cX11_road 54 = .ok (.iload_n 3, 1) := by decide +kernel
theorem dX11_road_55 : decode cX11_road 55 = .ok (.iastore, 1) := by decide +kernel
theorem dX11_road_56 : decode cX11_road 56 = .ok (.iconst 1, 1) := by decide +kernel
theorem dX11_road_57 : decode cX11_road 57 = .ok (.ireturn, 1) := by decide +kernel
theorem dX11_types_0 : decode cX11_types 0 = .ok (.iconst 3, 1) := by decide +kernel
theorem dX11_types_1 : decode cX11_types 1 = .ok (.istore_n 2, 1) := by decide +kernel
theorem dX11_types_2 : decode cX11_types 2 = .ok (.iload_n 2, 1) := by decide +kernel
theorem dX11_types_3 : decode cX11_types 3 = .ok (.ifCond .lt 35, 3) := by decide +kernel
theorem dX11_types_6 : decode cX11_types 6 = .ok (.aload_n 0, 1) := by decide +kernel
theorem dX11_types_7 : decode cX11_types 7 = .ok (.getfield 58, 3) := by decide +kernel
theorem dX11_types_10 : decode cX11_types 10 = .ok (.aload_n 0, 1) := by decide +kernel
theorem dX11_types_11 : decode cX11_types 11 = .ok (.getfield 198, 3) := by decide +kernel
theorem dX11_types_14 : decode cX11_types 14 = .ok (.iload_n 1, 1) := by decide +kernel
theorem dX11_types_15 : decode cX11_types 15 = .ok (.bipush 8, 2) := by decide +kernel
theorem dX11_types_17 : decode cX11_types 17 = .ok (.iload_n 2, 1) := by decide +kernel
theorem dX11_types_18 : decode cX11_types 18 = .ok (.imul, 1) := by decide +kernel
theorem dX11_types_19 : decode cX11_types 19 = .ok (.ishr, 1) := by decide +kernel
theorem dX11_types_20 : decode cX11_types 20 = .ok (.i2b, 1) := by decide +kernel
theorem dX11_types_21 : decode cX11_types 21 = .ok (.bastore, 1) := by decide +kernel
theorem dX11_types_22 : decode cX11_types 22 = .ok (.aload_n 0, 1) := by decide +kernel
theorem dX11_types_23 : decode cX11_types 23 = .ok (.aload_n 0, 1) := by decide +kernel
theorem dX11_types_24 : decode cX11_types 24 = .ok (.getfield 198, 3) := by decide +kernel
theorem dX11_types_27 : decode cX11_types 27 = .ok (.iconst 1, 1) := by decide +kernel
theorem dX11_types_28 : decode cX11_types 28 = .ok (.iadd, 1) := by decide +kernel
theorem dX11_types_29 : decode cX11_types 29 = .ok (.putfield 198, 3) := by decide +kernel
theorem dX11_types_32 : decode cX11_types 32 = .ok (.iinc 2 (-1), 3) := by decide +kernel
theorem dX11_types_35 : decode cX11_types 35 = .ok (.goto (-33), 3) := by decide +kernel
theorem dX11_types_38 : decode cX11_types 38 = .ok (.return_, 1) := by decide +kernel
theorem dX11_feed_0 : decode cX11_feed 0 = .ok (.aload_n 0, 1) := by decide +kernel
theorem dX11_feed_1 : decode cX11_feed 1 = .ok (.getfield 198, 3) := by decide +kernel
theorem dX11_feed_4 : decode cX11_feed 4 = .ok (.bipush 20, 2) := by decide +kernel
theorem dX11_feed_6 : decode cX11_feed 6 = .ok (.iadd, 1) := by decide +kernel
theorem dX11_feed_7 : decode cX11_feed 7 = .ok (.sipush 200, 3) := by decide +kernel
theorem dX11_feed_10 : decode cX11_feed 10 = .ok (.if_icmp .le 5, 3) := by decide +kernel
theorem dX11_feed_13 : decode cX11_feed 13 = .ok (.iconst (-1), 1) := by decide +kernel
theorem dX11_feed_14 : decode cX11_feed 14 = .ok (.ireturn, 1) := by decide +kernel
theorem dX11_feed_15 : decode cX11_feed 15 = .ok (.aload_n 0, 1) := by decide +kernel
theorem dX11_feed_16 : decode cX11_feed 16 = .ok (.iload_n 1, 1) := by decide +kernel
theorem dX11_feed_17 : decode cX11_feed 17 = .ok (.invokevirtual 201, 3) := by decide +kernel
theorem dX11_feed_20 : decode cX11_feed 20 = .ok (.aload_n 0, 1) := by decide +kernel
theorem dX11_feed_21 : decode cX11_feed 21 = .ok (.iload_n 2, 1) := by decide +kernel
theorem dX11_feed_22 : decode cX11_feed 22 = .ok (.invokevirtual 201, 3) := by decide +kernel
theorem dX11_feed_25 : decode cX11_feed 25 = .ok (.aload_n 0, 1) := by decide +kernel
theorem dX11_feed_26 : decode cX11_feed 26 = .ok (.iload_n 3, 1) := by decide +kernel
theorem dX11_feed_27 : decode cX11_feed 27 = .ok (.invokevirtual 201, 3) := by decide +kernel
theorem dX11_feed_30 : decode cX11_feed 30 = .ok (.aload_n 0, 1) := by decide +kernel
theorem dX11_feed_31 : decode cX11_feed 31 = .ok (.iload 4, 2) := by decide +kernel
theorem dX11_feed_33 : decode cX11_feed 33 = .ok (.invokevirtual 201, 3) := by decide +kernel
theorem dX11_feed_36 : decode cX11_feed 36 = .ok (.aload_n 0, 1) := by decide +kernel
theorem dX11_feed_37 : decode cX11_feed 37 = .ok (.iload 5, 2) := by decide +kernel
theorem dX11_feed_39 : decode cX11_feed 39 = .ok (.invokevirtual 201, 3) := by decide +kernel
theorem dX11_feed_42 : decode cX11_feed 42 = .ok (.aload_n 0, 1) := by decide +kernel
theorem dX11_feed_43 : decode cX11_feed 43 = .ok (.getfield 198, 3) := by decide +kernel
theorem dX11_feed_46 : decode cX11_feed 46 = .ok (.ireturn, 1) := by decide +kernel
theorem dX11_here_0 : decode cX11_here 0 = .ok (.aload_n 0, 1) := by decide +kernel
theorem dX11_here_1 : decode cX11_here 1 = .ok (.getfield 205, 3) := by decide +kernel
theorem dX11_here_4 : decode cX11_here 4 = .ok (.aload_n 0, 1) := by decide +kernel
theorem dX11_here_5 : decode cX11_here 5 = .ok (.getfield 208, 3) := by decide +kernel
theorem dX11_here_8 : decode cX11_here 8 = .ok (.if_icmp .ge 19, 3) := by decide +kernel
theorem dX11_here_11 : decode cX11_here 11 = .ok (.aload_n 0, 1) := by decide +kernel
theorem dX11_here_12 : decode cX11_here 12 = .ok (.getfield 58, 3) := by decide +kernel
theorem dX11_here_15 : decode cX11_here 15 = .ok (.aload_n 0, 1) := by decide +kernel
theorem dX11_here_16 : decode cX11_here 16 = .ok (.getfield 205, 3) := by decide +kernel
theorem dX11_here_19 : decode cX11_here 19 = .ok (.baload, 1) := by decide +kernel
theorem dX11_here_20 : decode cX11_here 20 = .ok (.sipush 255, 3) := by decide +kernel
theorem dX11_here_23 : decode cX11_here 23 = .ok (.iand, 1) := by decide +kernel
theorem dX11_here_24 : decode cX11_here 24 = .ok (.goto 4, 3) := by decide +kernel
theorem dX11_here_27 : decode cX11_here 27 = .ok (.iconst (-1), 1) := by decide +kernel
theorem dX11_here_28 : decode cX11_here 28 = .ok (.ireturn, 1) := by decide +kernel
theorem dX11_isDigit_0 : decode cX11_isDigit 0 = .ok (.aload_n 0, 1) := by decide +kernel
theorem dX11_isDigit_1 : decode cX11_isDigit 1 = .ok (.invokevirtual 211, 3) := by decide +kernel
theorem dX11_isDigit_4 : decode cX11_isDigit 4 = .ok (.bipush 48, 2) := by decide +kernel
theorem dX11_isDigit_6 : decode cX11_isDigit 6 = .ok (.if_icmp .lt 16, 3) := by decide +kernel
theorem dX11_isDigit_9 : decode cX11_isDigit 9 = .ok (.aload_n 0, 1) := by decide +kernel
theorem dX11_isDigit_10 : decode cX11_isDigit 10 = .ok (.invokevirtual 211, 3) := by decide +kernel
theorem dX11_isDigit_13 : decode cX11_isDigit 13 = .ok (.bipush 57, 2) := by decide +kernel
theorem dX11_isDigit_15 : decode cX11_isDigit 15 = .ok (.if_icmp .gt 7, 3) := by decide +kernel
theorem dX11_isDigit_18 : decode cX11_isDigit 18 = .ok (.iconst 1, 1) := by decide +kernel
theorem dX11_isDigit_19 : decode cX11_isDigit 19 = .ok (.goto 4, 3) := by decide +kernel
theorem dX11_isDigit_22 : decode cX11_isDigit 22 = .ok (.iconst 0, 1) := by decide +kernel
theorem dX11_isDigit_23 : decode cX11_isDigit 23 = .ok (.ireturn, 1) := by decide +kernel
theorem dX11_wrong_0 : decode cX11_wrong 0 = .ok (.aload_n 0, 1) := by decide +kernel
theorem dX11_wrong_1 : decode cX11_wrong 1 = .ok (.sipush (-1000), 3) := by decide +kernel
theorem dX11_wrong_4 : decode cX11_wrong 4 = .ok (.iload_n 1, 1) := by decide +kernel
theorem dX11_wrong_5 : decode cX11_wrong 5 = .ok (.imul, 1) := by decide +kernel
theorem dX11_wrong_6 : decode cX11_wrong 6 = .ok (.iload_n 2, 1) := by decide +kernel
theorem dX11_wrong_7 : decode cX11_wrong 7 = .ok (.isub, 1) := by decide +kernel
theorem dX11_wrong_8 : decode cX11_wrong 8 = .ok (.putfield 215, 3) := by decide +kernel
theorem dX11_wrong_11 : decode cX11_wrong 11 = .ok (.iconst 0, 1) := by decide +kernel
theorem dX11_wrong_12 : decode cX11_wrong 12 = .ok (.ireturn, 1) := by decide +kernel
theorem dX11_takes_0 : decode cX11_takes 0 = .ok (.aload_n 0, 1) := by decide +kernel
theorem dX11_takes_1 : decode cX11_takes 1 = .ok (.invokevirtual 211, 3) := by decide +kernel
theorem dX11_takes_4 : decode cX11_takes 4 = .ok (.iload_n 1, 1) := by decide +kernel
theorem dX11_takes_5 : decode cX11_takes 5 = .ok (.if_icmp .eq 13, 3) := by decide +kernel
theorem dX11_takes_8 : decode cX11_takes 8 = .ok (.aload_n 0, 1) := by decide +kernel
theorem dX11_takes_9 : decode cX11_takes 9 = .ok (.iconst 1, 1) := by decide +kernel
theorem dX11_takes_10 : decode cX11_takes 10 = .ok (.aload_n 0, 1) := by decide +kernel
theorem dX11_takes_11 : decode cX11_takes 11 = .ok (.getfield 205, 3) := by decide +kernel
theorem dX11_takes_14 : decode cX11_takes 14 = .ok (.invokevirtual 218, 3) := by decide +kernel
theorem dX11_takes_17 : decode cX11_takes 17 = .ok (.ireturn, 1) := by decide +kernel
theorem dX11_takes_18 : decode cX11_takes 18 = .ok (.aload_n 0, 1) := by decide +kernel
theorem dX11_takes_19 : decode cX11_takes 19 = .ok (.aload_n 0, 1) := by decide +kernel
theorem dX11_takes_20 : decode cX11_takes 20 = .ok (.getfield 205, 3) := by decide +kernel
theorem dX11_takes_23 : decode cX11_takes 23 = .ok (.iconst 1, 1) := by decide +kernel
theorem dX11_takes_24 : decode cX11_takes 24 = .ok (.iadd, 1) := by decide +kernel
theorem dX11_takes_25 : decode cX11_takes 25 = .ok (.putfield 205, 3) := by decide +kernel
theorem dX11_takes_28 : decode cX11_takes 28 = .ok (.iconst 1, 1) := by decide +kernel
theorem dX11_takes_29 : decode cX11_takes 29 = .ok (.ireturn, 1) := by decide +kernel
theorem dX11_readsNumber_0 : decode cX11_readsNumber 0 = .ok (.aload_n 0, 1) := by decide +kernel
theorem dX11_readsNumber_1 : decode cX11_readsNumber 1 = .ok (.getfield 205, 3) := by decide +kernel
theorem dX11_readsNumber_4 : decode cX11_readsNumber 4 = .ok (.istore_n 1, 1) := by decide +kernel
theorem dX11_readsNumber_5 : decode cX11_readsNumber 5 = .ok (.aload_n 0, 1) := by decide +kernel
theorem dX11_readsNumber_6 : decode cX11_readsNumber 6 = .ok (.iconst 0, 1) := by decide +kernel
theorem dX11_readsNumber_7 : decode cX11_readsNumber 7 = .ok (.putfield 221, 3) := by decide +kernel
theorem dX11_readsNumber_10 : decode cX11_readsNumber 10 = .ok (.aload_n 0, 1) := by decide +kernel
theorem dX11_readsNumber_11 : decode cX11_readsNumber 11 = .ok (.invokevirtual 224, 3) := by decide +kernel
theorem dX11_readsNumber_14 : decode cX11_readsNumber 14 = .ok (.ifCond .eq 56, 3) := by decide +kernel
theorem dX11_readsNumber_17 : decode cX11_readsNumber 17 = .ok (.aload_n 0, 1) := by decide +kernel
theorem dX11_readsNumber_18 : decode cX11_readsNumber 18 = .ok (.getfield 205, 3) := by decide +kernel
theorem dX11_readsNumber_21 : decode cX11_readsNumber 21 = .ok (.iload_n 1, 1) := by decide +kernel
theorem dX11_readsNumber_22 : decode cX11_readsNumber 22 = .ok (.bipush 6, 2) := by decide +kernel
theorem dX11_readsNumber_24 : decode cX11_readsNumber 24 = .ok (.iadd, 1) := by decide +kernel
theorem dX11_readsNumber_25 : decode cX11_readsNumber 25 = .ok (.if_icmp .ne 13, 3) := by decide +kernel
theorem dX11_readsNumber_28 : decode cX11_readsNumber 28 = .ok (.aload_n 0, 1) := by decide +kernel
theorem dX11_readsNumber_29 : decode cX11_readsNumber 29 = .ok (.iconst 2, 1) := by decide +kernel
theorem dX11_readsNumber_30 : decode cX11_readsNumber 30 = .ok (.aload_n 0, 1) := by decide +kernel
theorem dX11_readsNumber_31 : decode cX11_readsNumber 31 = .ok (.getfield 205, 3) := by decide +kernel
theorem dX11_readsNumber_34 : decode cX11_readsNumber 34 = .ok (.invokevirtual 218, 3) := by decide +kernel
theorem dX11_readsNumber_37 : decode cX11_readsNumber 37 = .ok (.ireturn, 1) := by decide +kernel
theorem dX11_readsNumber_38 : decode cX11_readsNumber 38 = .ok (.aload_n 0, 1) := by decide +kernel
theorem dX11_readsNumber_39 : decode cX11_readsNumber 39 = .ok (.bipush 10, 2) := by decide +kernel
theorem dX11_readsNumber_41 : decode cX11_readsNumber 41 = .ok (.aload_n 0, 1) := by decide +kernel
theorem dX11_readsNumber_42 : decode cX11_readsNumber 42 = .ok (.getfield 221, 3) := by decide +kernel
theorem dX11_readsNumber_45 : decode cX11_readsNumber 45 = .ok (.imul, 1) := by decide +kernel
theorem dX11_readsNumber_46 : decode cX11_readsNumber 46 = .ok (.aload_n 0, 1) := by decide +kernel
theorem dX11_readsNumber_47 : decode cX11_readsNumber 47 = .ok (.invokevirtual 211, 3) := by decide +kernel
theorem dX11_readsNumber_50 : decode cX11_readsNumber 50 = .ok (.iadd, 1) := by decide +kernel
theorem dX11_readsNumber_51 : decode cX11_readsNumber 51 = .ok (.bipush 48, 2) := by decide +kernel
theorem dX11_readsNumber_53 : decode cX11_readsNumber 53 = .ok (.isub, 1) := by decide +kernel
theorem dX11_readsNumber_54 : decode cX11_readsNumber 54 = .ok (.putfield 221, 3) := by decide +kernel
theorem dX11_readsNumber_57 : decode cX11_readsNumber 57 = .ok (.aload_n 0, 1) := by decide +kernel
theorem dX11_readsNumber_58 : decode cX11_readsNumber 58 = .ok (.aload_n 0, 1) := by decide +kernel
theorem dX11_readsNumber_59 : decode cX11_readsNumber 59 = .ok (.getfield 205, 3) := by decide +kernel
theorem dX11_readsNumber_62 : decode cX11_readsNumber 62 = .ok (.iconst 1, 1) := by decide +kernel
theorem dX11_readsNumber_63 : decode cX11_readsNumber 63 = .ok (.iadd, 1) := by decide +kernel
theorem dX11_readsNumber_64 : decode cX11_readsNumber 64 = .ok (.putfield 205, 3) := by decide +kernel
theorem dX11_readsNumber_67 : decode cX11_readsNumber 67 = .ok (.goto (-57), 3) := by decide +kernel
theorem dX11_readsNumber_70 : decode cX11_readsNumber 70 = .ok (.iconst 1, 1) := by decide +kernel
theorem dX11_readsNumber_71 : decode cX11_readsNumber 71 = .ok (.ireturn, 1) := by decide +kernel
theorem dX11_says_0 : decode cX11_says 0 = .ok (.aload_n 0, 1) := by decide +kernel
theorem dX11_says_1 : decode cX11_says 1 = .ok (.getfield 62, 3) := by decide +kernel
theorem dX11_says_4 : decode cX11_says 4 = .ok (.aload_n 0, 1) := by decide +kernel
theorem dX11_says_5 : decode cX11_says 5 = .ok (.getfield 228, 3) := by decide +kernel
theorem dX11_says_8 : decode cX11_says 8 = .ok (.ldc 231, 2) := by decide +kernel
theorem dX11_says_10 : decode cX11_says 10 = .ok (.iload_n 1, 1) := by decide +kernel
theorem dX11_says_11 : decode cX11_says 11 = .ok (.imul, 1) := by decide +kernel
theorem dX11_says_12 : decode cX11_says 12 = .ok (.iload_n 2, 1) := by decide +kernel
theorem dX11_says_13 : decode cX11_says 13 = .ok (.iadd, 1) := by decide +kernel
theorem dX11_says_14 : decode cX11_says 14 = .ok (.iastore, 1) := by decide +kernel
theorem dX11_says_15 : decode cX11_says 15 = .ok (.aload_n 0, 1) := by decide +kernel
theorem dX11_says_16 : decode cX11_says 16 = .ok (.aload_n 0, 1) := by decide +kernel
theorem dX11_says_17 : decode cX11_says 17 = .ok (.getfield 228, 3) := by decide +kernel
theorem dX11_says_20 : decode cX11_says 20 = .ok (.iconst 1, 1) := by decide +kernel
theorem dX11_says_21 : decode cX11_says 21 = .ok (.iadd, 1) := by decide +kernel
theorem dX11_says_22 : decode cX11_says 22 = .ok (.putfield 228, 3) := by decide +kernel
theorem dX11_says_25 : decode cX11_says 25 = .ok (.return_, 1) := by decide +kernel
theorem dX11_opens_0 : decode cX11_opens 0 = .ok (.aload_n 0, 1) := by decide +kernel
theorem dX11_opens_1 : decode cX11_opens 1 = .ok (.getfield 232, 3) := by decide +kernel
theorem dX11_opens_4 : decode cX11_opens 4 = .ok (.bipush 6, 2) := by decide +kernel
theorem dX11_opens_6 : decode cX11_opens 6 = .ok (.if_icmp .ne 13, 3) := by decide +kernel
theorem dX11_opens_9 : decode cX11_opens 9 = .ok (.aload_n 0, 1) := by decide +kernel
theorem dX11_opens_10 : decode cX11_opens 10 = .ok (.iconst 5, 1) := by decide +kernel
theorem dX11_opens_11 : decode cX11_opens 11 = .ok (.aload_n 0, 1) := by decide +kernel
theorem dX11_opens_12 : decode cX11_opens 12 = .ok (.getfield 205, 3) := by decide +kernel
theorem dX11_opens_15 : decode cX11_opens 15 = .ok (.invokevirtual 218, 3) := by decide +kernel
theorem dX11_opens_18 : decode cX11_opens 18 = .ok (.ireturn, 1) := by decide +kernel
theorem dX11_opens_19 : decode cX11_opens 19 = .ok (.aload_n 0, 1) := by decide +kernel
theorem dX11_opens_20 : decode cX11_opens 20 = .ok (.aload_n 0, 1) := by decide +kernel
theorem dX11_opens_21 : decode cX11_opens 21 = .ok (.getfield 232, 3) := by decide +kernel
theorem dX11_opens_24 : decode cX11_opens 24 = .ok (.iconst 1, 1) := by decide +kernel
theorem dX11_opens_25 : decode cX11_opens 25 = .ok (.iadd, 1) := by decide +kernel
theorem dX11_opens_26 : decode cX11_opens 26 = .ok (.putfield 232, 3) := by decide +kernel
theorem dX11_opens_29 : decode cX11_opens 29 = .ok (.aload_n 0, 1) := by decide +kernel
theorem dX11_opens_30 : decode cX11_opens 30 = .ok (.getfield 65, 3) := by decide +kernel
theorem dX11_opens_33 : decode cX11_opens 33 = .ok (.aload_n 0, 1) := by decide +kernel
theorem dX11_opens_34 : decode cX11_opens 34 = .ok (.getfield 235, 3) := by decide +kernel
theorem dX11_opens_37 : decode cX11_opens 37 = .ok (.ldc 231, 2) := by decide +kernel
theorem dX11_opens_39 : decode cX11_opens 39 = .ok (.iload_n 1, 1) := by decide +kernel
theorem dX11_opens_40 : decode cX11_opens 40 = .ok (.imul, 1) := by decide +kernel
theorem dX11_opens_41 : decode cX11_opens 41 = .ok (.iastore, 1) := by decide +kernel
theorem dX11_opens_42 : decode cX11_opens 42 = .ok (.aload_n 0, 1) := by decide +kernel
theorem dX11_opens_43 : decode cX11_opens 43 = .ok (.aload_n 0, 1) := by decide +kernel
theorem dX11_opens_44 : decode cX11_opens 44 = .ok (.getfield 235, 3) := by decide +kernel
theorem dX11_opens_47 : decode cX11_opens 47 = .ok (.iconst 1, 1) := by decide +kernel
theorem dX11_opens_48 : decode cX11_opens 48 = .ok (.iadd, 1) := by decide +kernel
theorem dX11_opens_49 : decode cX11_opens 49 = .ok (.putfield 235, 3) := by decide +kernel
theorem dX11_opens_52 : decode cX11_opens 52 = .ok (.aload_n 0, 1) := by decide +kernel
theorem dX11_opens_53 : decode cX11_opens 53 = .ok (.aload_n 0, 1) := by decide +kernel
theorem dX11_opens_54 : decode cX11_opens 54 = .ok (.getfield 205, 3) := by decide +kernel
theorem dX11_opens_57 : decode cX11_opens 57 = .ok (.iconst 1, 1) := by decide +kernel
theorem dX11_opens_58 : decode cX11_opens 58 = .ok (.iadd, 1) := by decide +kernel
theorem dX11_opens_59 : decode cX11_opens 59 = .ok (.putfield 205, 3) := by decide +kernel
theorem dX11_opens_62 : decode cX11_opens 62 = .ok (.iconst 1, 1) := by decide +kernel
theorem dX11_opens_63 : decode cX11_opens 63 = .ok (.ireturn, 1) := by decide +kernel
theorem dX11_top_0 : decode cX11_top 0 = .ok (.aload_n 0, 1) := by decide +kernel
theorem dX11_top_1 : decode cX11_top 1 = .ok (.getfield 235, 3) := by decide +kernel
theorem dX11_top_4 : decode cX11_top 4 = .ok (.ifCond .ne 7, 3) := by decide +kernel
theorem dX11_top_7 : decode cX11_top 7 = .ok (.iconst (-1), 1) := by decide +kernel
theorem dX11_top_8 : decode cX11_top 8 = .ok (.goto 17, 3) := by decide +kernel
theorem dX11_top_11 : decode cX11_top 11 = .ok (.aload_n 0, 1) := by decide +kernel
theorem dX11_top_12 : decode cX11_top 12 = .ok (.getfield 65, 3) := by decide +kernel
theorem dX11_top_15 : decode cX11_top 15 = .ok (.aload_n 0, 1) := by decide +kernel
theorem dX11_top_16 : decode cX11_top 16 = .ok (.getfield 235, 3) := by decide +kernel
theorem dX11_top_19 : decode cX11_top 19 = .ok (.iconst 1, 1) := by decide +kernel
theorem dX11_top_20 : decode cX11_top 20 = .ok (.isub, 1) := by decide +kernel
theorem dX11_top_21 : decode cX11_top 21 = .ok (.iaload, 1) := by decide +kernel
theorem dX11_top_22 : decode cX11_top 22 = .ok (.ldc 231, 2) := by decide +kernel
theorem dX11_top_24 : decode cX11_top 24 = .ok (.idiv, 1) := by decide +kernel
theorem dX11_top_25 : decode cX11_top 25 = .ok (.ireturn, 1) := by decide +kernel
theorem dX11_factOf_0 : decode cX11_factOf 0 = .ok (.iload_n 0, 1) := by decide +kernel
theorem dX11_factOf_1 : decode cX11_factOf 1 = .ok (.tableswitch 136 99 120 #[124, 118, 111, 136, 136, 130, 136, 121, 103, 127, 105, 107, 133, 136, 136, 109, 136, 136, 136, 115, 136, 113], 103) := by decide +kernel
theorem dX11_factOf_104 : decode cX11_factOf 104 = .ok (.iconst 0, 1) := by decide +kernel
theorem dX11_factOf_105 : decode cX11_factOf 105 = .ok (.ireturn, 1) := by decide +kernel
theorem dX11_factOf_106 : decode cX11_factOf 106 = .ok (.iconst 1, 1) := by decide +kernel
theorem dX11_factOf_107 : decode cX11_factOf 107 = .ok (.ireturn, 1) := by decide +kernel
theorem dX11_factOf_108 : decode cX11_factOf 108 = .ok (.iconst 2, 1) := by decide +kernel
theorem dX11_factOf_109 : decode cX11_factOf 109 = .ok (.ireturn, 1) := by decide +kernel
theorem dX11_factOf_110 : decode cX11_factOf 110 = .ok (.iconst 3, 1) := by decide +kernel
theorem dX11_factOf_111 : decode cX11_factOf 111 = .ok (.ireturn, 1) := by decide +kernel
theorem dX11_factOf_112 : decode cX11_factOf 112 = .ok (.iconst 4, 1) := by decide +kernel
theorem dX11_factOf_113 : decode cX11_factOf 113 = .ok (.ireturn, 1) := by decide +kernel
theorem dX11_factOf_114 : decode cX11_factOf 114 = .ok (.iconst 5, 1) := by decide +kernel
theorem dX11_factOf_115 : decode cX11_factOf 115 = .ok (.ireturn, 1) := by decide +kernel
theorem dX11_factOf_116 : decode cX11_factOf 116 = .ok (.bipush 6, 2) := by decide +kernel
theorem dX11_factOf_118 : decode cX11_factOf 118 = .ok (.ireturn, 1) := by decide +kernel
theorem dX11_factOf_119 : decode cX11_factOf 119 = .ok (.bipush 7, 2) := by decide +kernel
theorem dX11_factOf_121 : decode cX11_factOf 121 = .ok (.ireturn, 1) := by decide +kernel
theorem dX11_factOf_122 : decode cX11_factOf 122 = .ok (.bipush 8, 2) := by decide +kernel
theorem dX11_factOf_124 : decode cX11_factOf 124 = .ok (.ireturn, 1) := by decide +kernel
theorem dX11_factOf_125 : decode cX11_factOf 125 = .ok (.bipush 9, 2) := by decide +kernel
theorem dX11_factOf_127 : decode cX11_factOf 127 = .ok (.ireturn, 1) := by decide +kernel
theorem dX11_factOf_128 : decode cX11_factOf 128 = .ok (.bipush 10, 2) := by decide +kernel
theorem dX11_factOf_130 : decode cX11_factOf 130 = .ok (.ireturn, 1) := by decide +kernel
theorem dX11_factOf_131 : decode cX11_factOf 131 = .ok (.bipush 11, 2) := by decide +kernel
theorem dX11_factOf_133 : decode cX11_factOf 133 = .ok (.ireturn, 1) := by decide +kernel
theorem dX11_factOf_134 : decode cX11_factOf 134 = .ok (.bipush 12, 2) := by decide +kernel
theorem dX11_factOf_136 : decode cX11_factOf 136 = .ok (.ireturn, 1) := by decide +kernel
theorem dX11_factOf_137 : decode cX11_factOf 137 = .ok (.iconst (-1), 1) := by decide +kernel
theorem dX11_factOf_138 : decode cX11_factOf 138 = .ok (.ireturn, 1) := by decide +kernel
theorem dX11_sumSign_0 : decode cX11_sumSign 0 = .ok (.iload_n 0, 1) := by decide +kernel
theorem dX11_sumSign_1 : decode cX11_sumSign 1 = .ok (.bipush 43, 2) := by decide +kernel
theorem dX11_sumSign_3 : decode cX11_sumSign 3 = .ok (.if_icmp .ne 7, 3) := by decide +kernel
theorem dX11_sumSign_6 : decode cX11_sumSign 6 = .ok (.iconst 2, 1) := by decide +kernel
theorem dX11_sumSign_7 : decode cX11_sumSign 7 = .ok (.goto 45, 3) := by decide +kernel
theorem dX11_sumSign_10 : decode cX11_sumSign 10 = .ok (.iload_n 0, 1) := by decide +kernel
theorem dX11_sumSign_11 : decode cX11_sumSign 11 = .ok (.bipush 45, 2) := by decide +kernel
theorem dX11_sumSign_13 : decode cX11_sumSign 13 = .ok (.if_icmp .ne 7, 3) := by decide +kernel
theorem dX11_sumSign_16 : decode cX11_sumSign 16 = .ok (.iconst 3, 1) := by decide +kernel
theorem dX11_sumSign_17 : decode cX11_sumSign 17 = .ok (.goto 35, 3) := by decide +kernel
theorem dX11_sumSign_20 : decode cX11_sumSign 20 = .ok (.iload_n 0, 1) := by decide +kernel
theorem dX11_sumSign_21 : decode cX11_sumSign 21 = .ok (.bipush 42, 2) := by decide +kernel
theorem dX11_sumSign_23 : decode cX11_sumSign 23 = .ok (.if_icmp .ne 7, 3) := by decide +kernel
theorem dX11_sumSign_26 : decode cX11_sumSign 26 = .ok (.iconst 4, 1) := by decide +kernel
theorem dX11_sumSign_27 : decode cX11_sumSign 27 = .ok (.goto 25, 3) := by decide +kernel
theorem dX11_sumSign_30 : decode cX11_sumSign 30 = .ok (.iload_n 0, 1) := by decide +kernel
theorem dX11_sumSign_31 : decode cX11_sumSign 31 = .ok (.bipush 47, 2) := by decide +kernel
theorem dX11_sumSign_33 : decode cX11_sumSign 33 = .ok (.if_icmp .ne 7, 3) := by decide +kernel
theorem dX11_sumSign_36 : decode cX11_sumSign 36 = .ok (.iconst 5, 1) := by decide +kernel
theorem dX11_sumSign_37 : decode cX11_sumSign 37 = .ok (.goto 15, 3) := by decide +kernel
theorem dX11_sumSign_40 : decode cX11_sumSign 40 = .ok (.iload_n 0, 1) := by decide +kernel
theorem dX11_sumSign_41 : decode cX11_sumSign 41 = .ok (.bipush 37, 2) := by decide +kernel
theorem dX11_sumSign_43 : decode cX11_sumSign 43 = .ok (.if_icmp .ne 8, 3) := by decide +kernel
theorem dX11_sumSign_46 : decode cX11_sumSign 46 = .ok (.bipush 6, 2) := by decide +kernel
theorem dX11_sumSign_48 : decode cX11_sumSign 48 = .ok (.goto 4, 3) := by decide +kernel
theorem dX11_sumSign_51 : decode cX11_sumSign 51 = .ok (.iconst (-1), 1) := by decide +kernel
theorem dX11_sumSign_52 : decode cX11_sumSign 52 = .ok (.ireturn, 1) := by decide +kernel
theorem dX11_closesSums_0 : decode cX11_closesSums 0 = .ok (.aload_n 0, 1) := by decide +kernel
theorem dX11_closesSums_1 : decode cX11_closesSums 1 = .ok (.invokevirtual 238, 3) := by decide +kernel
theorem dX11_closesSums_4 : decode cX11_closesSums 4 = .ok (.iconst 4, 1) := by decide +kernel
theorem dX11_closesSums_5 : decode cX11_closesSums 5 = .ok (.if_icmp .lt 12, 3) := by decide +kernel
theorem dX11_closesSums_8 : decode cX11_closesSums 8 = .ok (.aload_n 0, 1) := by decide +kernel
theorem dX11_closesSums_9 : decode cX11_closesSums 9 = .ok (.invokevirtual 238, 3) := by decide +kernel
theorem dX11_closesSums_12 : decode cX11_closesSums 12 = .ok (.bipush 6, 2) := by decide +kernel
theorem dX11_closesSums_14 : decode cX11_closesSums 14 = .ok (.if_icmp .le 23, 3) := by decide +kernel
theorem dX11_closesSums_17 : decode cX11_closesSums 17 = .ok (.iload_n 1, 1) := by decide +kernel
theorem dX11_closesSums_18 : decode cX11_closesSums 18 = .ok (.ifCond .eq 41, 3) := by decide +kernel
theorem dX11_closesSums_21 : decode cX11_closesSums 21 = .ok (.aload_n 0, 1) := by decide +kernel
theorem dX11_closesSums_22 : decode cX11_closesSums 22 = .ok (.invokevirtual 238, 3) := by decide +kernel
theorem dX11_closesSums_25 : decode cX11_closesSums 25 = .ok (.iconst 2, 1) := by decide +kernel
theorem dX11_closesSums_26 : decode cX11_closesSums 26 = .ok (.if_icmp .eq 11, 3) := by decide +kernel
theorem dX11_closesSums_29 : decode cX11_closesSums 29 = .ok (.aload_n 0, 1) := by decide +kernel
theorem dX11_closesSums_30 : decode cX11_closesSums 30 = .ok (.invokevirtual 238, 3) := by decide +kernel
theorem dX11_closesSums_33 : decode cX11_closesSums 33 = .ok (.iconst 3, 1) := by decide +kernel
theorem dX11_closesSums_34 : decode cX11_closesSums 34 = .ok (.if_icmp .ne 25, 3) := by decide +kernel
theorem dX11_closesSums_37 : decode cX11_closesSums 37 = .ok (.aload_n 0, 1) := by decide +kernel
theorem dX11_closesSums_38 : decode cX11_closesSums 38 = .ok (.aload_n 0, 1) := by decide +kernel
theorem dX11_closesSums_39 : decode cX11_closesSums 39 = .ok (.invokevirtual 238, 3) := by decide +kernel
theorem dX11_closesSums_42 : decode cX11_closesSums 42 = .ok (.iconst 0, 1) := by decide +kernel
theorem dX11_closesSums_43 : decode cX11_closesSums 43 = .ok (.invokevirtual 241, 3) := by decide +kernel
theorem dX11_closesSums_46 : decode cX11_closesSums 46 = .ok (.aload_n 0, 1) := by decide +kernel
theorem dX11_closesSums_47 : decode cX11_closesSums 47 = .ok (.aload_n 0, 1) := by decide +kernel
theorem dX11_closesSums_48 : decode cX11_closesSums 48 = .ok (.getfield 235, 3) := by decide +kernel
theorem dX11_closesSums_51 : decode cX11_closesSums 51 = .ok (.iconst 1, 1) := by decide +kernel
theorem dX11_closesSums_52 : decode cX11_closesSums 52 = .ok (.isub, 1) := by decide +kernel
theorem dX11_closesSums_53 : decode cX11_closesSums 53 = .ok (.putfield 235, 3) := by decide +kernel
theorem dX11_closesSums_56 : decode cX11_closesSums 56 = .ok (.goto (-56), 3) := by decide +kernel
theorem dX11_closesSums_59 : decode cX11_closesSums 59 = .ok (.return_, 1) := by decide +kernel
theorem dX11_readsFactor_0 : decode cX11_readsFactor 0 = .ok (.aload_n 0, 1) := by decide +kernel
theorem dX11_readsFactor_1 : decode cX11_readsFactor 1 = .ok (.invokevirtual 211, 3) := by decide +kernel
theorem dX11_readsFactor_4 : decode cX11_readsFactor 4 = .ok (.bipush 91, 2) := by decide +kernel
theorem dX11_readsFactor_6 : decode cX11_readsFactor 6 = .ok (.if_icmp .ne 14, 3) := by decide +kernel
theorem dX11_readsFactor_9 : decode cX11_readsFactor 9 = .ok (.aload_n 0, 1) := by decide +kernel
theorem dX11_readsFactor_10 : decode cX11_readsFactor 10 = .ok (.bipush 14, 2) := by decide +kernel
theorem dX11_readsFactor_12 : decode cX11_readsFactor 12 = .ok (.invokevirtual 244, 3) := by decide +kernel
theorem dX11_readsFactor_15 : decode cX11_readsFactor 15 = .ok (.ifCond .ne (-15), 3) := by decide +kernel
theorem dX11_readsFactor_18 : decode cX11_readsFactor 18 = .ok (.iconst 0, 1) := by decide +kernel
theorem dX11_readsFactor_19 : decode cX11_readsFactor 19 = .ok (.ireturn, 1) := by decide +kernel
theorem dX11_readsFactor_20 : decode cX11_readsFactor 20 = .ok (.aload_n 0, 1) := by decide +kernel
theorem dX11_readsFactor_21 : decode cX11_readsFactor 21 = .ok (.invokevirtual 224, 3) := by decide +kernel
theorem dX11_readsFactor_24 : decode cX11_readsFactor 24 = .ok (.ifCond .eq 23, 3) := by decide +kernel
theorem dX11_readsFactor_27 : decode cX11_readsFactor 27 = .ok (.aload_n 0, 1) := by decide +kernel
theorem dX11_readsFactor_28 : decode cX11_readsFactor 28 = .ok (.invokevirtual 247, 3) := by decide +kernel
theorem dX11_readsFactor_31 : decode cX11_readsFactor 31 = .ok (.ifCond .ne 5, 3) := by decide +kernel
theorem dX11_readsFactor_34 : decode cX11_readsFactor 34 = .ok (.iconst 0, 1) := by decide +kernel
theorem dX11_readsFactor_35 : decode cX11_readsFactor 35 = .ok (.ireturn, 1) := by decide +kernel
theorem dX11_readsFactor_36 : decode cX11_readsFactor 36 = .ok (.aload_n 0, 1) := by decide +kernel
theorem dX11_readsFactor_37 : decode cX11_readsFactor 37 = .ok (.iconst 0, 1) := by decide +kernel
theorem dX11_readsFactor_38 : decode cX11_readsFactor 38 = .ok (.aload_n 0, 1) := by decide +kernel
theorem dX11_readsFactor_39 : decode cX11_readsFactor 39 = .ok (.getfield 221, 3) := by decide +kernel
theorem dX11_readsFactor_42 : decode cX11_readsFactor 42 = .ok (.invokevirtual 241, 3) := by decide +kernel
theorem dX11_readsFactor_45 : decode cX11_readsFactor 45 = .ok (.iconst 1, 1) := by decide +kernel
theorem dX11_readsFactor_46 : decode cX11_readsFactor 46 = .ok (.ireturn, 1) := by decide +kernel
theorem dX11_readsFactor_47 : decode cX11_readsFactor 47 = .ok (.aload_n 0, 1) := by decide +kernel
theorem dX11_readsFactor_48 : decode cX11_readsFactor 48 = .ok (.invokevirtual 211, 3) := by decide +kernel
theorem dX11_readsFactor_51 : decode cX11_readsFactor 51 = .ok (.invokestatic 250, 3) := by decide +kernel
theorem dX11_readsFactor_54 : decode cX11_readsFactor 54 = .ok (.istore_n 1, 1) := by decide +kernel
theorem dX11_readsFactor_55 : decode cX11_readsFactor 55 = .ok (.iload_n 1, 1) := by decide +kernel
theorem dX11_readsFactor_56 : decode cX11_readsFactor 56 = .ok (.iconst (-1), 1) := by decide +kernel
theorem dX11_readsFactor_57 : decode cX11_readsFactor 57 = .ok (.if_icmp .ne 13, 3) := by decide +kernel
theorem dX11_readsFactor_60 : decode cX11_readsFactor 60 = .ok (.aload_n 0, 1) := by decide +kernel
theorem dX11_readsFactor_61 : decode cX11_readsFactor 61 = .ok (.iconst 1, 1) := by decide +kernel
theorem dX11_readsFactor_62 : decode cX11_readsFactor 62 = .ok (.aload_n 0, 1) := by decide +kernel
theorem dX11_readsFactor_63 : decode cX11_readsFactor 63 = .ok (.getfield 205, 3) := by decide +kernel
theorem dX11_readsFactor_66 : decode cX11_readsFactor 66 = .ok (.invokevirtual 218, 3) := by decide +kernel
theorem dX11_readsFactor_69 : decode cX11_readsFactor 69 = .ok (.ireturn, 1) := by decide +kernel
theorem dX11_readsFactor_70 : decode cX11_readsFactor 70 = .ok (.aload_n 0, 1) := by decide +kernel
theorem dX11_readsFactor_71 : decode cX11_readsFactor 71 = .ok (.iconst 1, 1) := by decide +kernel
theorem dX11_readsFactor_72 : decode cX11_readsFactor 72 = .ok (.iload_n 1, 1) := by decide +kernel
theorem dX11_readsFactor_73 : decode cX11_readsFactor 73 = .ok (.invokevirtual 241, 3) := by decide +kernel
theorem dX11_readsFactor_76 : decode cX11_readsFactor 76 = .ok (.aload_n 0, 1) := by decide +kernel
theorem dX11_readsFactor_77 : decode cX11_readsFactor 77 = .ok (.aload_n 0, 1) := by decide +kernel
theorem dX11_readsFactor_78 : decode cX11_readsFactor 78 = .ok (.getfield 205, 3) := by decide +kernel
theorem dX11_readsFactor_81 : decode cX11_readsFactor 81 = .ok (.iconst 1, 1) := by decide +kernel
theorem dX11_readsFactor_82 : decode cX11_readsFactor 82 = .ok (.iadd, 1) := by decide +kernel
theorem dX11_readsFactor_83 : decode cX11_readsFactor 83 = .ok (.putfield 205, 3) := by decide +kernel
theorem dX11_readsFactor_86 : decode cX11_readsFactor 86 = .ok (.iconst 1, 1) := by decide +kernel
theorem dX11_readsFactor_87 : decode cX11_readsFactor 87 = .ok (.ireturn, 1) := by decide +kernel
theorem dX11_hasOpenSum_0 : decode cX11_hasOpenSum 0 = .ok (.iload_n 1, 1) := by decide +kernel
theorem dX11_hasOpenSum_1 : decode cX11_hasOpenSum 1 = .ok (.istore_n 2, 1) := by decide +kernel
theorem dX11_hasOpenSum_2 : decode cX11_hasOpenSum 2 = .ok (.iload_n 2, 1) := by decide +kernel
theorem dX11_hasOpenSum_3 : decode cX11_hasOpenSum 3 = .ok (.aload_n 0, 1) := by decide +kernel
theorem dX11_hasOpenSum_4 : decode cX11_hasOpenSum 4 = .ok (.getfield 235, 3) := by decide +kernel
theorem dX11_hasOpenSum_7 : decode cX11_hasOpenSum 7 = .ok (.if_icmp .ge 25, 3) := by decide +kernel
theorem dX11_hasOpenSum_10 : decode cX11_hasOpenSum 10 = .ok (.aload_n 0, 1) := by decide +kernel
theorem dX11_hasOpenSum_11 : decode cX11_hasOpenSum 11 = .ok (.getfield 65, 3) := by decide +kernel
theorem dX11_hasOpenSum_14 : decode cX11_hasOpenSum 14 = .ok (.iload_n 2, 1) := by decide +kernel
theorem dX11_hasOpenSum_15 : decode cX11_hasOpenSum 15 = .ok (.iaload, 1) := by decide +kernel
theorem dX11_hasOpenSum_16 : decode cX11_hasOpenSum 16 = .ok (.ldc 231, 2) := by decide +kernel
theorem dX11_hasOpenSum_18 : decode cX11_hasOpenSum 18 = .ok (.idiv, 1) := by decide +kernel
theorem dX11_hasOpenSum_19 : decode cX11_hasOpenSum 19 = .ok (.bipush 14, 2) := by decide +kernel
theorem dX11_hasOpenSum_21 : decode cX11_hasOpenSum 21 = .ok (.if_icmp .ne 5, 3) := by decide +kernel
theorem dX11_hasOpenSum_24 : decode cX11_hasOpenSum 24 = .ok (.iconst 1, 1) := by decide +kernel
theorem dX11_hasOpenSum_25 : decode cX11_hasOpenSum 25 = .ok (.ireturn, 1) := by decide +kernel
theorem dX11_hasOpenSum_26 : decode cX11_hasOpenSum 26 = .ok (.iinc 2 1, 3) := by decide +kernel
theorem dX11_hasOpenSum_29 : decode cX11_hasOpenSum 29 = .ok (.goto (-27), 3) := by decide +kernel
theorem dX11_hasOpenSum_32 : decode cX11_hasOpenSum 32 = .ok (.iconst 0, 1) := by decide +kernel
theorem dX11_hasOpenSum_33 : decode cX11_hasOpenSum 33 = .ok (.ireturn, 1) := by decide +kernel
theorem dX11_readsSum_0 : decode cX11_readsSum 0 = .ok (.aload_n 0, 1) := by decide +kernel
theorem dX11_readsSum_1 : decode cX11_readsSum 1 = .ok (.getfield 235, 3) := by decide +kernel
theorem dX11_readsSum_4 : decode cX11_readsSum 4 = .ok (.istore_n 1, 1) := by decide +kernel
theorem dX11_readsSum_5 : decode cX11_readsSum 5 = .ok (.aload_n 0, 1) := by decide +kernel
theorem dX11_readsSum_6 : decode cX11_readsSum 6 = .ok (.invokevirtual 253, 3) := by decide +kernel
theorem dX11_readsSum_9 : decode cX11_readsSum 9 = .ok (.ifCond .ne 5, 3) := by decide +kernel
theorem dX11_readsSum_12 : decode cX11_readsSum 12 = .ok (.iconst 0, 1) := by decide +kernel
theorem dX11_readsSum_13 : decode cX11_readsSum 13 = .ok (.ireturn, 1) := by decide +kernel
theorem dX11_readsSum_14 : decode cX11_readsSum 14 = .ok (.aload_n 0, 1) := by decide +kernel
theorem dX11_readsSum_15 : decode cX11_readsSum 15 = .ok (.invokevirtual 211, 3) := by decide +kernel
theorem dX11_readsSum_18 : decode cX11_readsSum 18 = .ok (.invokestatic 256, 3) := by decide +kernel
theorem dX11_readsSum_21 : decode cX11_readsSum 21 = .ok (.istore_n 2, 1) := by decide +kernel
theorem dX11_readsSum_22 : decode cX11_readsSum 22 = .ok (.iload_n 2, 1) := by decide +kernel
theorem dX11_readsSum_23 : decode cX11_readsSum 23 = .ok (.iconst (-1), 1) := by decide +kernel
theorem dX11_readsSum_24 : decode cX11_readsSum 24 = .ok (.if_icmp .eq 59, 3) := by decide +kernel
theorem dX11_readsSum_27 : decode cX11_readsSum 27 = .ok (.aload_n 0, 1) := by decide +kernel
theorem dX11_readsSum_28 : decode cX11_readsSum 28 = .ok (.iload_n 2, 1) := by decide +kernel
theorem dX11_readsSum_29 : decode cX11_readsSum 29 = .ok (.iconst 4, 1) := by decide +kernel
theorem dX11_readsSum_30 : decode cX11_readsSum 30 = .ok (.if_icmp .ge 7, 3) := by decide +kernel
theorem dX11_readsSum_33 : decode cX11_readsSum 33 = .ok (.iconst 1, 1) := by decide +kernel
theorem dX11_readsSum_34 : decode cX11_readsSum 34 = .ok (.goto 4, 3) := by decide +kernel
theorem dX11_readsSum_37 : decode cX11_readsSum 37 = .ok (.iconst 0, 1) := by decide +kernel
theorem dX11_readsSum_38 : decode cX11_readsSum 38 = .ok (.invokevirtual 259, 3) := by decide +kernel
theorem dX11_readsSum_41 : decode cX11_readsSum 41 = .ok (.aload_n 0, 1) := by decide +kernel
theorem dX11_readsSum_42 : decode cX11_readsSum 42 = .ok (.getfield 65, 3) := by decide +kernel
theorem dX11_readsSum_45 : decode cX11_readsSum 45 = .ok (.aload_n 0, 1) := by decide +kernel
theorem dX11_readsSum_46 : decode cX11_readsSum 46 = .ok (.getfield 235, 3) := by decide +kernel
theorem dX11_readsSum_49 : decode cX11_readsSum 49 = .ok (.ldc 231, 2) := by decide +kernel
theorem dX11_readsSum_51 : decode cX11_readsSum 51 = .ok (.iload_n 2, 1) := by decide +kernel
theorem dX11_readsSum_52 : decode cX11_readsSum 52 = .ok (.imul, 1) := by decide +kernel
theorem dX11_readsSum_53 : decode cX11_readsSum 53 = .ok (.iastore, 1) := by decide +kernel
theorem dX11_readsSum_54 : decode cX11_readsSum 54 = .ok (.aload_n 0, 1) := by decide +kernel
theorem dX11_readsSum_55 : decode cX11_readsSum 55 = .ok (.aload_n 0, 1) := by decide +kernel
theorem dX11_readsSum_56 : decode cX11_readsSum 56 = .ok (.getfield 235, 3) := by decide +kernel
theorem dX11_readsSum_59 : decode cX11_readsSum 59 = .ok (.iconst 1, 1) := by decide +kernel
theorem dX11_readsSum_60 : decode cX11_readsSum 60 = .ok (.iadd, 1) := by decide +kernel
theorem dX11_readsSum_61 : decode cX11_readsSum 61 = .ok (.putfield 235, 3) := by decide +kernel
theorem dX11_readsSum_64 : decode cX11_readsSum 64 = .ok (.aload_n 0, 1) := by decide +kernel
theorem dX11_readsSum_65 : decode cX11_readsSum 65 = .ok (.aload_n 0, 1) := by decide +kernel
theorem dX11_readsSum_66 : decode cX11_readsSum 66 = .ok (.getfield 205, 3) := by decide +kernel
theorem dX11_readsSum_69 : decode cX11_readsSum 69 = .ok (.iconst 1, 1) := by decide +kernel
theorem dX11_readsSum_70 : decode cX11_readsSum 70 = .ok (.iadd, 1) := by decide +kernel
theorem dX11_readsSum_71 : decode cX11_readsSum 71 = .ok (.putfield 205, 3) := by decide +kernel
theorem dX11_readsSum_74 : decode cX11_readsSum 74 = .ok (.aload_n 0, 1) := by decide +kernel
theorem dX11_readsSum_75 : decode cX11_readsSum 75 = .ok (.invokevirtual 253, 3) := by decide +kernel
theorem dX11_readsSum_78 : decode cX11_readsSum 78 = .ok (.ifCond .ne 85, 3) := by decide +kernel
theorem dX11_readsSum_81 : decode cX11_readsSum 81 = .ok (.iconst 0, 1) := by decide +kernel
theorem dX11_readsSum_82 : decode cX11_readsSum 82 = .ok (.ireturn, 1) := by decide +kernel
theorem dX11_readsSum_83 : decode cX11_readsSum 83 = .ok (.aload_n 0, 1) := by decide +kernel
theorem dX11_readsSum_84 : decode cX11_readsSum 84 = .ok (.invokevirtual 211, 3) := by decide +kernel
theorem dX11_readsSum_87 : decode cX11_readsSum 87 = .ok (.bipush 93, 2) := by decide +kernel
theorem dX11_readsSum_89 : decode cX11_readsSum 89 = .ok (.if_icmp .ne 49, 3) := by decide +kernel
theorem dX11_readsSum_92 : decode cX11_readsSum 92 = .ok (.aload_n 0, 1) := by decide +kernel
theorem dX11_readsSum_93 : decode cX11_readsSum 93 = .ok (.iload_n 1, 1) := by decide +kernel
theorem dX11_readsSum_94 : decode cX11_readsSum 94 = .ok (.invokevirtual 263, 3) := by decide +kernel
theorem dX11_readsSum_97 : decode cX11_readsSum 97 = .ok (.ifCond .eq 41, 3) := by decide +kernel
theorem dX11_readsSum_100 : decode cX11_readsSum 100 = .ok (.aload_n 0, 1) := by decide +kernel
theorem dX11_readsSum_101 : decode cX11_readsSum 101 = .ok (.iconst 1, 1) := by decide +kernel
theorem dX11_readsSum_102 : decode cX11_readsSum 102 = .ok (.invokevirtual 259, 3) := by decide +kernel
theorem dX11_readsSum_105 : decode cX11_readsSum 105 = .ok (.aload_n 0, 1) := by decide +kernel
theorem dX11_readsSum_106 : decode cX11_readsSum 106 = .ok (.aload_n 0, 1) := by decide +kernel
theorem dX11_readsSum_107 : decode cX11_readsSum 107 = .ok (.getfield 235, 3) := by decide +kernel
theorem dX11_readsSum_110 : decode cX11_readsSum 110 = .ok (.iconst 1, 1) := by decide +kernel
theorem dX11_readsSum_111 : decode cX11_readsSum 111 = .ok (.isub, 1) := by decide +kernel
theorem dX11_readsSum_112 : decode cX11_readsSum 112 = .ok (.putfield 235, 3) := by decide +kernel
theorem dX11_readsSum_115 : decode cX11_readsSum 115 = .ok (.aload_n 0, 1) := by decide +kernel
theorem dX11_readsSum_116 : decode cX11_readsSum 116 = .ok (.aload_n 0, 1) := by decide +kernel
theorem dX11_readsSum_117 : decode cX11_readsSum 117 = .ok (.getfield 232, 3) := by decide +kernel
theorem dX11_readsSum_120 : decode cX11_readsSum 120 = .ok (.iconst 1, 1) := by decide +kernel
theorem dX11_readsSum_121 : decode cX11_readsSum 121 = .ok (.isub, 1) := by decide +kernel
theorem dX11_readsSum_122 : decode cX11_readsSum 122 = .ok (.putfield 232, 3) := by decide +kernel
theorem dX11_readsSum_125 : decode cX11_readsSum 125 = .ok (.aload_n 0, 1) := by decide +kernel
theorem dX11_readsSum_126 : decode cX11_readsSum 126 = .ok (.aload_n 0, 1) := by decide +kernel
theorem dX11_readsSum_127 : decode cX11_readsSum 127 = .ok (.getfield 205, 3) := by decide +kernel
theorem dX11_readsSum_130 : decode cX11_readsSum 130 = .ok (.iconst 1, 1) := by decide +kernel
theorem dX11_readsSum_131 : decode cX11_readsSum 131 = .ok (.iadd, 1) := by decide +kernel
theorem dX11_readsSum_132 : decode cX11_readsSum 132 = .ok (.putfield 205, 3) := by decide +kernel
theorem dX11_readsSum_135 : decode cX11_readsSum 135 = .ok (.goto 28, 3) := by decide +kernel
theorem dX11_readsSum_138 : decode cX11_readsSum 138 = .ok (.aload_n 0, 1) := by decide +kernel
theorem dX11_readsSum_139 : decode cX11_readsSum 139 = .ok (.iload_n 1, 1) := by decide +kernel
theorem dX11_readsSum_140 : decode cX11_readsSum 140 = .ok (.invokevirtual 263, 3) := by decide +kernel
theorem dX11_readsSum_143 : decode cX11_readsSum 143 = .ok (.ifCond .eq 13, 3) := by decide +kernel
theorem dX11_readsSum_146 : decode cX11_readsSum 146 = .ok (.aload_n 0, 1) := by decide +kernel
theorem dX11_readsSum_147 : decode cX11_readsSum 147 = .ok (.iconst 1, 1) := by decide +kernel
theorem dX11_readsSum_148 : decode cX11_readsSum 148 = .ok (.aload_n 0, 1) := by decide +kernel
theorem dX11_readsSum_149 : decode cX11_readsSum 149 = .ok (.getfield 205, 3) := by decide +kernel
theorem dX11_readsSum_152 : decode cX11_readsSum 152 = .ok (.invokevirtual 218, 3) := by decide +kernel
theorem dX11_readsSum_155 : decode cX11_readsSum 155 = .ok (.ireturn, 1) := by decide +kernel
theorem dX11_readsSum_156 : decode cX11_readsSum 156 = .ok (.aload_n 0, 1) := by decide +kernel
theorem dX11_readsSum_157 : decode cX11_readsSum 157 = .ok (.iconst 1, 1) := by decide +kernel
theorem dX11_readsSum_158 : decode cX11_readsSum 158 = .ok (.invokevirtual 259, 3) := by decide +kernel
theorem dX11_readsSum_161 : decode cX11_readsSum 161 = .ok (.iconst 1, 1) := by decide +kernel
theorem dX11_readsSum_162 : decode cX11_readsSum 162 = .ok (.ireturn, 1) := by decide +kernel
theorem dX11_readsSum_163 : decode cX11_readsSum 163 = .ok (.goto (-149), 3) := by decide +kernel
theorem dX11_endsPiece_0 : decode cX11_endsPiece 0 = .ok (.aload_n 0, 1) := by decide +kernel
theorem dX11_endsPiece_1 : decode cX11_endsPiece 1 = .ok (.invokevirtual 238, 3) := by decide +kernel
theorem dX11_endsPiece_4 : decode cX11_endsPiece 4 = .ok (.bipush 10, 2) := by decide +kernel
theorem dX11_endsPiece_6 : decode cX11_endsPiece 6 = .ok (.if_icmp .ne 33, 3) := by decide +kernel
theorem dX11_endsPiece_9 : decode cX11_endsPiece 9 = .ok (.aload_n 0, 1) := by decide +kernel
theorem dX11_endsPiece_10 : decode cX11_endsPiece 10 = .ok (.bipush 10, 2) := by decide +kernel
theorem dX11_endsPiece_12 : decode cX11_endsPiece 12 = .ok (.iconst 0, 1) := by decide +kernel
theorem dX11_endsPiece_13 : decode cX11_endsPiece 13 = .ok (.invokevirtual 241, 3) := by decide +kernel
theorem dX11_endsPiece_16 : decode cX11_endsPiece 16 = .ok (.aload_n 0, 1) := by decide +kernel
theorem dX11_endsPiece_17 : decode cX11_endsPiece 17 = .ok (.aload_n 0, 1) := by decide +kernel
theorem dX11_endsPiece_18 : decode cX11_endsPiece 18 = .ok (.getfield 235, 3) := by decide +kernel
theorem dX11_endsPiece_21 : decode cX11_endsPiece 21 = .ok (.iconst 1, 1) := by decide +kernel
theorem dX11_endsPiece_22 : decode cX11_endsPiece 22 = .ok (.isub, 1) := by decide +kernel
theorem dX11_endsPiece_23 : decode cX11_endsPiece 23 = .ok (.putfield 235, 3) := by decide +kernel
theorem dX11_endsPiece_26 : decode cX11_endsPiece 26 = .ok (.aload_n 0, 1) := by decide +kernel
theorem dX11_endsPiece_27 : decode cX11_endsPiece 27 = .ok (.aload_n 0, 1) := by decide +kernel
theorem dX11_endsPiece_28 : decode cX11_endsPiece 28 = .ok (.getfield 232, 3) := by decide +kernel
theorem dX11_endsPiece_31 : decode cX11_endsPiece 31 = .ok (.iconst 1, 1) := by decide +kernel
theorem dX11_endsPiece_32 : decode cX11_endsPiece 32 = .ok (.isub, 1) := by decide +kernel
theorem dX11_endsPiece_33 : decode cX11_endsPiece 33 = .ok (.putfield 232, 3) := by decide +kernel
theorem dX11_endsPiece_36 : decode cX11_endsPiece 36 = .ok (.goto (-36), 3) := by decide +kernel
theorem dX11_endsPiece_39 : decode cX11_endsPiece 39 = .ok (.return_, 1) := by decide +kernel
theorem dX11_lands_0 : decode cX11_lands 0 = .ok (.aload_n 0, 1) := by decide +kernel
theorem dX11_lands_1 : decode cX11_lands 1 = .ok (.invokevirtual 238, 3) := by decide +kernel
theorem dX11_lands_4 : decode cX11_lands 4 = .ok (.bipush 11, 2) := by decide +kernel
theorem dX11_lands_6 : decode cX11_lands 6 = .ok (.if_icmp .eq 16, 3) := by decide +kernel
theorem dX11_lands_9 : decode cX11_lands 9 = .ok (.iload_n 1, 1) := by decide +kernel
theorem dX11_lands_10 : decode cX11_lands 10 = .ok (.ifCond .eq 63, 3) := by decide +kernel
theorem dX11_lands_13 : decode cX11_lands 13 = .ok (.aload_n 0, 1) := by decide +kernel
theorem dX11_lands_14 : decode cX11_lands 14 = .ok (.invokevirtual 238, 3) := by decide +kernel
theorem dX11_lands_17 : decode cX11_lands 17 = .ok (.bipush 12, 2) := by decide +kernel
theorem dX11_lands_19 : decode cX11_lands 19 = .ok (.if_icmp .ne 54, 3) := by decide +kernel
theorem dX11_lands_22 : decode cX11_lands 22 = .ok (.aload_n 0, 1) := by decide +kernel
theorem dX11_lands_23 : decode cX11_lands 23 = .ok (.getfield 65, 3) := by decide +kernel
theorem dX11_lands_26 : decode cX11_lands 26 = .ok (.aload_n 0, 1) := by decide +kernel
theorem dX11_lands_27 : decode cX11_lands 27 = .ok (.getfield 235, 3) := by decide +kernel
theorem dX11_lands_30 : decode cX11_lands 30 = .ok (.iconst 1, 1) := by decide +kernel
theorem dX11_lands_31 : decode cX11_lands 31 = .ok (.isub, 1) := by decide +kernel
theorem dX11_lands_32 : decode cX11_lands 32 = .ok (.iaload, 1) := by decide +kernel
theorem dX11_lands_33 : decode cX11_lands 33 = .ok (.ldc 231, 2) := by decide +kernel
theorem dX11_lands_35 : decode cX11_lands 35 = .ok (.irem, 1) := by decide +kernel
theorem dX11_lands_36 : decode cX11_lands 36 = .ok (.istore_n 2, 1) := by decide +kernel
theorem dX11_lands_37 : decode cX11_lands 37 = .ok (.aload_n 0, 1) := by decide +kernel
theorem dX11_lands_38 : decode cX11_lands 38 = .ok (.getfield 62, 3) := by decide +kernel
theorem dX11_lands_41 : decode cX11_lands 41 = .ok (.iload_n 2, 1) := by decide +kernel
theorem dX11_lands_42 : decode cX11_lands 42 = .ok (.ldc 231, 2) := by decide +kernel
theorem dX11_lands_44 : decode cX11_lands 44 = .ok (.aload_n 0, 1) := by decide +kernel
theorem dX11_lands_45 : decode cX11_lands 45 = .ok (.getfield 62, 3) := by decide +kernel
theorem dX11_lands_48 : decode cX11_lands 48 = .ok (.iload_n 2, 1) := by decide +kernel
theorem dX11_lands_49 : decode cX11_lands 49 = .ok (.iaload, 1) := by decide +kernel
theorem dX11_lands_50 : decode cX11_lands 50 = .ok (.ldc 231, 2) := by decide +kernel
theorem dX11_lands_52 : decode cX11_lands 52 = .ok (.idiv, 1) := by decide +kernel
theorem dX11_lands_53 : decode cX11_lands 53 = .ok (.imul, 1) := by decide +kernel
theorem dX11_lands_54 : decode cX11_lands 54 = .ok (.aload_n 0, 1) := by decide +kernel
theorem dX11_lands_55 : decode cX11_lands 55 = .ok (.getfield 228, 3) := by decide +kernel
theorem dX11_lands_58 : decode cX11_lands 58 = .ok (.iadd, 1) := by decide +kernel
theorem dX11_lands_59 : decode cX11_lands 59 = .ok (.iastore, 1) := by decide +kernel
theorem dX11_lands_60 : decode cX11_lands 60 = .ok (.aload_n 0, 1) := by decide +kernel
theorem dX11_lands_61 : decode cX11_lands 61 = .ok (.aload_n 0, 1) := by decide +kernel
theorem dX11_lands_62 : decode cX11_lands 62 = .ok (.getfield 235, 3) := by decide +kernel
theorem dX11_lands_65 : decode cX11_lands 65 = .ok (.iconst 1, 1) := by decide +kernel
theorem dX11_lands_66 : decode cX11_lands 66 = .ok (.isub, 1) := by decide +kernel
theorem dX11_lands_67 : decode cX11_lands 67 = .ok (.putfield 235, 3) := by decide +kernel
theorem dX11_lands_70 : decode cX11_lands 70 = .ok (.goto (-70), 3) := by decide +kernel
theorem dX11_lands_73 : decode cX11_lands 73 = .ok (.return_, 1) := by decide +kernel
theorem dX11_jumps_0 : decode cX11_jumps 0 = .ok (.aload_n 0, 1) := by decide +kernel
theorem dX11_jumps_1 : decode cX11_jumps 1 = .ok (.getfield 65, 3) := by decide +kernel
theorem dX11_jumps_4 : decode cX11_jumps 4 = .ok (.aload_n 0, 1) := by decide +kernel
theorem dX11_jumps_5 : decode cX11_jumps 5 = .ok (.getfield 235, 3) := by decide +kernel
theorem dX11_jumps_8 : decode cX11_jumps 8 = .ok (.ldc 231, 2) := by decide +kernel
theorem dX11_jumps_10 : decode cX11_jumps 10 = .ok (.iload_n 1, 1) := by decide +kernel
theorem dX11_jumps_11 : decode cX11_jumps 11 = .ok (.imul, 1) := by decide +kernel
theorem dX11_jumps_12 : decode cX11_jumps 12 = .ok (.aload_n 0, 1) := by decide +kernel
theorem dX11_jumps_13 : decode cX11_jumps 13 = .ok (.getfield 228, 3) := by decide +kernel
theorem dX11_jumps_16 : decode cX11_jumps 16 = .ok (.iadd, 1) := by decide +kernel
theorem dX11_jumps_17 : decode cX11_jumps 17 = .ok (.iastore, 1) := by decide +kernel
theorem dX11_jumps_18 : decode cX11_jumps 18 = .ok (.aload_n 0, 1) := by decide +kernel
theorem dX11_jumps_19 : decode cX11_jumps 19 = .ok (.aload_n 0, 1) := by decide +kernel
theorem dX11_jumps_20 : decode cX11_jumps 20 = .ok (.getfield 235, 3) := by decide +kernel
theorem dX11_jumps_23 : decode cX11_jumps 23 = .ok (.iconst 1, 1) := by decide +kernel
theorem dX11_jumps_24 : decode cX11_jumps 24 = .ok (.iadd, 1) := by decide +kernel
theorem dX11_jumps_25 : decode cX11_jumps 25 = .ok (.putfield 235, 3) := by decide +kernel
theorem dX11_jumps_28 : decode cX11_jumps 28 = .ok (.aload_n 0, 1) := by decide +kernel
theorem dX11_jumps_29 : decode cX11_jumps 29 = .ok (.iload_n 1, 1) := by decide +kernel
theorem dX11_jumps_30 : decode cX11_jumps 30 = .ok (.iconst 0, 1) := by decide +kernel
theorem dX11_jumps_31 : decode cX11_jumps 31 = .ok (.invokevirtual 241, 3) := by decide +kernel
theorem dX11_jumps_34 : decode cX11_jumps 34 = .ok (.aload_n 0, 1) := by decide +kernel
theorem dX11_jumps_35 : decode cX11_jumps 35 = .ok (.aload_n 0, 1) := by decide +kernel
theorem dX11_jumps_36 : decode cX11_jumps 36 = .ok (.getfield 205, 3) := by decide +kernel
theorem dX11_jumps_39 : decode cX11_jumps 39 = .ok (.iconst 1, 1) := by decide +kernel
theorem dX11_jumps_40 : decode cX11_jumps 40 = .ok (.iadd, 1) := by decide +kernel
theorem dX11_jumps_41 : decode cX11_jumps 41 = .ok (.putfield 205, 3) := by decide +kernel
theorem dX11_jumps_44 : decode cX11_jumps 44 = .ok (.return_, 1) := by decide +kernel
theorem dX11_readsCompared_0 : decode cX11_readsCompared 0 = .ok (.aload_n 0, 1) := by decide +kernel
theorem dX11_readsCompared_1 : decode cX11_readsCompared 1 = .ok (.invokevirtual 266, 3) := by decide +kernel
theorem dX11_readsCompared_4 : decode cX11_readsCompared 4 = .ok (.ifCond .ne 5, 3) := by decide +kernel
theorem dX11_readsCompared_7 : decode cX11_readsCompared 7 = .ok (.iconst 0, 1) := by decide +kernel
theorem dX11_readsCompared_8 : decode cX11_readsCompared 8 = .ok (.ireturn, 1) := by decide +kernel
theorem dX11_readsCompared_9 : decode cX11_readsCompared 9 = .ok (.aload_n 0, 1) := by decide +kernel
theorem dX11_readsCompared_10 : decode cX11_readsCompared 10 = .ok (.invokevirtual 211, 3) := by decide +kernel
theorem dX11_readsCompared_13 : decode cX11_readsCompared 13 = .ok (.bipush 60, 2) := by decide +kernel
theorem dX11_readsCompared_15 : decode cX11_readsCompared 15 = .ok (.if_icmp .ne 8, 3) := by decide +kernel
theorem dX11_readsCompared_18 : decode cX11_readsCompared 18 = .ok (.bipush 7, 2) := by decide +kernel
theorem dX11_readsCompared_20 : decode cX11_readsCompared 20 = .ok (.goto 32, 3) := by decide +kernel
theorem dX11_readsCompared_23 : decode cX11_readsCompared 23 = .ok (.aload_n 0, 1) := by decide +kernel
theorem dX11_readsCompared_24 : decode cX11_readsCompared 24 = .ok (.invokevirtual 211, 3) := by decide +kernel
theorem dX11_readsCompared_27 : decode cX11_readsCompared 27 = .ok (.bipush 62, 2) := by decide +kernel
theorem dX11_readsCompared_29 : decode cX11_readsCompared 29 = .ok (.if_icmp .ne 8, 3) := by decide +kernel
theorem dX11_readsCompared_32 : decode cX11_readsCompared 32 = .ok (.bipush 8, 2) := by decide +kernel
theorem dX11_readsCompared_34 : decode cX11_readsCompared 34 = .ok (.goto 18, 3) := by decide +kernel
theorem dX11_readsCompared_37 : decode cX11_readsCompared 37 = .ok (.aload_n 0, 1) := by decide +kernel
theorem dX11_readsCompared_38 : decode cX11_readsCompared 38 = .ok (.invokevirtual 211, 3) := by decide +kernel
theorem dX11_readsCompared_41 : decode cX11_readsCompared 41 = .ok (.bipush 61, 2) := by decide +kernel
theorem dX11_readsCompared_43 : decode cX11_readsCompared 43 = .ok (.if_icmp .ne 8, 3) := by decide +kernel
theorem dX11_readsCompared_46 : decode cX11_readsCompared 46 = .ok (.bipush 9, 2) := by decide +kernel
theorem dX11_readsCompared_48 : decode cX11_readsCompared 48 = .ok (.goto 4, 3) := by decide +kernel
theorem dX11_readsCompared_51 : decode cX11_readsCompared 51 = .ok (.iconst (-1), 1) := by decide +kernel
theorem dX11_readsCompared_52 : decode cX11_readsCompared 52 = .ok (.istore_n 1, 1) := by decide +kernel
theorem dX11_readsCompared_53 : decode cX11_readsCompared 53 = .ok (.iload_n 1, 1) := by decide +kernel
theorem dX11_readsCompared_54 : decode cX11_readsCompared 54 = .ok (.iconst (-1), 1) := by decide +kernel
theorem dX11_readsCompared_55 : decode cX11_readsCompared 55 = .ok (.if_icmp .ne 13, 3) := by decide +kernel
theorem dX11_readsCompared_58 : decode cX11_readsCompared 58 = .ok (.aload_n 0, 1) := by decide +kernel
theorem dX11_readsCompared_59 : decode cX11_readsCompared 59 = .ok (.iconst 1, 1) := by decide +kernel
theorem dX11_readsCompared_60 : decode cX11_readsCompared 60 = .ok (.aload_n 0, 1) := by decide +kernel
theorem dX11_readsCompared_61 : decode cX11_readsCompared 61 = .ok (.getfield 205, 3) := by decide +kernel
theorem dX11_readsCompared_64 : decode cX11_readsCompared 64 = .ok (.invokevirtual 218, 3) := by decide +kernel
theorem dX11_readsCompared_67 : decode cX11_readsCompared 67 = .ok (.ireturn, 1) := by decide +kernel
theorem dX11_readsCompared_68 : decode cX11_readsCompared 68 = .ok (.aload_n 0, 1) := by decide +kernel
theorem dX11_readsCompared_69 : decode cX11_readsCompared 69 = .ok (.aload_n 0, 1) := by decide +kernel
theorem dX11_readsCompared_70 : decode cX11_readsCompared 70 = .ok (.getfield 205, 3) := by decide +kernel
theorem dX11_readsCompared_73 : decode cX11_readsCompared 73 = .ok (.iconst 1, 1) := by decide +kernel
theorem dX11_readsCompared_74 : decode cX11_readsCompared 74 = .ok (.iadd, 1) := by decide +kernel
theorem dX11_readsCompared_75 : decode cX11_readsCompared 75 = .ok (.putfield 205, 3) := by decide +kernel
theorem dX11_readsCompared_78 : decode cX11_readsCompared 78 = .ok (.aload_n 0, 1) := by decide +kernel
theorem dX11_readsCompared_79 : decode cX11_readsCompared 79 = .ok (.invokevirtual 266, 3) := by decide +kernel
theorem dX11_readsCompared_82 : decode cX11_readsCompared 82 = .ok (.ifCond .ne 5, 3) := by decide +kernel
theorem dX11_readsCompared_85 : decode cX11_readsCompared 85 = .ok (.iconst 0, 1) := by decide +kernel
theorem dX11_readsCompared_86 : decode cX11_readsCompared 86 = .ok (.ireturn, 1) := by decide +kernel
theorem dX11_readsCompared_87 : decode cX11_readsCompared 87 = .ok (.aload_n 0, 1) := by decide +kernel
theorem dX11_readsCompared_88 : decode cX11_readsCompared 88 = .ok (.iload_n 1, 1) := by decide +kernel
theorem dX11_readsCompared_89 : decode cX11_readsCompared 89 = .ok (.iconst 0, 1) := by decide +kernel
theorem dX11_readsCompared_90 : decode cX11_readsCompared 90 = .ok (.invokevirtual 241, 3) := by decide +kernel
theorem dX11_readsCompared_93 : decode cX11_readsCompared 93 = .ok (.aload_n 0, 1) := by decide +kernel
theorem dX11_readsCompared_94 : decode cX11_readsCompared 94 = .ok (.invokevirtual 269, 3) := by decide +kernel
theorem dX11_readsCompared_97 : decode cX11_readsCompared 97 = .ok (.iconst 1, 1) := by decide +kernel
theorem dX11_readsCompared_98 : decode cX11_readsCompared 98 = .ok (.ireturn, 1) := by decide +kernel
theorem dX11_readsCondition_0 : decode cX11_readsCondition 0 = .ok (.aload_n 0, 1) := by decide +kernel
theorem dX11_readsCondition_1 : decode cX11_readsCondition 1 = .ok (.invokevirtual 211, 3) := by decide +kernel
theorem dX11_readsCondition_4 : decode cX11_readsCondition 4 = .ok (.bipush 40, 2) := by decide +kernel
theorem dX11_readsCondition_6 : decode cX11_readsCondition 6 = .ok (.if_icmp .eq 13, 3) := by decide +kernel
theorem dX11_readsCondition_9 : decode cX11_readsCondition 9 = .ok (.aload_n 0, 1) := by decide +kernel
theorem dX11_readsCondition_10 : decode cX11_readsCondition 10 = .ok (.iconst 1, 1) := by decide +kernel
theorem dX11_readsCondition_11 : decode cX11_readsCondition 11 = .ok (.aload_n 0, 1) := by decide +kernel
theorem dX11_readsCondition_12 : decode cX11_readsCondition 12 = .ok (.getfield 205, 3) := by decide +kernel
theorem dX11_readsCondition_15 : decode cX11_readsCondition 15 = .ok (.invokevirtual 218, 3) := by decide +kernel
theorem dX11_readsCondition_18 : decode cX11_readsCondition 18 = .ok (.ireturn, 1) := by decide +kernel
theorem dX11_readsCondition_19 : decode cX11_readsCondition 19 = .ok (.aload_n 0, 1) := by decide +kernel
theorem dX11_readsCondition_20 : decode cX11_readsCondition 20 = .ok (.iconst 0, 1) := by decide +kernel
theorem dX11_readsCondition_21 : decode cX11_readsCondition 21 = .ok (.putfield 232, 3) := by decide +kernel
theorem dX11_readsCondition_24 : decode cX11_readsCondition 24 = .ok (.aload_n 0, 1) := by decide +kernel
theorem dX11_readsCondition_25 : decode cX11_readsCondition 25 = .ok (.iconst 0, 1) := by decide +kernel
theorem dX11_readsCondition_26 : decode cX11_readsCondition 26 = .ok (.putfield 235, 3) := by decide +kernel
theorem dX11_readsCondition_29 : decode cX11_readsCondition 29 = .ok (.aload_n 0, 1) := by decide +kernel
theorem dX11_readsCondition_30 : decode cX11_readsCondition 30 = .ok (.bipush 13, 2) := by decide +kernel
theorem dX11_readsCondition_32 : decode cX11_readsCondition 32 = .ok (.invokevirtual 244, 3) := by decide +kernel
theorem dX11_readsCondition_35 : decode cX11_readsCondition 35 = .ok (.ifCond .ne 5, 3) := by decide +kernel
theorem dX11_readsCondition_38 : decode cX11_readsCondition 38 = .ok (.iconst 0, 1) := by decide +kernel
theorem dX11_readsCondition_39 : decode cX11_readsCondition 39 = .ok (.ireturn, 1) := by decide +kernel
theorem dX11_readsCondition_40 : decode cX11_readsCondition 40 = .ok (.aload_n 0, 1) := by decide +kernel
theorem dX11_readsCondition_41 : decode cX11_readsCondition 41 = .ok (.invokevirtual 211, 3) := by decide +kernel
theorem dX11_readsCondition_44 : decode cX11_readsCondition 44 = .ok (.bipush 33, 2) := by decide +kernel
theorem dX11_readsCondition_46 : decode cX11_readsCondition 46 = .ok (.if_icmp .eq 12, 3) := by decide +kernel
theorem dX11_readsCondition_49 : decode cX11_readsCondition 49 = .ok (.aload_n 0, 1) := by decide +kernel
theorem dX11_readsCondition_50 : decode cX11_readsCondition 50 = .ok (.invokevirtual 211, 3) := by decide +kernel
theorem dX11_readsCondition_53 : decode cX11_readsCondition 53 = .ok (.bipush 40, 2) := by decide +kernel
theorem dX11_readsCondition_55 : decode cX11_readsCondition 55 = .ok (.if_icmp .ne 28, 3) := by decide +kernel
theorem dX11_readsCondition_58 : decode cX11_readsCondition 58 = .ok (.aload_n 0, 1) := by decide +kernel
theorem dX11_readsCondition_59 : decode cX11_readsCondition 59 = .ok (.aload_n 0, 1) := by decide +kernel
theorem dX11_readsCondition_60 : decode cX11_readsCondition 60 = .ok (.invokevirtual 211, 3) := by decide +kernel
theorem dX11_readsCondition_63 : decode cX11_readsCondition 63 = .ok (.bipush 33, 2) := by decide +kernel
theorem dX11_readsCondition_65 : decode cX11_readsCondition 65 = .ok (.if_icmp .ne 8, 3) := by decide +kernel
theorem dX11_readsCondition_68 : decode cX11_readsCondition 68 = .ok (.bipush 10, 2) := by decide +kernel
theorem dX11_readsCondition_70 : decode cX11_readsCondition 70 = .ok (.goto 5, 3) := by decide +kernel
theorem dX11_readsCondition_73 : decode cX11_readsCondition 73 = .ok (.bipush 13, 2) := by decide +kernel
theorem dX11_readsCondition_75 : decode cX11_readsCondition 75 = .ok (.invokevirtual 244, 3) := by decide +kernel
theorem dX11_readsCondition_78 : decode cX11_readsCondition 78 = .ok (.ifCond .ne (-38), 3) := by decide +kernel
theorem dX11_readsCondition_81 : decode cX11_readsCondition 81 = .ok (.iconst 0, 1) := by decide +kernel
theorem dX11_readsCondition_82 : decode cX11_readsCondition 82 = .ok (.ireturn, 1) := by decide +kernel
theorem dX11_readsCondition_83 : decode cX11_readsCondition 83 = .ok (.aload_n 0, 1) := by decide +kernel
theorem dX11_readsCondition_84 : decode cX11_readsCondition 84 = .ok (.invokevirtual 272, 3) := by decide +kernel
theorem dX11_readsCondition_87 : decode cX11_readsCondition 87 = .ok (.ifCond .ne 5, 3) := by decide +kernel
theorem dX11_readsCondition_90 : decode cX11_readsCondition 90 = .ok (.iconst 0, 1) := by decide +kernel
theorem dX11_readsCondition_91 : decode cX11_readsCondition 91 = .ok (.ireturn, 1) := by decide +kernel
theorem dX11_readsCondition_92 : decode cX11_readsCondition 92 = .ok (.aload_n 0, 1) := by decide +kernel
theorem dX11_readsCondition_93 : decode cX11_readsCondition 93 = .ok (.invokevirtual 211, 3) := by decide +kernel
theorem dX11_readsCondition_96 : decode cX11_readsCondition 96 = .ok (.bipush 41, 2) := by decide +kernel
theorem dX11_readsCondition_98 : decode cX11_readsCondition 98 = .ok (.if_icmp .ne 54, 3) := by decide +kernel
theorem dX11_readsCondition_101 : decode cX11_readsCondition 101 = .ok (.aload_n 0, 1) := by decide +kernel
theorem dX11_readsCondition_102 : decode cX11_readsCondition 102 = .ok (.iconst 1, 1) := by decide +kernel
theorem dX11_readsCondition_103 : decode cX11_readsCondition 103 = .ok (.invokevirtual 275, 3) := by decide +kernel
theorem dX11_readsCondition_106 : decode cX11_readsCondition 106 = .ok (.aload_n 0, 1) := by decide +kernel
theorem dX11_readsCondition_107 : decode cX11_readsCondition 107 = .ok (.aload_n 0, 1) := by decide +kernel
theorem dX11_readsCondition_108 : decode cX11_readsCondition 108 = .ok (.getfield 235, 3) := by decide +kernel
theorem dX11_readsCondition_111 : decode cX11_readsCondition 111 = .ok (.iconst 1, 1) := by decide +kernel
theorem dX11_readsCondition_112 : decode cX11_readsCondition 112 = .ok (.isub, 1) := by decide +kernel
theorem dX11_readsCondition_113 : decode cX11_readsCondition 113 = .ok (.putfield 235, 3) := by decide +kernel
theorem dX11_readsCondition_116 : decode cX11_readsCondition 116 = .ok (.aload_n 0, 1) := by decide +kernel
theorem dX11_readsCondition_117 : decode cX11_readsCondition 117 = .ok (.aload_n 0, 1) := by decide +kernel
theorem dX11_readsCondition_118 : decode cX11_readsCondition 118 = .ok (.getfield 232, 3) := by decide +kernel
theorem dX11_readsCondition_121 : decode cX11_readsCondition 121 = .ok (.iconst 1, 1) := by decide +kernel
theorem dX11_readsCondition_122 : decode cX11_readsCondition 122 = .ok (.isub, 1) := by decide +kernel
theorem dX11_readsCondition_123 : decode cX11_readsCondition 123 = .ok (.putfield 232, 3) := by decide +kernel
theorem dX11_readsCondition_126 : decode cX11_readsCondition 126 = .ok (.aload_n 0, 1) := by decide +kernel
theorem dX11_readsCondition_127 : decode cX11_readsCondition 127 = .ok (.aload_n 0, 1) := by decide +kernel
theorem dX11_readsCondition_128 : decode cX11_readsCondition 128 = .ok (.getfield 205, 3) := by decide +kernel
theorem dX11_readsCondition_131 : decode cX11_readsCondition 131 = .ok (.iconst 1, 1) := by decide +kernel
theorem dX11_readsCondition_132 : decode cX11_readsCondition 132 = .ok (.iadd, 1) := by decide +kernel
theorem dX11_readsCondition_133 : decode cX11_readsCondition 133 = .ok (.putfield 205, 3) := by decide +kernel
theorem dX11_readsCondition_136 : decode cX11_readsCondition 136 = .ok (.aload_n 0, 1) := by decide +kernel
theorem dX11_readsCondition_137 : decode cX11_readsCondition 137 = .ok (.getfield 235, 3) := by decide +kernel
theorem dX11_readsCondition_140 : decode cX11_readsCondition 140 = .ok (.ifCond .ne 5, 3) := by decide +kernel
theorem dX11_readsCondition_143 : decode cX11_readsCondition 143 = .ok (.iconst 1, 1) := by decide +kernel
theorem dX11_readsCondition_144 : decode cX11_readsCondition 144 = .ok (.ireturn, 1) := by decide +kernel
theorem dX11_readsCondition_145 : decode cX11_readsCondition 145 = .ok (.aload_n 0, 1) := by decide +kernel
theorem dX11_readsCondition_146 : decode cX11_readsCondition 146 = .ok (.invokevirtual 269, 3) := by decide +kernel
theorem dX11_readsCondition_149 : decode cX11_readsCondition 149 = .ok (.goto (-57), 3) := by decide +kernel
theorem dX11_readsCondition_152 : decode cX11_readsCondition 152 = .ok (.aload_n 0, 1) := by decide +kernel
theorem dX11_readsCondition_153 : decode cX11_readsCondition 153 = .ok (.invokevirtual 211, 3) := by decide +kernel
theorem dX11_readsCondition_156 : decode cX11_readsCondition 156 = .ok (.bipush 38, 2) := by decide +kernel
theorem dX11_readsCondition_158 : decode cX11_readsCondition 158 = .ok (.if_icmp .eq 22, 3) := by decide +kernel
theorem dX11_readsCondition_161 : decode cX11_readsCondition 161 = .ok (.aload_n 0, 1) := by decide +kernel
theorem dX11_readsCondition_162 : decode cX11_readsCondition 162 = .ok (.invokevirtual 211, 3) := by decide +kernel
theorem dX11_readsCondition_165 : decode cX11_readsCondition 165 = .ok (.bipush 124, 2) := by decide +kernel
theorem dX11_readsCondition_167 : decode cX11_readsCondition 167 = .ok (.if_icmp .eq 13, 3) := by decide +kernel
theorem dX11_readsCondition_170 : decode cX11_readsCondition 170 = .ok (.aload_n 0, 1) := by decide +kernel
theorem dX11_readsCondition_171 : decode cX11_readsCondition 171 = .ok (.iconst 1, 1) := by decide +kernel
theorem dX11_readsCondition_172 : decode cX11_readsCondition 172 = .ok (.aload_n 0, 1) := by decide +kernel
theorem dX11_readsCondition_173 : decode cX11_readsCondition 173 = .ok (.getfield 205, 3) := by decide +kernel
theorem dX11_readsCondition_176 : decode cX11_readsCondition 176 = .ok (.invokevirtual 218, 3) := by decide +kernel
theorem dX11_readsCondition_179 : decode cX11_readsCondition 179 = .ok (.ireturn, 1) := by decide +kernel
theorem dX11_readsCondition_180 : decode cX11_readsCondition 180 = .ok (.aload_n 0, 1) := by decide +kernel
theorem dX11_readsCondition_181 : decode cX11_readsCondition 181 = .ok (.aload_n 0, 1) := by decide +kernel
theorem dX11_readsCondition_182 : decode cX11_readsCondition 182 = .ok (.invokevirtual 211, 3) := by decide +kernel
theorem dX11_readsCondition_185 : decode cX11_readsCondition 185 = .ok (.bipush 124, 2) := by decide +kernel
theorem dX11_readsCondition_187 : decode cX11_readsCondition 187 = .ok (.if_icmp .ne 7, 3) := by decide +kernel
theorem dX11_readsCondition_190 : decode cX11_readsCondition 190 = .ok (.iconst 1, 1) := by decide +kernel
theorem dX11_readsCondition_191 : decode cX11_readsCondition 191 = .ok (.goto 4, 3) := by decide +kernel
theorem dX11_readsCondition_194 : decode cX11_readsCondition 194 = .ok (.iconst 0, 1) := by decide +kernel
theorem dX11_readsCondition_195 : decode cX11_readsCondition 195 = .ok (.invokevirtual 275, 3) := by decide +kernel
theorem dX11_readsCondition_198 : decode cX11_readsCondition 198 = .ok (.aload_n 0, 1) := by decide +kernel
theorem dX11_readsCondition_199 : decode cX11_readsCondition 199 = .ok (.aload_n 0, 1) := by decide +kernel
theorem dX11_readsCondition_200 : decode cX11_readsCondition 200 = .ok (.invokevirtual 211, 3) := by decide +kernel
theorem dX11_readsCondition_203 : decode cX11_readsCondition 203 = .ok (.bipush 38, 2) := by decide +kernel
theorem dX11_readsCondition_205 : decode cX11_readsCondition 205 = .ok (.if_icmp .ne 8, 3) := by decide +kernel
theorem dX11_readsCondition_208 : decode cX11_readsCondition 208 = .ok (.bipush 11, 2) := by decide +kernel
theorem dX11_readsCondition_210 : decode cX11_readsCondition 210 = .ok (.goto 5, 3) := by decide +kernel
theorem dX11_readsCondition_213 : decode cX11_readsCondition 213 = .ok (.bipush 12, 2) := by decide +kernel
theorem dX11_readsCondition_215 : decode cX11_readsCondition 215 = .ok (.invokevirtual 278, 3) := by decide +kernel
theorem dX11_readsCondition_218 : decode cX11_readsCondition 218 = .ok (.goto (-178), 3) := by decide +kernel
theorem dX11_isClauseLetter_0 : decode cX11_isClauseLetter 0 = .ok (.iload_n 0, 1) := by decide +kernel
theorem dX11_isClauseLetter_1 : decode cX11_isClauseLetter 1 = .ok (.bipush 115, 2) := by decide +kernel
theorem dX11_isClauseLetter_3 : decode cX11_isClauseLetter 3 = .ok (.if_icmp .eq 45, 3) := by decide +kernel
theorem dX11_isClauseLetter_6 : decode cX11_isClauseLetter 6 = .ok (.iload_n 0, 1) := by decide +kernel
theorem dX11_isClauseLetter_7 : decode cX11_isClauseLetter 7 = .ok (.bipush 103, 2) := by decide +kernel
theorem dX11_isClauseLetter_9 : decode cX11_isClauseLetter 9 = .ok (.if_icmp .eq 39, 3) := by decide +kernel
theorem dX11_isClauseLetter_12 : decode cX11_isClauseLetter 12 = .ok (.iload_n 0, 1) := by decide +kernel
theorem dX11_isClauseLetter_13 : decode cX11_isClauseLetter 13 = .ok (.bipush 119, 2) := by decide +kernel
theorem dX11_isClauseLetter_15 : decode cX11_isClauseLetter 15 = .ok (.if_icmp .eq 33, 3) := by decide +kernel
theorem dX11_isClauseLetter_18 : decode cX11_isClauseLetter 18 = .ok (.iload_n 0, 1) := by decide +kernel
theorem dX11_isClauseLetter_19 : decode cX11_isClauseLetter 19 = .ok (.bipush 102, 2) := by decide +kernel
theorem dX11_isClauseLetter_21 : decode cX11_isClauseLetter 21 = .ok (.if_icmp .eq 27, 3) := by decide +kernel
theorem dX11_isClauseLetter_24 : decode cX11_isClauseLetter 24 = .ok (.iload_n 0, 1) := by decide +kernel
theorem dX11_isClauseLetter_25 : decode cX11_isClauseLetter 25 = .ok (.bipush 122, 2) := by decide +kernel
theorem dX11_isClauseLetter_27 : decode cX11_isClauseLetter 27 = .ok (.if_icmp .eq 21, 3) := by decide +kernel
theorem dX11_isClauseLetter_30 : decode cX11_isClauseLetter 30 = .ok (.iload_n 0, 1) := by decide +kernel
theorem dX11_isClauseLetter_31 : decode cX11_isClauseLetter 31 = .ok (.bipush 121, 2) := by decide +kernel
theorem dX11_isClauseLetter_33 : decode cX11_isClauseLetter 33 = .ok (.if_icmp .eq 15, 3) := by decide +kernel
theorem dX11_isClauseLetter_36 : decode cX11_isClauseLetter 36 = .ok (.iload_n 0, 1) := by decide +kernel
theorem dX11_isClauseLetter_37 : decode cX11_isClauseLetter 37 = .ok (.bipush 98, 2) := by decide +kernel
theorem dX11_isClauseLetter_39 : decode cX11_isClauseLetter 39 = .ok (.if_icmp .eq 9, 3) := by decide +kernel
theorem dX11_isClauseLetter_42 : decode cX11_isClauseLetter 42 = .ok (.iload_n 0, 1) := by decide +kernel
theorem dX11_isClauseLetter_43 : decode cX11_isClauseLetter 43 = .ok (.bipush 97, 2) := by decide +kernel
theorem dX11_isClauseLetter_45 : decode cX11_isClauseLetter 45 = .ok (.if_icmp .ne 7, 3) := by decide +kernel
theorem dX11_isClauseLetter_48 : decode cX11_isClauseLetter 48 = .ok (.iconst 1, 1) := by decide +kernel
theorem dX11_isClauseLetter_49 : decode cX11_isClauseLetter 49 = .ok (.goto 4, 3) := by decide +kernel
theorem dX11_isClauseLetter_52 : decode cX11_isClauseLetter 52 = .ok (.iconst 0, 1) := by decide +kernel
theorem dX11_isClauseLetter_53 : decode cX11_isClauseLetter 53 = .ok (.ireturn, 1) := by decide +kernel
theorem dX11_readsClause_0 : decode cX11_readsClause 0 = .ok (.aload_n 0, 1) := by decide +kernel
theorem dX11_readsClause_1 : decode cX11_readsClause 1 = .ok (.invokevirtual 211, 3) := by decide +kernel
theorem dX11_readsClause_4 : decode cX11_readsClause 4 = .ok (.invokestatic 281, 3) := by decide +kernel
theorem dX11_readsClause_7 : decode cX11_readsClause 7 = .ok (.ifCond .ne 13, 3) := by decide +kernel
theorem dX11_readsClause_10 : decode cX11_readsClause 10 = .ok (.aload_n 0, 1) := by decide +kernel
theorem dX11_readsClause_11 : decode cX11_readsClause 11 = .ok (.iconst 1, 1) := by decide +kernel
theorem dX11_readsClause_12 : decode cX11_readsClause 12 = .ok (.aload_n 0, 1) := by decide +kernel
theorem dX11_readsClause_13 : decode cX11_readsClause 13 = .ok (.getfield 205, 3) := by decide +kernel
theorem dX11_readsClause_16 : decode cX11_readsClause 16 = .ok (.invokevirtual 218, 3) := by decide +kernel
theorem dX11_readsClause_19 : decode cX11_readsClause 19 = .ok (.ireturn, 1) := by decide +kernel
theorem dX11_readsClause_20 : decode cX11_readsClause 20 = .ok (.aload_n 0, 1) := by decide +kernel
theorem dX11_readsClause_21 : decode cX11_readsClause 21 = .ok (.getfield 284, 3) := by decide +kernel
theorem dX11_readsClause_24 : decode cX11_readsClause 24 = .ok (.bipush 12, 2) := by decide +kernel
theorem dX11_readsClause_26 : decode cX11_readsClause 26 = .ok (.if_icmp .ne 13, 3) := by decide +kernel
theorem dX11_readsClause_29 : decode cX11_readsClause 29 = .ok (.aload_n 0, 1) := by decide +kernel
theorem dX11_readsClause_30 : decode cX11_readsClause 30 = .ok (.iconst 4, 1) := by decide +kernel
theorem dX11_readsClause_31 : decode cX11_readsClause 31 = .ok (.aload_n 0, 1) := by decide +kernel
theorem dX11_readsClause_32 : decode cX11_readsClause 32 = .ok (.getfield 205, 3) := by decide +kernel
theorem dX11_readsClause_35 : decode cX11_readsClause 35 = .ok (.invokevirtual 218, 3) := by decide +kernel
theorem dX11_readsClause_38 : decode cX11_readsClause 38 = .ok (.ireturn, 1) := by decide +kernel
theorem dX11_readsClause_39 : decode cX11_readsClause 39 = .ok (.aload_n 0, 1) := by decide +kernel
theorem dX11_readsClause_40 : decode cX11_readsClause 40 = .ok (.getfield 68, 3) := by decide +kernel
theorem dX11_readsClause_43 : decode cX11_readsClause 43 = .ok (.aload_n 0, 1) := by decide +kernel
theorem dX11_readsClause_44 : decode cX11_readsClause 44 = .ok (.getfield 284, 3) := by decide +kernel
theorem dX11_readsClause_47 : decode cX11_readsClause 47 = .ok (.aload_n 0, 1) := by decide +kernel
theorem dX11_readsClause_48 : decode cX11_readsClause 48 = .ok (.invokevirtual 211, 3) := by decide +kernel
theorem dX11_readsClause_51 : decode cX11_readsClause 51 = .ok (.iastore, 1) := by decide +kernel
theorem dX11_readsClause_52 : decode cX11_readsClause 52 = .ok (.aload_n 0, 1) := by decide +kernel
theorem dX11_readsClause_53 : decode cX11_readsClause 53 = .ok (.aload_n 0, 1) := by decide +kernel
theorem dX11_readsClause_54 : decode cX11_readsClause 54 = .ok (.getfield 205, 3) := by decide +kernel
theorem dX11_readsClause_57 : decode cX11_readsClause 57 = .ok (.iconst 1, 1) := by decide +kernel
theorem dX11_readsClause_58 : decode cX11_readsClause 58 = .ok (.iadd, 1) := by decide +kernel
theorem dX11_readsClause_59 : decode cX11_readsClause 59 = .ok (.putfield 205, 3) := by decide +kernel
theorem dX11_readsClause_62 : decode cX11_readsClause 62 = .ok (.aload_n 0, 1) := by decide +kernel
theorem dX11_readsClause_63 : decode cX11_readsClause 63 = .ok (.getfield 71, 3) := by decide +kernel
theorem dX11_readsClause_66 : decode cX11_readsClause 66 = .ok (.aload_n 0, 1) := by decide +kernel
theorem dX11_readsClause_67 : decode cX11_readsClause 67 = .ok (.getfield 284, 3) := by decide +kernel
theorem dX11_readsClause_70 : decode cX11_readsClause 70 = .ok (.aload_n 0, 1) := by decide +kernel
theorem dX11_readsClause_71 : decode cX11_readsClause 71 = .ok (.getfield 228, 3) := by decide +kernel
theorem dX11_readsClause_74 : decode cX11_readsClause 74 = .ok (.iastore, 1) := by decide +kernel
theorem dX11_readsClause_75 : decode cX11_readsClause 75 = .ok (.aload_n 0, 1) := by decide +kernel
theorem dX11_readsClause_76 : decode cX11_readsClause 76 = .ok (.invokevirtual 287, 3) := by decide +kernel
theorem dX11_readsClause_79 : decode cX11_readsClause 79 = .ok (.ifCond .ne 5, 3) := by decide +kernel
theorem dX11_readsClause_82 : decode cX11_readsClause 82 = .ok (.iconst 0, 1) := by decide +kernel
theorem dX11_readsClause_83 : decode cX11_readsClause 83 = .ok (.ireturn, 1) := by decide +kernel
theorem dX11_readsClause_84 : decode cX11_readsClause 84 = .ok (.aload_n 0, 1) := by decide +kernel
theorem dX11_readsClause_85 : decode cX11_readsClause 85 = .ok (.getfield 74, 3) := by decide +kernel
theorem dX11_readsClause_88 : decode cX11_readsClause 88 = .ok (.aload_n 0, 1) := by decide +kernel
theorem dX11_readsClause_89 : decode cX11_readsClause 89 = .ok (.getfield 284, 3) := by decide +kernel
theorem dX11_readsClause_92 : decode cX11_readsClause 92 = .ok (.aload_n 0, 1) := by decide +kernel
theorem dX11_readsClause_93 : decode cX11_readsClause 93 = .ok (.getfield 228, 3) := by decide +kernel
theorem dX11_readsClause_96 : decode cX11_readsClause 96 = .ok (.iastore, 1) := by decide +kernel
theorem dX11_readsClause_97 : decode cX11_readsClause 97 = .ok (.aload_n 0, 1) := by decide +kernel
theorem dX11_readsClause_98 : decode cX11_readsClause 98 = .ok (.aload_n 0, 1) := by decide +kernel
theorem dX11_readsClause_99 : decode cX11_readsClause 99 = .ok (.getfield 284, 3) := by decide +kernel
theorem dX11_readsClause_102 : decode cX11_readsClause 102 = .ok (.iconst 1, 1) := by decide +kernel
theorem dX11_readsClause_103 : decode cX11_readsClause 103 = .ok (.iadd, 1) := by decide +kernel
theorem dX11_readsClause_104 : decode cX11_readsClause 104 = .ok (.putfield 284, 3) := by decide +kernel
theorem dX11_readsClause_107 : decode cX11_readsClause 107 = .ok (.iconst 1, 1) := by decide +kernel
theorem dX11_readsClause_108 : decode cX11_readsClause 108 = .ok (.ireturn, 1) := by decide +kernel
theorem dX11_law_0 : decode cX11_law 0 = .ok (.iload_n 1, 1) := by decide +kernel
theorem dX11_law_1 : decode cX11_law 1 = .ok (.invokestatic 165, 3) := by decide +kernel
theorem dX11_law_4 : decode cX11_law 4 = .ok (.ifCond .eq 22, 3) := by decide +kernel
theorem dX11_law_7 : decode cX11_law 7 = .ok (.iload_n 2, 1) := by decide +kernel
theorem dX11_law_8 : decode cX11_law 8 = .ok (.iconst 1, 1) := by decide +kernel
theorem dX11_law_9 : decode cX11_law 9 = .ok (.sipush 160, 3) := by decide +kernel
theorem dX11_law_12 : decode cX11_law 12 = .ok (.invokestatic 161, 3) := by decide +kernel
theorem dX11_law_15 : decode cX11_law 15 = .ok (.ifCond .eq 11, 3) := by decide +kernel
theorem dX11_law_18 : decode cX11_law 18 = .ok (.iload_n 2, 1) := by decide +kernel
theorem dX11_law_19 : decode cX11_law 19 = .ok (.aload_n 0, 1) := by decide +kernel
theorem dX11_law_20 : decode cX11_law 20 = .ok (.getfield 198, 3) := by decide +kernel
theorem dX11_law_23 : decode cX11_law 23 = .ok (.if_icmp .le 5, 3) := by decide +kernel
theorem dX11_law_26 : decode cX11_law 26 = .ok (.iconst (-1), 1) := by decide +kernel
theorem dX11_law_27 : decode cX11_law 27 = .ok (.ireturn, 1) := by decide +kernel
theorem dX11_law_28 : decode cX11_law 28 = .ok (.aload_n 0, 1) := by decide +kernel
theorem dX11_law_29 : decode cX11_law 29 = .ok (.iconst 0, 1) := by decide +kernel
theorem dX11_law_30 : decode cX11_law 30 = .ok (.putfield 205, 3) := by decide +kernel
theorem dX11_law_33 : decode cX11_law 33 = .ok (.aload_n 0, 1) := by decide +kernel
theorem dX11_law_34 : decode cX11_law 34 = .ok (.iload_n 2, 1) := by decide +kernel
theorem dX11_law_35 : decode cX11_law 35 = .ok (.putfield 208, 3) := by decide +kernel
theorem dX11_law_38 : decode cX11_law 38 = .ok (.aload_n 0, 1) := by decide +kernel
theorem dX11_law_39 : decode cX11_law 39 = .ok (.iconst 0, 1) := by decide +kernel
theorem dX11_law_40 : decode cX11_law 40 = .ok (.putfield 228, 3) := by decide +kernel
theorem dX11_law_43 : decode cX11_law 43 = .ok (.aload_n 0, 1) := by decide +kernel
theorem dX11_law_44 : decode cX11_law 44 = .ok (.iconst 0, 1) := by decide +kernel
theorem dX11_law_45 : decode cX11_law 45 = .ok (.putfield 284, 3) := by decide +kernel
theorem dX11_law_48 : decode cX11_law 48 = .ok (.aload_n 0, 1) := by decide +kernel
theorem dX11_law_49 : decode cX11_law 49 = .ok (.invokevirtual 290, 3) := by decide +kernel
theorem dX11_law_52 : decode cX11_law 52 = .ok (.istore_n 3, 1) := by decide +kernel
theorem dX11_law_53 : decode cX11_law 53 = .ok (.iload_n 3, 1) := by decide +kernel
theorem dX11_law_54 : decode cX11_law 54 = .ok (.ifCond .eq 39, 3) := by decide +kernel
theorem dX11_law_57 : decode cX11_law 57 = .ok (.aload_n 0, 1) := by decide +kernel
theorem dX11_law_58 : decode cX11_law 58 = .ok (.getfield 205, 3) := by decide +kernel
theorem dX11_law_61 : decode cX11_law 61 = .ok (.aload_n 0, 1) := by decide +kernel
theorem dX11_law_62 : decode cX11_law 62 = .ok (.getfield 208, 3) := by decide +kernel
theorem dX11_law_65 : decode cX11_law 65 = .ok (.if_icmp .ge 28, 3) := by decide +kernel
theorem dX11_law_68 : decode cX11_law 68 = .ok (.aload_n 0, 1) := by decide +kernel
theorem dX11_law_69 : decode cX11_law 69 = .ok (.bipush 59, 2) := by decide +kernel
theorem dX11_law_71 : decode cX11_law 71 = .ok (.invokevirtual 293, 3) := by decide +kernel
theorem dX11_law_74 : decode cX11_law 74 = .ok (.ifCond .eq 14, 3) := by decide +kernel
theorem dX11_law_77 : decode cX11_law 77 = .ok (.aload_n 0, 1) := by decide +kernel
theorem dX11_law_78 : decode cX11_law 78 = .ok (.invokevirtual 290, 3) := by decide +kernel
theorem dX11_law_81 : decode cX11_law 81 = .ok (.ifCond .eq 7, 3) := by decide +kernel
theorem dX11_law_84 : decode cX11_law 84 = .ok (.iconst 1, 1) := by decide +kernel
theorem dX11_law_85 : decode cX11_law 85 = .ok (.goto 4, 3) := by decide +kernel
theorem dX11_law_88 : decode cX11_law 88 = .ok (.iconst 0, 1) := by decide +kernel
theorem dX11_law_89 : decode cX11_law 89 = .ok (.istore_n 3, 1) := by decide +kernel
theorem dX11_law_90 : decode cX11_law 90 = .ok (.goto (-37), 3) := by decide +kernel
theorem dX11_law_93 : decode cX11_law 93 = .ok (.aload_n 0, 1) := by decide +kernel
theorem dX11_law_94 : decode cX11_law 94 = .ok (.iconst 0, 1) := by decide +kernel
theorem dX11_law_95 : decode cX11_law 95 = .ok (.putfield 198, 3) := by decide +kernel
theorem dX11_law_98 : decode cX11_law 98 = .ok (.iload_n 3, 1) := by decide +kernel
theorem dX11_law_99 : decode cX11_law 99 = .ok (.ifCond .ne 8, 3) := by decide +kernel
theorem dX11_law_102 : decode cX11_law 102 = .ok (.aload_n 0, 1) := by decide +kernel
theorem dX11_law_103 : decode cX11_law 103 = .ok (.getfield 215, 3) := by decide +kernel
theorem dX11_law_106 : decode cX11_law 106 = .ok (.ireturn, 1) := by decide +kernel
theorem dX11_law_107 : decode cX11_law 107 = .ok (.aload_n 0, 1) := by decide +kernel
theorem dX11_law_108 : decode cX11_law 108 = .ok (.getfield 80, 3) := by decide +kernel
theorem dX11_law_111 : decode cX11_law 111 = .ok (.iload_n 1, 1) := by decide +kernel
theorem dX11_law_112 : decode cX11_law 112 = .ok (.aload_n 0, 1) := by decide +kernel
theorem dX11_law_113 : decode cX11_law 113 = .ok (.getfield 284, 3) := by decide +kernel
theorem dX11_law_116 : decode cX11_law 116 = .ok (.iastore, 1) := by decide +kernel
theorem dX11_law_117 : decode cX11_law 117 = .ok (.iconst 0, 1) := by decide +kernel
theorem dX11_law_118 : decode cX11_law 118 = .ok (.istore 4, 2) := by decide +kernel
theorem dX11_law_120 : decode cX11_law 120 = .ok (.iload 4, 2) := by decide +kernel
theorem dX11_law_122 : decode cX11_law 122 = .ok (.aload_n 0, 1) := by decide +kernel
theorem dX11_law_123 : decode cX11_law 123 = .ok (.getfield 228, 3) := by decide +kernel
theorem dX11_law_126 : decode cX11_law 126 = .ok (.if_icmp .ge 29, 3) := by decide +kernel
theorem dX11_law_129 : decode cX11_law 129 = .ok (.aload_n 0, 1) := by decide +kernel
theorem dX11_law_130 : decode cX11_law 130 = .ok (.getfield 77, 3) := by decide +kernel
theorem dX11_law_133 : decode cX11_law 133 = .ok (.sipush 180, 3) := by decide +kernel
theorem dX11_law_136 : decode cX11_law 136 = .ok (.iload_n 1, 1) := by decide +kernel
theorem dX11_law_137 : decode cX11_law 137 = .ok (.imul, 1) := by decide +kernel
theorem dX11_law_138 : decode cX11_law 138 = .ok (.iload 4, 2) := by decide +kernel
theorem dX11_law_140 : decode cX11_law 140 = .ok (.iadd, 1) := by decide +kernel
theorem dX11_law_141 : decode cX11_law 141 = .ok (.aload_n 0, 1) := by decide +kernel
theorem dX11_law_142 : decode cX11_law 142 = .ok (.getfield 62, 3) := by decide +kernel
theorem dX11_law_145 : decode cX11_law 145 = .ok (.iload 4, 2) := by decide +kernel
theorem dX11_law_147 : decode cX11_law 147 = .ok (.iaload, 1) := by decide +kernel
theorem dX11_law_148 : decode cX11_law 148 = .ok (.iastore, 1) := by decide +kernel
theorem dX11_law_149 : decode cX11_law 149 = .ok (.iinc 4 1, 3) := by decide +kernel
theorem dX11_law_152 : decode cX11_law 152 = .ok (.goto (-32), 3) := by decide +kernel
theorem dX11_law_155 : decode cX11_law 155 = .ok (.iconst 0, 1) := by decide +kernel
theorem dX11_law_156 : decode cX11_law 156 = .ok (.istore 4, 2) := by decide +kernel
theorem dX11_law_158 : decode cX11_law 158 = .ok (.iload 4, 2) := by decide +kernel
theorem dX11_law_160 : decode cX11_law 160 = .ok (.aload_n 0, 1) := by decide +kernel
theorem dX11_law_161 : decode cX11_law 161 = .ok (.getfield 284, 3) := by decide +kernel
theorem dX11_law_164 : decode cX11_law 164 = .ok (.if_icmp .ge 72, 3) := by decide +kernel
theorem dX11_law_167 : decode cX11_law 167 = .ok (.bipush 12, 2) := by decide +kernel
theorem dX11_law_169 : decode cX11_law 169 = .ok (.iload_n 1, 1) := by decide +kernel
theorem dX11_law_170 : decode cX11_law 170 = .ok (.imul, 1) := by decide +kernel
theorem dX11_law_171 : decode cX11_law 171 = .ok (.iload 4, 2) := by decide +kernel
theorem dX11_law_173 : decode cX11_law 173 = .ok (.iadd, 1) := by decide +kernel
theorem dX11_law_174 : decode cX11_law 174 = .ok (.istore 5, 2) := by decide +kernel
theorem dX11_law_176 : decode cX11_law 176 = .ok (.aload_n 0, 1) := by decide +kernel
theorem dX11_law_177 : decode cX11_law 177 = .ok (.getfield 83, 3) := by decide +kernel
theorem dX11_law_180 : decode cX11_law 180 = .ok (.iload 5, 2) := by decide +kernel
theorem dX11_law_182 : decode cX11_law 182 = .ok (.aload_n 0, 1) := by decide +kernel
theorem dX11_law_183 : decode cX11_law 183 = .ok (.getfield 68, 3) := by decide +kernel
theorem dX11_law_186 : decode cX11_law 186 = .ok (.iload 4, 2) := by decide +kernel
theorem dX11_law_188 : decode cX11_law 188 = .ok (.iaload, 1) := by decide +kernel
theorem dX11_law_189 : decode cX11_law 189 = .ok (.iastore, 1) := by decide +kernel
theorem dX11_law_190 : decode cX11_law 190 = .ok (.aload_n 0, 1) := by decide +kernel
theorem dX11_law_191 : decode cX11_law 191 = .ok (.getfield 86, 3) := by decide +kernel
theorem dX11_law_194 : decode cX11_law 194 = .ok (.iload 5, 2) := by decide +kernel
theorem dX11_law_196 : decode cX11_law 196 = .ok (.sipush 180, 3) := by decide +kernel
theorem dX11_law_199 : decode cX11_law 199 = .ok (.iload_n 1, 1) := by decide +kernel
theorem dX11_law_200 : decode cX11_law 200 = .ok (.imul, 1) := by decide +kernel
theorem dX11_law_201 : decode cX11_law 201 = .ok (.aload_n 0, 1) := by decide +kernel
theorem dX11_law_202 : decode cX11_law 202 = .ok (.getfield 71, 3) := by decide +kernel
theorem dX11_law_205 : decode cX11_law 205 = .ok (.iload 4, 2) := by decide +kernel
theorem dX11_law_207 : decode cX11_law 207 = .ok (.iaload, 1) := by decide +kernel
theorem dX11_law_208 : decode cX11_law 208 = .ok (.iadd, 1) := by decide +kernel
theorem dX11_law_209 : decode cX11_law 209 = .ok (.iastore, 1) := by decide +kernel
theorem dX11_law_210 : decode cX11_law 210 = .ok (.aload_n 0, 1) := by decide +kernel
theorem dX11_law_211 : decode cX11_law 211 = .ok (.getfield 89, 3) := by decide +kernel
theorem dX11_law_214 : decode cX11_law 214 = .ok (.iload 5, 2) := by decide +kernel
theorem dX11_law_216 : decode cX11_law 216 = .ok (.sipush 180, 3) := by decide +kernel
theorem dX11_law_219 : decode cX11_law 219 = .ok (.iload_n 1, 1) := by decide +kernel
theorem dX11_law_220 : decode cX11_law 220 = .ok (.imul, 1) := by decide +kernel
theorem dX11_law_221 : decode cX11_law 221 = .ok (.aload_n 0, 1) := by decide +kernel
theorem dX11_law_222 : decode cX11_law 222 = .ok (.getfield 74, 3) := by decide +kernel
theorem dX11_law_225 : decode cX11_law 225 = .ok (.iload 4, 2) := by decide +kernel
theorem dX11_law_227 : decode cX11_law 227 = .ok (.iaload, 1) := by decide +kernel
theorem dX11_law_228 : decode cX11_law 228 = .ok (.iadd, 1) := by decide +kernel
theorem dX11_law_229 : decode cX11_law 229 = .ok (.iastore, 1) := by decide +kernel
theorem dX11_law_230 : decode cX11_law 230 = .ok (.iinc 4 1, 3) := by decide +kernel
theorem dX11_law_233 : decode cX11_law 233 = .ok (.goto (-75), 3) := by decide +kernel
theorem dX11_law_236 : decode cX11_law 236 = .ok (.aload_n 0, 1) := by decide +kernel
theorem dX11_law_237 : decode cX11_law 237 = .ok (.getfield 284, 3) := by decide +kernel
theorem dX11_law_240 : decode cX11_law 240 = .ok (.ireturn, 1) := by decide +kernel
theorem dX11_reckon_0 : decode cX11_reckon 0 = .ok (.iload_n 0, 1) := by decide +kernel
theorem dX11_reckon_1 : decode cX11_reckon 1 = .ok (.tableswitch 85 2 8 #[43, 47, 51, 55, 59, 63, 74], 43) := by decide +kernel
theorem dX11_reckon_44 : decode cX11_reckon 44 = .ok (.iload_n 1, 1) := by decide +kernel
theorem dX11_reckon_45 : decode cX11_reckon 45 = .ok (.iload_n 2, 1) := by decide +kernel
theorem dX11_reckon_46 : decode cX11_reckon 46 = .ok (.iadd, 1) := by decide +kernel
theorem dX11_reckon_47 : decode cX11_reckon 47 = .ok (.ireturn, 1) := by decide +kernel
theorem dX11_reckon_48 : decode cX11_reckon 48 = .ok (.iload_n 1, 1) := by decide +kernel
theorem dX11_reckon_49 : decode cX11_reckon 49 = .ok (.iload_n 2, 1) := by decide +kernel
theorem dX11_reckon_50 : decode cX11_reckon 50 = .ok (.isub, 1) := by decide +kernel
theorem dX11_reckon_51 : decode cX11_reckon 51 = .ok (.ireturn, 1) := by decide +kernel
theorem dX11_reckon_52 : decode cX11_reckon 52 = .ok (.iload_n 1, 1) := by decide +kernel
theorem dX11_reckon_53 : decode cX11_reckon 53 = .ok (.iload_n 2, 1) := by decide +kernel
theorem dX11_reckon_54 : decode cX11_reckon 54 = .ok (.imul, 1) := by decide +kernel
theorem dX11_reckon_55 : decode cX11_reckon 55 = .ok (.ireturn, 1) := by decide +kernel
theorem dX11_reckon_56 : decode cX11_reckon 56 = .ok (.iload_n 1, 1) := by decide +kernel
theorem dX11_reckon_57 : decode cX11_reckon 57 = .ok (.iload_n 2, 1) := by decide +kernel
theorem dX11_reckon_58 : decode cX11_reckon 58 = .ok (.idiv, 1) := by decide +kernel
theorem dX11_reckon_59 : decode cX11_reckon 59 = .ok (.ireturn, 1) := by decide +kernel
theorem dX11_reckon_60 : decode cX11_reckon 60 = .ok (.iload_n 1, 1) := by decide +kernel
theorem dX11_reckon_61 : decode cX11_reckon 61 = .ok (.iload_n 2, 1) := by decide +kernel
theorem dX11_reckon_62 : decode cX11_reckon 62 = .ok (.irem, 1) := by decide +kernel
theorem dX11_reckon_63 : decode cX11_reckon 63 = .ok (.ireturn, 1) := by decide +kernel
theorem dX11_reckon_64 : decode cX11_reckon 64 = .ok (.iload_n 1, 1) := by decide +kernel
theorem dX11_reckon_65 : decode cX11_reckon 65 = .ok (.iload_n 2, 1) := by decide +kernel
theorem dX11_reckon_66 : decode cX11_reckon 66 = .ok (.if_icmp .ge 7, 3) := by decide +kernel
theorem dX11_reckon_69 : decode cX11_reckon 69 = .ok (.iconst 1, 1) := by decide +kernel
theorem dX11_reckon_70 : decode cX11_reckon 70 = .ok (.goto 4, 3) := by decide +kernel
theorem dX11_reckon_73 : decode cX11_reckon 73 = .ok (.iconst 0, 1) := by decide +kernel
theorem dX11_reckon_74 : decode cX11_reckon 74 = .ok (.ireturn, 1) := by decide +kernel
theorem dX11_reckon_75 : decode cX11_reckon 75 = .ok (.iload_n 1, 1) := by decide +kernel
theorem dX11_reckon_76 : decode cX11_reckon 76 = .ok (.iload_n 2, 1) := by decide +kernel
theorem dX11_reckon_77 : decode cX11_reckon 77 = .ok (.if_icmp .le 7, 3) := by decide +kernel
theorem dX11_reckon_80 : decode cX11_reckon 80 = .ok (.iconst 1, 1) := by decide +kernel
theorem dX11_reckon_81 : decode cX11_reckon 81 = .ok (.goto 4, 3) := by decide +kernel
theorem dX11_reckon_84 : decode cX11_reckon 84 = .ok (.iconst 0, 1) := by decide +kernel
theorem dX11_reckon_85 : decode cX11_reckon 85 = .ok (.ireturn, 1) := by decide +kernel
theorem dX11_reckon_86 : decode cX11_reckon 86 = .ok (.iload_n 1, 1) := by decide +kernel
theorem dX11_reckon_87 : decode cX11_reckon 87 = .ok (.iload_n 2, 1) := by decide +kernel
theorem dX11_reckon_88 : decode cX11_reckon 88 = .ok (.if_icmp .ne 7, 3) := by decide +kernel
theorem dX11_reckon_91 : decode cX11_reckon 91 = .ok (.iconst 1, 1) := by decide +kernel
theorem dX11_reckon_92 : decode cX11_reckon 92 = .ok (.goto 4, 3) := by decide +kernel
theorem dX11_reckon_95 : decode cX11_reckon 95 = .ok (.iconst 0, 1) := by decide +kernel
theorem dX11_reckon_96 : decode cX11_reckon 96 = .ok (.ireturn, 1) := by decide +kernel
theorem dX11_isTrue_0 : decode cX11_isTrue 0 = .ok (.iconst 0, 1) := by decide +kernel
theorem dX11_isTrue_1 : decode cX11_isTrue 1 = .ok (.istore_n 2, 1) := by decide +kernel
theorem dX11_isTrue_2 : decode cX11_isTrue 2 = .ok (.sipush 180, 3) := by decide +kernel
theorem dX11_isTrue_5 : decode cX11_isTrue 5 = .ok (.iload_n 1, 1) := by decide +kernel
theorem dX11_isTrue_6 : decode cX11_isTrue 6 = .ok (.bipush 12, 2) := by decide +kernel
theorem dX11_isTrue_8 : decode cX11_isTrue 8 = .ok (.idiv, 1) := by decide +kernel
theorem dX11_isTrue_9 : decode cX11_isTrue 9 = .ok (.imul, 1) := by decide +kernel
theorem dX11_isTrue_10 : decode cX11_isTrue 10 = .ok (.istore_n 3, 1) := by decide +kernel
theorem dX11_isTrue_11 : decode cX11_isTrue 11 = .ok (.aload_n 0, 1) := by decide +kernel
theorem dX11_isTrue_12 : decode cX11_isTrue 12 = .ok (.getfield 86, 3) := by decide +kernel
theorem dX11_isTrue_15 : decode cX11_isTrue 15 = .ok (.iload_n 1, 1) := by decide +kernel
theorem dX11_isTrue_16 : decode cX11_isTrue 16 = .ok (.iaload, 1) := by decide +kernel
theorem dX11_isTrue_17 : decode cX11_isTrue 17 = .ok (.istore 4, 2) := by decide +kernel
theorem dX11_isTrue_19 : decode cX11_isTrue 19 = .ok (.iload 4, 2) := by decide +kernel
theorem dX11_isTrue_21 : decode cX11_isTrue 21 = .ok (.aload_n 0, 1) := by decide +kernel
theorem dX11_isTrue_22 : decode cX11_isTrue 22 = .ok (.getfield 89, 3) := by decide +kernel
theorem dX11_isTrue_25 : decode cX11_isTrue 25 = .ok (.iload_n 1, 1) := by decide +kernel
theorem dX11_isTrue_26 : decode cX11_isTrue 26 = .ok (.iaload, 1) := by decide +kernel
theorem dX11_isTrue_27 : decode cX11_isTrue 27 = .ok (.if_icmp .ge 213, 3) := by decide +kernel
theorem dX11_isTrue_30 : decode cX11_isTrue 30 = .ok (.aload_n 0, 1) := by decide +kernel
theorem dX11_isTrue_31 : decode cX11_isTrue 31 = .ok (.getfield 77, 3) := by decide +kernel
theorem dX11_isTrue_34 : decode cX11_isTrue 34 = .ok (.iload 4, 2) := by decide +kernel
theorem dX11_isTrue_36 : decode cX11_isTrue 36 = .ok (.iaload, 1) := by decide +kernel
theorem dX11_isTrue_37 : decode cX11_isTrue 37 = .ok (.ldc 231, 2) := by decide +kernel
theorem dX11_isTrue_39 : decode cX11_isTrue 39 = .ok (.idiv, 1) := by decide +kernel
theorem dX11_isTrue_40 : decode cX11_isTrue 40 = .ok (.istore 5, 2) := by decide +kernel
theorem dX11_isTrue_42 : decode cX11_isTrue 42 = .ok (.aload_n 0, 1) := by decide +kernel
theorem dX11_isTrue_43 : decode cX11_isTrue 43 = .ok (.getfield 77, 3) := by decide +kernel
theorem dX11_isTrue_46 : decode cX11_isTrue 46 = .ok (.iload 4, 2) := by decide +kernel
theorem dX11_isTrue_48 : decode cX11_isTrue 48 = .ok (.iaload, 1) := by decide +kernel
theorem dX11_isTrue_49 : decode cX11_isTrue 49 = .ok (.ldc 231, 2) := by decide +kernel
theorem dX11_isTrue_51 : decode cX11_isTrue 51 = .ok (.irem, 1) := by decide +kernel
theorem dX11_isTrue_52 : decode cX11_isTrue 52 = .ok (.istore 6, 2) := by decide +kernel
theorem dX11_isTrue_54 : decode cX11_isTrue 54 = .ok (.iload 4, 2) := by decide +kernel
theorem dX11_isTrue_56 : decode cX11_isTrue 56 = .ok (.iconst 1, 1) := by decide +kernel
theorem dX11_isTrue_57 : decode cX11_isTrue 57 = .ok (.iadd, 1) := by decide +kernel
theorem dX11_isTrue_58 : decode cX11_isTrue 58 = .ok (.istore 4, 2) := by decide +kernel
theorem dX11_isTrue_60 : decode cX11_isTrue 60 = .ok (.iload 5, 2) := by decide +kernel
theorem dX11_isTrue_62 : decode cX11_isTrue 62 = .ok (.ifCond .eq 9, 3) := by decide +kernel
theorem dX11_isTrue_65 : decode cX11_isTrue 65 = .ok (.iload 5, 2) := by decide +kernel
theorem dX11_isTrue_67 : decode cX11_isTrue 67 = .ok (.iconst 1, 1) := by decide +kernel
theorem dX11_isTrue_68 : decode cX11_isTrue 68 = .ok (.if_icmp .ne 33, 3) := by decide +kernel
theorem dX11_isTrue_71 : decode cX11_isTrue 71 = .ok (.aload_n 0, 1) := by decide +kernel
theorem dX11_isTrue_72 : decode cX11_isTrue 72 = .ok (.getfield 92, 3) := by decide +kernel
theorem dX11_isTrue_75 : decode cX11_isTrue 75 = .ok (.iload_n 2, 1) := by decide +kernel
theorem dX11_isTrue_76 : decode cX11_isTrue 76 = .ok (.iload 5, 2) := by decide +kernel
theorem dX11_isTrue_78 : decode cX11_isTrue 78 = .ok (.ifCond .ne 8, 3) := by decide +kernel
theorem dX11_isTrue_81 : decode cX11_isTrue 81 = .ok (.iload 6, 2) := by decide +kernel
theorem dX11_isTrue_83 : decode cX11_isTrue 83 = .ok (.goto 10, 3) := by decide +kernel
theorem dX11_isTrue_86 : decode cX11_isTrue 86 = .ok (.aload_n 0, 1) := by decide +kernel
theorem dX11_isTrue_87 : decode cX11_isTrue 87 = .ok (.getfield 95, 3) := by decide +kernel
theorem dX11_isTrue_90 : decode cX11_isTrue 90 = .ok (.iload 6, 2) := by decide +kernel
theorem dX11_isTrue_92 : decode cX11_isTrue 92 = .ok (.iaload, 1) := by decide +kernel
theorem dX11_isTrue_93 : decode cX11_isTrue 93 = .ok (.iastore, 1) := by decide +kernel
theorem dX11_isTrue_94 : decode cX11_isTrue 94 = .ok (.iload_n 2, 1) := by decide +kernel
