theorem dX0_init_0 : decode cX0_init 0 = .ok (.aload_n 0, 1) := by decide +kernel
theorem dX0_init_1 : decode cX0_init 1 = .ok (.invokespecial 3, 3) := by decide +kernel
theorem dX0_init_4 : decode cX0_init 4 = .ok (.return_, 1) := by decide +kernel
theorem dX0_begin_0 : decode cX0_begin 0 = .ok (.aload_n 0, 1) := by decide +kernel
theorem dX0_begin_1 : decode cX0_begin 1 = .ok (.iload_n 1, 1) := by decide +kernel
theorem dX0_begin_2 : decode cX0_begin 2 = .ok (.invokevirtual 9, 3) := by decide +kernel
theorem dX0_begin_5 : decode cX0_begin 5 = .ok (.aload_n 0, 1) := by decide +kernel
theorem dX0_begin_6 : decode cX0_begin 6 = .ok (.iconst 1, 1) := by decide +kernel
theorem dX0_begin_7 : decode cX0_begin 7 = .ok (.putfield 15, 3) := by decide +kernel
theorem dX0_begin_10 : decode cX0_begin 10 = .ok (.aload_n 0, 1) := by decide +kernel
theorem dX0_begin_11 : decode cX0_begin 11 = .ok (.iconst 0, 1) := by decide +kernel
theorem dX0_begin_12 : decode cX0_begin 12 = .ok (.putfield 19, 3) := by decide +kernel
theorem dX0_begin_15 : decode cX0_begin 15 = .ok (.return_, 1) := by decide +kernel
theorem dX0_take_0 : decode cX0_take 0 = .ok (.aload_n 0, 1) := by decide +kernel
theorem dX0_take_1 : decode cX0_take 1 = .ok (.iload_n 1, 1) := by decide +kernel
theorem dX0_take_2 : decode cX0_take 2 = .ok (.bipush 10, 2) := by decide +kernel
theorem dX0_take_4 : decode cX0_take 4 = .ok (.idiv, 1) := by decide +kernel
theorem dX0_take_5 : decode cX0_take 5 = .ok (.putfield 22, 3) := by decide +kernel
theorem dX0_take_8 : decode cX0_take 8 = .ok (.aload_n 0, 1) := by decide +kernel
theorem dX0_take_9 : decode cX0_take 9 = .ok (.iload_n 1, 1) := by decide +kernel
theorem dX0_take_10 : decode cX0_take 10 = .ok (.bipush 10, 2) := by decide +kernel
theorem dX0_take_12 : decode cX0_take 12 = .ok (.irem, 1) := by decide +kernel
theorem dX0_take_13 : decode cX0_take 13 = .ok (.putfield 25, 3) := by decide +kernel
theorem dX0_take_16 : decode cX0_take 16 = .ok (.return_, 1) := by decide +kernel
theorem dX0_isOf_0 : decode cX0_isOf 0 = .ok (.aload_n 0, 1) := by decide +kernel
theorem dX0_isOf_1 : decode cX0_isOf 1 = .ok (.getfield 22, 3) := by decide +kernel
theorem dX0_isOf_4 : decode cX0_isOf 4 = .ok (.istore_n 2, 1) := by decide +kernel
theorem dX0_isOf_5 : decode cX0_isOf 5 = .ok (.iconst 0, 1) := by decide +kernel
theorem dX0_isOf_6 : decode cX0_isOf 6 = .ok (.istore_n 3, 1) := by decide +kernel
theorem dX0_isOf_7 : decode cX0_isOf 7 = .ok (.iload_n 3, 1) := by decide +kernel
theorem dX0_isOf_8 : decode cX0_isOf 8 = .ok (.bipush 7, 2) := by decide +kernel
theorem dX0_isOf_10 : decode cX0_isOf 10 = .ok (.if_icmp .ge 23, 3) := by decide +kernel
theorem dX0_isOf_13 : decode cX0_isOf 13 = .ok (.iload_n 2, 1) := by decide +kernel
theorem dX0_isOf_14 : decode cX0_isOf 14 = .ok (.iload_n 1, 1) := by decide +kernel
theorem dX0_isOf_15 : decode cX0_isOf 15 = .ok (.if_icmp .eq 18, 3) := by decide +kernel
theorem dX0_isOf_18 : decode cX0_isOf 18 = .ok (.iload_n 2, 1) := by decide +kernel
theorem dX0_isOf_19 : decode cX0_isOf 19 = .ok (.ifCond .le 14, 3) := by decide +kernel
theorem dX0_isOf_22 : decode cX0_isOf 22 = .ok (.iload_n 2, 1) := by decide +kernel
theorem dX0_isOf_23 : decode cX0_isOf 23 = .ok (.invokestatic 28, 3) := by decide +kernel
theorem dX0_isOf_26 : decode cX0_isOf 26 = .ok (.istore_n 2, 1) := by decide +kernel
theorem dX0_isOf_27 : decode cX0_isOf 27 = .ok (.iinc 3 1, 3) := by decide +kernel
theorem dX0_isOf_30 : decode cX0_isOf 30 = .ok (.goto (-23), 3) := by decide +kernel
theorem dX0_isOf_33 : decode cX0_isOf 33 = .ok (.iload_n 2, 1) := by decide +kernel
theorem dX0_isOf_34 : decode cX0_isOf 34 = .ok (.iload_n 1, 1) := by decide +kernel
theorem dX0_isOf_35 : decode cX0_isOf 35 = .ok (.if_icmp .ne 7, 3) := by decide +kernel
theorem dX0_isOf_38 : decode cX0_isOf 38 = .ok (.iconst 1, 1) := by decide +kernel
theorem dX0_isOf_39 : decode cX0_isOf 39 = .ok (.goto 4, 3) := by decide +kernel
theorem dX0_isOf_42 : decode cX0_isOf 42 = .ok (.iconst 0, 1) := by decide +kernel
theorem dX0_isOf_43 : decode cX0_isOf 43 = .ok (.ireturn, 1) := by decide +kernel
theorem dX0_kindAbove_0 : decode cX0_kindAbove 0 = .ok (.iload_n 0, 1) := by decide +kernel
theorem dX0_kindAbove_1 : decode cX0_kindAbove 1 = .ok (.tableswitch 47 1 6 #[39, 39, 39, 41, 43, 45], 39) := by decide +kernel
theorem dX0_kindAbove_40 : decode cX0_kindAbove 40 = .ok (.iconst 0, 1) := by decide +kernel
theorem dX0_kindAbove_41 : decode cX0_kindAbove 41 = .ok (.ireturn, 1) := by decide +kernel
theorem dX0_kindAbove_42 : decode cX0_kindAbove 42 = .ok (.iconst 1, 1) := by decide +kernel
theorem dX0_kindAbove_43 : decode cX0_kindAbove 43 = .ok (.ireturn, 1) := by decide +kernel
theorem dX0_kindAbove_44 : decode cX0_kindAbove 44 = .ok (.iconst 2, 1) := by decide +kernel
theorem dX0_kindAbove_45 : decode cX0_kindAbove 45 = .ok (.ireturn, 1) := by decide +kernel
theorem dX0_kindAbove_46 : decode cX0_kindAbove 46 = .ok (.iconst 3, 1) := by decide +kernel
theorem dX0_kindAbove_47 : decode cX0_kindAbove 47 = .ok (.ireturn, 1) := by decide +kernel
theorem dX0_kindAbove_48 : decode cX0_kindAbove 48 = .ok (.iconst (-1), 1) := by decide +kernel
theorem dX0_kindAbove_49 : decode cX0_kindAbove 49 = .ok (.ireturn, 1) := by decide +kernel
theorem dX0_lag_0 : decode cX0_lag 0 = .ok (.aload_n 0, 1) := by decide +kernel
theorem dX0_lag_1 : decode cX0_lag 1 = .ok (.getfield 22, 3) := by decide +kernel
theorem dX0_lag_4 : decode cX0_lag 4 = .ok (.tableswitch 69 2 6 #[36, 52, 69, 45, 52], 36) := by decide +kernel
theorem dX0_lag_40 : decode cX0_lag 40 = .ok (.iconst 1, 1) := by decide +kernel
theorem dX0_lag_41 : decode cX0_lag 41 = .ok (.aload_n 0, 1) := by decide +kernel
theorem dX0_lag_42 : decode cX0_lag 42 = .ok (.getfield 25, 3) := by decide +kernel
theorem dX0_lag_45 : decode cX0_lag 45 = .ok (.iconst 3, 1) := by decide +kernel
theorem dX0_lag_46 : decode cX0_lag 46 = .ok (.irem, 1) := by decide +kernel
theorem dX0_lag_47 : decode cX0_lag 47 = .ok (.iadd, 1) := by decide +kernel
theorem dX0_lag_48 : decode cX0_lag 48 = .ok (.ireturn, 1) := by decide +kernel
theorem dX0_lag_49 : decode cX0_lag 49 = .ok (.aload_n 0, 1) := by decide +kernel
theorem dX0_lag_50 : decode cX0_lag 50 = .ok (.getfield 25, 3) := by decide +kernel
theorem dX0_lag_53 : decode cX0_lag 53 = .ok (.iconst 3, 1) := by decide +kernel
theorem dX0_lag_54 : decode cX0_lag 54 = .ok (.irem, 1) := by decide +kernel
theorem dX0_lag_55 : decode cX0_lag 55 = .ok (.ireturn, 1) := by decide +kernel
theorem dX0_lag_56 : decode cX0_lag 56 = .ok (.aload_n 0, 1) := by decide +kernel
theorem dX0_lag_57 : decode cX0_lag 57 = .ok (.getfield 19, 3) := by decide +kernel
theorem dX0_lag_60 : decode cX0_lag 60 = .ok (.aload_n 0, 1) := by decide +kernel
theorem dX0_lag_61 : decode cX0_lag 61 = .ok (.getfield 25, 3) := by decide +kernel
theorem dX0_lag_64 : decode cX0_lag 64 = .ok (.if_icmp .le 7, 3) := by decide +kernel
theorem dX0_lag_67 : decode cX0_lag 67 = .ok (.iconst 1, 1) := by decide +kernel
theorem dX0_lag_68 : decode cX0_lag 68 = .ok (.goto 4, 3) := by decide +kernel
theorem dX0_lag_71 : decode cX0_lag 71 = .ok (.iconst 0, 1) := by decide +kernel
theorem dX0_lag_72 : decode cX0_lag 72 = .ok (.ireturn, 1) := by decide +kernel
theorem dX0_lag_73 : decode cX0_lag 73 = .ok (.iconst 0, 1) := by decide +kernel
theorem dX0_lag_74 : decode cX0_lag 74 = .ok (.ireturn, 1) := by decide +kernel
theorem dX0_holds_0 : decode cX0_holds 0 = .ok (.aload_n 0, 1) := by decide +kernel
theorem dX0_holds_1 : decode cX0_holds 1 = .ok (.getfield 22, 3) := by decide +kernel
theorem dX0_holds_4 : decode cX0_holds 4 = .ok (.tableswitch 66 1 6 #[40, 66, 53, 44, 66, 53], 40) := by decide +kernel
theorem dX0_holds_44 : decode cX0_holds 44 = .ok (.iload_n 1, 1) := by decide +kernel
theorem dX0_holds_45 : decode cX0_holds 45 = .ok (.iconst 1, 1) := by decide +kernel
theorem dX0_holds_46 : decode cX0_holds 46 = .ok (.iadd, 1) := by decide +kernel
theorem dX0_holds_47 : decode cX0_holds 47 = .ok (.ireturn, 1) := by decide +kernel
theorem dX0_holds_48 : decode cX0_holds 48 = .ok (.iload_n 1, 1) := by decide +kernel
theorem dX0_holds_49 : decode cX0_holds 49 = .ok (.iconst 1, 1) := by decide +kernel
theorem dX0_holds_50 : decode cX0_holds 50 = .ok (.iadd, 1) := by decide +kernel
theorem dX0_holds_51 : decode cX0_holds 51 = .ok (.aload_n 0, 1) := by decide +kernel
theorem dX0_holds_52 : decode cX0_holds 52 = .ok (.getfield 25, 3) := by decide +kernel
theorem dX0_holds_55 : decode cX0_holds 55 = .ok (.iadd, 1) := by decide +kernel
theorem dX0_holds_56 : decode cX0_holds 56 = .ok (.ireturn, 1) := by decide +kernel
theorem dX0_holds_57 : decode cX0_holds 57 = .ok (.iconst 0, 1) := by decide +kernel
theorem dX0_holds_58 : decode cX0_holds 58 = .ok (.iload_n 1, 1) := by decide +kernel
theorem dX0_holds_59 : decode cX0_holds 59 = .ok (.aload_n 0, 1) := by decide +kernel
theorem dX0_holds_60 : decode cX0_holds 60 = .ok (.getfield 19, 3) := by decide +kernel
theorem dX0_holds_63 : decode cX0_holds 63 = .ok (.iconst 3, 1) := by decide +kernel
theorem dX0_holds_64 : decode cX0_holds 64 = .ok (.idiv, 1) := by decide +kernel
theorem dX0_holds_65 : decode cX0_holds 65 = .ok (.isub, 1) := by decide +kernel
theorem dX0_holds_66 : decode cX0_holds 66 = .ok (.invokestatic 32, 3) := by decide +kernel
theorem dX0_holds_69 : decode cX0_holds 69 = .ok (.ireturn, 1) := by decide +kernel
theorem dX0_holds_70 : decode cX0_holds 70 = .ok (.iload_n 1, 1) := by decide +kernel
theorem dX0_holds_71 : decode cX0_holds 71 = .ok (.ireturn, 1) := by decide +kernel
theorem dX0_harm_0 : decode cX0_harm 0 = .ok (.aload_n 0, 1) := by decide +kernel
theorem dX0_harm_1 : decode cX0_harm 1 = .ok (.getfield 22, 3) := by decide +kernel
theorem dX0_harm_4 : decode cX0_harm 4 = .ok (.lookupswitch 44 #[(3, 28), (6, 35)], 28) := by decide +kernel
theorem dX0_harm_32 : decode cX0_harm 32 = .ok (.iload_n 1, 1) := by decide +kernel
theorem dX0_harm_33 : decode cX0_harm 33 = .ok (.aload_n 0, 1) := by decide +kernel
theorem dX0_harm_34 : decode cX0_harm 34 = .ok (.getfield 19, 3) := by decide +kernel
theorem dX0_harm_37 : decode cX0_harm 37 = .ok (.iadd, 1) := by decide +kernel
theorem dX0_harm_38 : decode cX0_harm 38 = .ok (.ireturn, 1) := by decide +kernel
theorem dX0_harm_39 : decode cX0_harm 39 = .ok (.iload_n 1, 1) := by decide +kernel
theorem dX0_harm_40 : decode cX0_harm 40 = .ok (.aload_n 0, 1) := by decide +kernel
theorem dX0_harm_41 : decode cX0_harm 41 = .ok (.getfield 19, 3) := by decide +kernel
theorem dX0_harm_44 : decode cX0_harm 44 = .ok (.iadd, 1) := by decide +kernel
theorem dX0_harm_45 : decode cX0_harm 45 = .ok (.iconst 2, 1) := by decide +kernel
theorem dX0_harm_46 : decode cX0_harm 46 = .ok (.idiv, 1) := by decide +kernel
theorem dX0_harm_47 : decode cX0_harm 47 = .ok (.ireturn, 1) := by decide +kernel
theorem dX0_harm_48 : decode cX0_harm 48 = .ok (.iload_n 1, 1) := by decide +kernel
theorem dX0_harm_49 : decode cX0_harm 49 = .ok (.ireturn, 1) := by decide +kernel
theorem dX0_copy_0 : decode cX0_copy 0 = .ok (.aload_n 0, 1) := by decide +kernel
theorem dX0_copy_1 : decode cX0_copy 1 = .ok (.aload_n 1, 1) := by decide +kernel
theorem dX0_copy_2 : decode cX0_copy 2 = .ok (.getfield 22, 3) := by decide +kernel
theorem dX0_copy_5 : decode cX0_copy 5 = .ok (.putfield 22, 3) := by decide +kernel
theorem dX0_copy_8 : decode cX0_copy 8 = .ok (.aload_n 0, 1) := by decide +kernel
theorem dX0_copy_9 : decode cX0_copy 9 = .ok (.aload_n 1, 1) := by decide +kernel
theorem dX0_copy_10 : decode cX0_copy 10 = .ok (.getfield 25, 3) := by decide +kernel
theorem dX0_copy_13 : decode cX0_copy 13 = .ok (.putfield 25, 3) := by decide +kernel
theorem dX0_copy_16 : decode cX0_copy 16 = .ok (.aload_n 0, 1) := by decide +kernel
theorem dX0_copy_17 : decode cX0_copy 17 = .ok (.aload_n 1, 1) := by decide +kernel
theorem dX0_copy_18 : decode cX0_copy 18 = .ok (.getfield 15, 3) := by decide +kernel
theorem dX0_copy_21 : decode cX0_copy 21 = .ok (.putfield 15, 3) := by decide +kernel
theorem dX0_copy_24 : decode cX0_copy 24 = .ok (.aload_n 0, 1) := by decide +kernel
theorem dX0_copy_25 : decode cX0_copy 25 = .ok (.aload_n 1, 1) := by decide +kernel
theorem dX0_copy_26 : decode cX0_copy 26 = .ok (.getfield 19, 3) := by decide +kernel
theorem dX0_copy_29 : decode cX0_copy 29 = .ok (.putfield 19, 3) := by decide +kernel
theorem dX0_copy_32 : decode cX0_copy 32 = .ok (.return_, 1) := by decide +kernel
theorem dX1_init_0 : decode cX1_init 0 = .ok (.aload_n 0, 1) := by decide +kernel
theorem dX1_init_1 : decode cX1_init 1 = .ok (.invokespecial 3, 3) := by decide +kernel
theorem dX1_init_4 : decode cX1_init 4 = .ok (.aload_n 0, 1) := by decide +kernel
theorem dX1_init_5 : decode cX1_init 5 = .ok (.bipush 50, 2) := by decide +kernel
theorem dX1_init_7 : decode cX1_init 7 = .ok (.newarray .int, 2) := by decide +kernel
theorem dX1_init_9 : decode cX1_init 9 = .ok (.putfield 9, 3) := by decide +kernel
theorem dX1_init_12 : decode cX1_init 12 = .ok (.aload_n 0, 1) := by decide +kernel
theorem dX1_init_13 : decode cX1_init 13 = .ok (.bipush 50, 2) := by decide +kernel
theorem dX1_init_15 : decode cX1_init 15 = .ok (.newarray .int, 2) := by decide +kernel
theorem dX1_init_17 : decode cX1_init 17 = .ok (.putfield 15, 3) := by decide +kernel
theorem dX1_init_20 : decode cX1_init 20 = .ok (.aload_n 0, 1) := by decide +kernel
theorem dX1_init_21 : decode cX1_init 21 = .ok (.iload_n 1, 1) := by decide +kernel
theorem dX1_init_22 : decode cX1_init 22 = .ok (.ifCond .ne 7, 3) := by decide +kernel
theorem dX1_init_25 : decode cX1_init 25 = .ok (.iconst 1, 1) := by decide +kernel
theorem dX1_init_26 : decode cX1_init 26 = .ok (.goto 4, 3) := by decide +kernel
theorem dX1_init_29 : decode cX1_init 29 = .ok (.iconst 0, 1) := by decide +kernel
theorem dX1_init_30 : decode cX1_init 30 = .ok (.putfield 18, 3) := by decide +kernel
theorem dX1_init_33 : decode cX1_init 33 = .ok (.aload_n 0, 1) := by decide +kernel
theorem dX1_init_34 : decode cX1_init 34 = .ok (.aload_n 0, 1) := by decide +kernel
theorem dX1_init_35 : decode cX1_init 35 = .ok (.getfield 18, 3) := by decide +kernel
theorem dX1_init_38 : decode cX1_init 38 = .ok (.ifCond .eq 7, 3) := by decide +kernel
theorem dX1_init_41 : decode cX1_init 41 = .ok (.iconst 1, 1) := by decide +kernel
theorem dX1_init_42 : decode cX1_init 42 = .ok (.goto 5, 3) := by decide +kernel
theorem dX1_init_45 : decode cX1_init 45 = .ok (.bipush (-99), 2) := by decide +kernel
theorem dX1_init_47 : decode cX1_init 47 = .ok (.putfield 22, 3) := by decide +kernel
theorem dX1_init_50 : decode cX1_init 50 = .ok (.aload_n 0, 1) := by decide +kernel
theorem dX1_init_51 : decode cX1_init 51 = .ok (.aload_n 0, 1) := by decide +kernel
theorem dX1_init_52 : decode cX1_init 52 = .ok (.getfield 18, 3) := by decide +kernel
theorem dX1_init_55 : decode cX1_init 55 = .ok (.ifCond .eq 8, 3) := by decide +kernel
theorem dX1_init_58 : decode cX1_init 58 = .ok (.bipush 30, 2) := by decide +kernel
theorem dX1_init_60 : decode cX1_init 60 = .ok (.goto 5, 3) := by decide +kernel
theorem dX1_init_63 : decode cX1_init 63 = .ok (.bipush 99, 2) := by decide +kernel
theorem dX1_init_65 : decode cX1_init 65 = .ok (.putfield 26, 3) := by decide +kernel
theorem dX1_init_68 : decode cX1_init 68 = .ok (.return_, 1) := by decide +kernel
theorem dX1_take_0 : decode cX1_take 0 = .ok (.aload_n 0, 1) := by decide +kernel
theorem dX1_take_1 : decode cX1_take 1 = .ok (.iload_n 2, 1) := by decide +kernel
theorem dX1_take_2 : decode cX1_take 2 = .ok (.aload_n 1, 1) := by decide +kernel
theorem dX1_take_3 : decode cX1_take 3 = .ok (.arraylength, 1) := by decide +kernel
theorem dX1_take_4 : decode cX1_take 4 = .ok (.bipush 50, 2) := by decide +kernel
theorem dX1_take_6 : decode cX1_take 6 = .ok (.invokestatic 29, 3) := by decide +kernel
theorem dX1_take_9 : decode cX1_take 9 = .ok (.invokestatic 29, 3) := by decide +kernel
theorem dX1_take_12 : decode cX1_take 12 = .ok (.putfield 35, 3) := by decide +kernel
theorem dX1_take_15 : decode cX1_take 15 = .ok (.iconst 0, 1) := by decide +kernel
theorem dX1_take_16 : decode cX1_take 16 = .ok (.istore_n 3, 1) := by decide +kernel
theorem dX1_take_17 : decode cX1_take 17 = .ok (.iload_n 3, 1) := by decide +kernel
theorem dX1_take_18 : decode cX1_take 18 = .ok (.aload_n 0, 1) := by decide +kernel
theorem dX1_take_19 : decode cX1_take 19 = .ok (.getfield 35, 3) := by decide +kernel
theorem dX1_take_22 : decode cX1_take 22 = .ok (.if_icmp .ge 18, 3) := by decide +kernel
theorem dX1_take_25 : decode cX1_take 25 = .ok (.aload_n 0, 1) := by decide +kernel
theorem dX1_take_26 : decode cX1_take 26 = .ok (.getfield 9, 3) := by decide +kernel
theorem dX1_take_29 : decode cX1_take 29 = .ok (.iload_n 3, 1) := by decide +kernel
theorem dX1_take_30 : decode cX1_take 30 = .ok (.aload_n 1, 1) := by decide +kernel
theorem dX1_take_31 : decode cX1_take 31 = .ok (.iload_n 3, 1) := by decide +kernel
theorem dX1_take_32 : decode cX1_take 32 = .ok (.iaload, 1) := by decide +kernel
theorem dX1_take_33 : decode cX1_take 33 = .ok (.iastore, 1) := by decide +kernel
theorem dX1_take_34 : decode cX1_take 34 = .ok (.iinc 3 1, 3) := by decide +kernel
theorem dX1_take_37 : decode cX1_take 37 = .ok (.goto (-20), 3) := by decide +kernel
theorem dX1_take_40 : decode cX1_take 40 = .ok (.return_, 1) := by decide +kernel
theorem dX1_gives_0 : decode cX1_gives 0 = .ok (.iconst 0, 1) := by decide +kernel
theorem dX1_gives_1 : decode cX1_gives 1 = .ok (.istore 4, 2) := by decide +kernel
theorem dX1_gives_3 : decode cX1_gives 3 = .ok (.iconst 0, 1) := by decide +kernel
theorem dX1_gives_4 : decode cX1_gives 4 = .ok (.istore 5, 2) := by decide +kernel
theorem dX1_gives_6 : decode cX1_gives 6 = .ok (.iload 5, 2) := by decide +kernel
theorem dX1_gives_8 : decode cX1_gives 8 = .ok (.aload_n 0, 1) := by decide +kernel
theorem dX1_gives_9 : decode cX1_gives 9 = .ok (.getfield 35, 3) := by decide +kernel
theorem dX1_gives_12 : decode cX1_gives 12 = .ok (.if_icmp .ge 170, 3) := by decide +kernel
theorem dX1_gives_15 : decode cX1_gives 15 = .ok (.iload 5, 2) := by decide +kernel
theorem dX1_gives_17 : decode cX1_gives 17 = .ok (.bipush 50, 2) := by decide +kernel
theorem dX1_gives_19 : decode cX1_gives 19 = .ok (.if_icmp .ge 163, 3) := by decide +kernel
theorem dX1_gives_22 : decode cX1_gives 22 = .ok (.aload_n 0, 1) := by decide +kernel
theorem dX1_gives_23 : decode cX1_gives 23 = .ok (.getfield 9, 3) := by decide +kernel
theorem dX1_gives_26 : decode cX1_gives 26 = .ok (.iload 5, 2) := by decide +kernel
theorem dX1_gives_28 : decode cX1_gives 28 = .ok (.iaload, 1) := by decide +kernel
theorem dX1_gives_29 : decode cX1_gives 29 = .ok (.istore 6, 2) := by decide +kernel
theorem dX1_gives_31 : decode cX1_gives 31 = .ok (.iload 6, 2) := by decide +kernel
theorem dX1_gives_33 : decode cX1_gives 33 = .ok (.invokestatic 38, 3) := by decide +kernel
theorem dX1_gives_36 : decode cX1_gives 36 = .ok (.ifCond .eq 56, 3) := by decide +kernel
theorem dX1_gives_39 : decode cX1_gives 39 = .ok (.iload 4, 2) := by decide +kernel
theorem dX1_gives_41 : decode cX1_gives 41 = .ok (.bipush 50, 2) := by decide +kernel
theorem dX1_gives_43 : decode cX1_gives 43 = .ok (.if_icmp .ge 49, 3) := by decide +kernel
theorem dX1_gives_46 : decode cX1_gives 46 = .ok (.aload_n 0, 1) := by decide +kernel
theorem dX1_gives_47 : decode cX1_gives 47 = .ok (.getfield 15, 3) := by decide +kernel
theorem dX1_gives_50 : decode cX1_gives 50 = .ok (.iload 4, 2) := by decide +kernel
theorem dX1_gives_52 : decode cX1_gives 52 = .ok (.iload 6, 2) := by decide +kernel
theorem dX1_gives_54 : decode cX1_gives 54 = .ok (.ifCond .lt 8, 3) := by decide +kernel
theorem dX1_gives_57 : decode cX1_gives 57 = .ok (.iload 6, 2) := by decide +kernel
theorem dX1_gives_59 : decode cX1_gives 59 = .ok (.goto 26, 3) := by decide +kernel
theorem dX1_gives_62 : decode cX1_gives 62 = .ok (.iload 6, 2) := by decide +kernel
theorem dX1_gives_64 : decode cX1_gives 64 = .ok (.bipush (-107), 2) := by decide +kernel
theorem dX1_gives_66 : decode cX1_gives 66 = .ok (.if_icmp .ne 7, 3) := by decide +kernel
theorem dX1_gives_69 : decode cX1_gives 69 = .ok (.iload_n 1, 1) := by decide +kernel
theorem dX1_gives_70 : decode cX1_gives 70 = .ok (.goto 15, 3) := by decide +kernel
theorem dX1_gives_73 : decode cX1_gives 73 = .ok (.iload 6, 2) := by decide +kernel
theorem dX1_gives_75 : decode cX1_gives 75 = .ok (.bipush (-118), 2) := by decide +kernel
theorem dX1_gives_77 : decode cX1_gives 77 = .ok (.if_icmp .ne 7, 3) := by decide +kernel
theorem dX1_gives_80 : decode cX1_gives 80 = .ok (.iload_n 2, 1) := by decide +kernel
theorem dX1_gives_81 : decode cX1_gives 81 = .ok (.goto 4, 3) := by decide +kernel
theorem dX1_gives_84 : decode cX1_gives 84 = .ok (.iload_n 3, 1) := by decide +kernel
theorem dX1_gives_85 : decode cX1_gives 85 = .ok (.iastore, 1) := by decide +kernel
theorem dX1_gives_86 : decode cX1_gives 86 = .ok (.iinc 4 1, 3) := by decide +kernel
theorem dX1_gives_89 : decode cX1_gives 89 = .ok (.goto 87, 3) := by decide +kernel
theorem dX1_gives_92 : decode cX1_gives 92 = .ok (.iload 6, 2) := by decide +kernel
theorem dX1_gives_94 : decode cX1_gives 94 = .ok (.bipush (-33), 2) := by decide +kernel
theorem dX1_gives_96 : decode cX1_gives 96 = .ok (.if_icmp .ne 38, 3) := by decide +kernel
theorem dX1_gives_99 : decode cX1_gives 99 = .ok (.iload 4, 2) := by decide +kernel
theorem dX1_gives_101 : decode cX1_gives 101 = .ok (.iconst 1, 1) := by decide +kernel
theorem dX1_gives_102 : decode cX1_gives 102 = .ok (.if_icmp .lt 32, 3) := by decide +kernel
theorem dX1_gives_105 : decode cX1_gives 105 = .ok (.aload_n 0, 1) := by decide +kernel
theorem dX1_gives_106 : decode cX1_gives 106 = .ok (.getfield 15, 3) := by decide +kernel
theorem dX1_gives_109 : decode cX1_gives 109 = .ok (.iload 4, 2) := by decide +kernel
theorem dX1_gives_111 : decode cX1_gives 111 = .ok (.iconst 1, 1) := by decide +kernel
theorem dX1_gives_112 : decode cX1_gives 112 = .ok (.isub, 1) := by decide +kernel
theorem dX1_gives_113 : decode cX1_gives 113 = .ok (.aload_n 0, 1) := by decide +kernel
theorem dX1_gives_114 : decode cX1_gives 114 = .ok (.getfield 15, 3) := by decide +kernel
theorem dX1_gives_117 : decode cX1_gives 117 = .ok (.iload 4, 2) := by decide +kernel
theorem dX1_gives_119 : decode cX1_gives 119 = .ok (.iconst 1, 1) := by decide +kernel
theorem dX1_gives_120 : decode cX1_gives 120 = .ok (.isub, 1) := by decide +kernel
theorem dX1_gives_121 : decode cX1_gives 121 = .ok (.iaload, 1) := by decide +kernel
theorem dX1_gives_122 : decode cX1_gives 122 = .ok (.ifCond .ne 7, 3) := by decide +kernel
theorem dX1_gives_125 : decode cX1_gives 125 = .ok (.iconst 1, 1) := by decide +kernel
theorem dX1_gives_126 : decode cX1_gives 126 = .ok (.goto 4, 3) := by decide +kernel
theorem dX1_gives_129 : decode cX1_gives 129 = .ok (.iconst 0, 1) := by decide +kernel
theorem dX1_gives_130 : decode cX1_gives 130 = .ok (.iastore, 1) := by decide +kernel
theorem dX1_gives_131 : decode cX1_gives 131 = .ok (.goto 45, 3) := by decide +kernel
theorem dX1_gives_134 : decode cX1_gives 134 = .ok (.iload 4, 2) := by decide +kernel
theorem dX1_gives_136 : decode cX1_gives 136 = .ok (.iconst 2, 1) := by decide +kernel
theorem dX1_gives_137 : decode cX1_gives 137 = .ok (.if_icmp .lt 39, 3) := by decide +kernel
theorem dX1_gives_140 : decode cX1_gives 140 = .ok (.aload_n 0, 1) := by decide +kernel
theorem dX1_gives_141 : decode cX1_gives 141 = .ok (.getfield 15, 3) := by decide +kernel
theorem dX1_gives_144 : decode cX1_gives 144 = .ok (.iload 4, 2) := by decide +kernel
theorem dX1_gives_146 : decode cX1_gives 146 = .ok (.iconst 2, 1) := by decide +kernel
theorem dX1_gives_147 : decode cX1_gives 147 = .ok (.isub, 1) := by decide +kernel
theorem dX1_gives_148 : decode cX1_gives 148 = .ok (.aload_n 0, 1) := by decide +kernel
theorem dX1_gives_149 : decode cX1_gives 149 = .ok (.getfield 15, 3) := by decide +kernel
theorem dX1_gives_152 : decode cX1_gives 152 = .ok (.iload 4, 2) := by decide +kernel
theorem dX1_gives_154 : decode cX1_gives 154 = .ok (.iconst 2, 1) := by decide +kernel
theorem dX1_gives_155 : decode cX1_gives 155 = .ok (.isub, 1) := by decide +kernel
theorem dX1_gives_156 : decode cX1_gives 156 = .ok (.iaload, 1) := by decide +kernel
theorem dX1_gives_157 : decode cX1_gives 157 = .ok (.iload 6, 2) := by decide +kernel
theorem dX1_gives_159 : decode cX1_gives 159 = .ok (.ineg, 1) := by decide +kernel
theorem dX1_gives_160 : decode cX1_gives 160 = .ok (.aload_n 0, 1) := by decide +kernel
theorem dX1_gives_161 : decode cX1_gives 161 = .ok (.getfield 15, 3) := by decide +kernel
theorem dX1_gives_164 : decode cX1_gives 164 = .ok (.iload 4, 2) := by decide +kernel
theorem dX1_gives_166 : decode cX1_gives 166 = .ok (.iconst 1, 1) := by decide +kernel
theorem dX1_gives_167 : decode cX1_gives 167 = .ok (.isub, 1) := by decide +kernel
theorem dX1_gives_168 : decode cX1_gives 168 = .ok (.iaload, 1) := by decide +kernel
theorem dX1_gives_169 : decode cX1_gives 169 = .ok (.invokestatic 42, 3) := by decide +kernel
theorem dX1_gives_172 : decode cX1_gives 172 = .ok (.iastore, 1) := by decide +kernel
theorem dX1_gives_173 : decode cX1_gives 173 = .ok (.iinc 4 (-1), 3) := by decide +kernel
theorem dX1_gives_176 : decode cX1_gives 176 = .ok (.iinc 5 1, 3) := by decide +kernel
theorem dX1_gives_179 : decode cX1_gives 179 = .ok (.goto (-173), 3) := by decide +kernel
theorem dX1_gives_182 : decode cX1_gives 182 = .ok (.iload 4, 2) := by decide +kernel
theorem dX1_gives_184 : decode cX1_gives 184 = .ok (.iconst 1, 1) := by decide +kernel
theorem dX1_gives_185 : decode cX1_gives 185 = .ok (.if_icmp .lt 12, 3) := by decide +kernel
theorem dX1_gives_188 : decode cX1_gives 188 = .ok (.aload_n 0, 1) := by decide +kernel
theorem dX1_gives_189 : decode cX1_gives 189 = .ok (.getfield 15, 3) := by decide +kernel
theorem dX1_gives_192 : decode cX1_gives 192 = .ok (.iconst 0, 1) := by decide +kernel
theorem dX1_gives_193 : decode cX1_gives 193 = .ok (.iaload, 1) := by decide +kernel
theorem dX1_gives_194 : decode cX1_gives 194 = .ok (.goto 28, 3) := by decide +kernel
theorem dX1_gives_197 : decode cX1_gives 197 = .ok (.aload_n 0, 1) := by decide +kernel
theorem dX1_gives_198 : decode cX1_gives 198 = .ok (.getfield 18, 3) := by decide +kernel
theorem dX1_gives_201 : decode cX1_gives 201 = .ok (.ifCond .eq 11, 3) := by decide +kernel
theorem dX1_gives_204 : decode cX1_gives 204 = .ok (.iconst 3, 1) := by decide +kernel
theorem dX1_gives_205 : decode cX1_gives 205 = .ok (.iload_n 1, 1) := by decide +kernel
theorem dX1_gives_206 : decode cX1_gives 206 = .ok (.iconst 2, 1) := by decide +kernel
theorem dX1_gives_207 : decode cX1_gives 207 = .ok (.imul, 1) := by decide +kernel
theorem dX1_gives_208 : decode cX1_gives 208 = .ok (.iadd, 1) := by decide +kernel
theorem dX1_gives_209 : decode cX1_gives 209 = .ok (.goto 13, 3) := by decide +kernel
theorem dX1_gives_212 : decode cX1_gives 212 = .ok (.iload_n 2, 1) := by decide +kernel
theorem dX1_gives_213 : decode cX1_gives 213 = .ok (.iconst 3, 1) := by decide +kernel
theorem dX1_gives_214 : decode cX1_gives 214 = .ok (.imul, 1) := by decide +kernel
theorem dX1_gives_215 : decode cX1_gives 215 = .ok (.bipush 30, 2) := by decide +kernel
theorem dX1_gives_217 : decode cX1_gives 217 = .ok (.iadd, 1) := by decide +kernel
theorem dX1_gives_218 : decode cX1_gives 218 = .ok (.iload_n 1, 1) := by decide +kernel
theorem dX1_gives_219 : decode cX1_gives 219 = .ok (.iconst 2, 1) := by decide +kernel
theorem dX1_gives_220 : decode cX1_gives 220 = .ok (.imul, 1) := by decide +kernel
theorem dX1_gives_221 : decode cX1_gives 221 = .ok (.isub, 1) := by decide +kernel
theorem dX1_gives_222 : decode cX1_gives 222 = .ok (.istore 5, 2) := by decide +kernel
theorem dX1_gives_224 : decode cX1_gives 224 = .ok (.aload_n 0, 1) := by decide +kernel
theorem dX1_gives_225 : decode cX1_gives 225 = .ok (.getfield 22, 3) := by decide +kernel
theorem dX1_gives_228 : decode cX1_gives 228 = .ok (.aload_n 0, 1) := by decide +kernel
theorem dX1_gives_229 : decode cX1_gives 229 = .ok (.getfield 26, 3) := by decide +kernel
theorem dX1_gives_232 : decode cX1_gives 232 = .ok (.iload 5, 2) := by decide +kernel
theorem dX1_gives_234 : decode cX1_gives 234 = .ok (.invokestatic 29, 3) := by decide +kernel
theorem dX1_gives_237 : decode cX1_gives 237 = .ok (.invokestatic 46, 3) := by decide +kernel
theorem dX1_gives_240 : decode cX1_gives 240 = .ok (.ireturn, 1) := by decide +kernel
theorem dX1_isPart_0 : decode cX1_isPart 0 = .ok (.iload_n 0, 1) := by decide +kernel
theorem dX1_isPart_1 : decode cX1_isPart 1 = .ok (.ifCond .ge 21, 3) := by decide +kernel
theorem dX1_isPart_4 : decode cX1_isPart 4 = .ok (.iload_n 0, 1) := by decide +kernel
theorem dX1_isPart_5 : decode cX1_isPart 5 = .ok (.bipush (-107), 2) := by decide +kernel
theorem dX1_isPart_7 : decode cX1_isPart 7 = .ok (.if_icmp .eq 15, 3) := by decide +kernel
theorem dX1_isPart_10 : decode cX1_isPart 10 = .ok (.iload_n 0, 1) := by decide +kernel
theorem dX1_isPart_11 : decode cX1_isPart 11 = .ok (.bipush (-118), 2) := by decide +kernel
theorem dX1_isPart_13 : decode cX1_isPart 13 = .ok (.if_icmp .eq 9, 3) := by decide +kernel
theorem dX1_isPart_16 : decode cX1_isPart 16 = .ok (.iload_n 0, 1) := by decide +kernel
theorem dX1_isPart_17 : decode cX1_isPart 17 = .ok (.bipush (-109), 2) := by decide +kernel
theorem dX1_isPart_19 : decode cX1_isPart 19 = .ok (.if_icmp .ne 7, 3) := by decide +kernel
theorem dX1_isPart_22 : decode cX1_isPart 22 = .ok (.iconst 1, 1) := by decide +kernel
theorem dX1_isPart_23 : decode cX1_isPart 23 = .ok (.goto 4, 3) := by decide +kernel
theorem dX1_isPart_26 : decode cX1_isPart 26 = .ok (.iconst 0, 1) := by decide +kernel
theorem dX1_isPart_27 : decode cX1_isPart 27 = .ok (.ireturn, 1) := by decide +kernel
theorem dX1_joined_0 : decode cX1_joined 0 = .ok (.iload_n 1, 1) := by decide +kernel
theorem dX1_joined_1 : decode cX1_joined 1 = .ok (.lookupswitch 168 #[(38, 97), (42, 152), (43, 144), (45, 148), (47, 156), (60, 111), (61, 122), (62, 133), (124, 83)], 83) := by decide +kernel
theorem dX1_joined_84 : decode cX1_joined 84 = .ok (.iload_n 0, 1) := by decide +kernel
theorem dX1_joined_85 : decode cX1_joined 85 = .ok (.ifCond .ne 7, 3) := by decide +kernel
theorem dX1_joined_88 : decode cX1_joined 88 = .ok (.iload_n 2, 1) := by decide +kernel
theorem dX1_joined_89 : decode cX1_joined 89 = .ok (.ifCond .eq 7, 3) := by decide +kernel
theorem dX1_joined_92 : decode cX1_joined 92 = .ok (.iconst 1, 1) := by decide +kernel
theorem dX1_joined_93 : decode cX1_joined 93 = .ok (.goto 4, 3) := by decide +kernel
theorem dX1_joined_96 : decode cX1_joined 96 = .ok (.iconst 0, 1) := by decide +kernel
theorem dX1_joined_97 : decode cX1_joined 97 = .ok (.ireturn, 1) := by decide +kernel
theorem dX1_joined_98 : decode cX1_joined 98 = .ok (.iload_n 0, 1) := by decide +kernel
theorem dX1_joined_99 : decode cX1_joined 99 = .ok (.ifCond .eq 11, 3) := by decide +kernel
theorem dX1_joined_102 : decode cX1_joined 102 = .ok (.iload_n 2, 1) := by decide +kernel
theorem dX1_joined_103 : decode cX1_joined 103 = .ok (.ifCond .eq 7, 3) := by decide +kernel
theorem dX1_joined_106 : decode cX1_joined 106 = .ok (.iconst 1, 1) := by decide +kernel
theorem dX1_joined_107 : decode cX1_joined 107 = .ok (.goto 4, 3) := by decide +kernel
theorem dX1_joined_110 : decode cX1_joined 110 = .ok (.iconst 0, 1) := by decide +kernel
theorem dX1_joined_111 : decode cX1_joined 111 = .ok (.ireturn, 1) := by decide +kernel
theorem dX1_joined_112 : decode cX1_joined 112 = .ok (.iload_n 0, 1) := by decide +kernel
theorem dX1_joined_113 : decode cX1_joined 113 = .ok (.iload_n 2, 1) := by decide +kernel
theorem dX1_joined_114 : decode cX1_joined 114 = .ok (.if_icmp .ge 7, 3) := by decide +kernel
theorem dX1_joined_117 : decode cX1_joined 117 = .ok (.iconst 1, 1) := by decide +kernel
theorem dX1_joined_118 : decode cX1_joined 118 = .ok (.goto 4, 3) := by decide +kernel
theorem dX1_joined_121 : decode cX1_joined 121 = .ok (.iconst 0, 1) := by decide +kernel
theorem dX1_joined_122 : decode cX1_joined 122 = .ok (.ireturn, 1) := by decide +kernel
theorem dX1_joined_123 : decode cX1_joined 123 = .ok (.iload_n 0, 1) := by decide +kernel
theorem dX1_joined_124 : decode cX1_joined 124 = .ok (.iload_n 2, 1) := by decide +kernel
theorem dX1_joined_125 : decode cX1_joined 125 = .ok (.if_icmp .ne 7, 3) := by decide +kernel
theorem dX1_joined_128 : decode cX1_joined 128 = .ok (.iconst 1, 1) := by decide +kernel
theorem dX1_joined_129 : decode cX1_joined 129 = .ok (.goto 4, 3) := by decide +kernel
theorem dX1_joined_132 : decode cX1_joined 132 = .ok (.iconst 0, 1) := by decide +kernel
theorem dX1_joined_133 : decode cX1_joined 133 = .ok (.ireturn, 1) := by decide +kernel
theorem dX1_joined_134 : decode cX1_joined 134 = .ok (.iload_n 0, 1) := by decide +kernel
theorem dX1_joined_135 : decode cX1_joined 135 = .ok (.iload_n 2, 1) := by decide +kernel
theorem dX1_joined_136 : decode cX1_joined 136 = .ok (.if_icmp .le 7, 3) := by decide +kernel
theorem dX1_joined_139 : decode cX1_joined 139 = .ok (.iconst 1, 1) := by decide +kernel
theorem dX1_joined_140 : decode cX1_joined 140 = .ok (.goto 4, 3) := by decide +kernel
theorem dX1_joined_143 : decode cX1_joined 143 = .ok (.iconst 0, 1) := by decide +kernel
theorem dX1_joined_144 : decode cX1_joined 144 = .ok (.ireturn, 1) := by decide +kernel
theorem dX1_joined_145 : decode cX1_joined 145 = .ok (.iload_n 0, 1) := by decide +kernel
theorem dX1_joined_146 : decode cX1_joined 146 = .ok (.iload_n 2, 1) := by decide +kernel
theorem dX1_joined_147 : decode cX1_joined 147 = .ok (.iadd, 1) := by decide +kernel
theorem dX1_joined_148 : decode cX1_joined 148 = .ok (.ireturn, 1) := by decide +kernel
theorem dX1_joined_149 : decode cX1_joined 149 = .ok (.iload_n 0, 1) := by decide +kernel
theorem dX1_joined_150 : decode cX1_joined 150 = .ok (.iload_n 2, 1) := by decide +kernel
theorem dX1_joined_151 : decode cX1_joined 151 = .ok (.isub, 1) := by decide +kernel
theorem dX1_joined_152 : decode cX1_joined 152 = .ok (.ireturn, 1) := by decide +kernel
theorem dX1_joined_153 : decode cX1_joined 153 = .ok (.iload_n 0, 1) := by decide +kernel
theorem dX1_joined_154 : decode cX1_joined 154 = .ok (.iload_n 2, 1) := by decide +kernel
theorem dX1_joined_155 : decode cX1_joined 155 = .ok (.imul, 1) := by decide +kernel
theorem dX1_joined_156 : decode cX1_joined 156 = .ok (.ireturn, 1) := by decide +kernel
theorem dX1_joined_157 : decode cX1_joined 157 = .ok (.iload_n 2, 1) := by decide +kernel
theorem dX1_joined_158 : decode cX1_joined 158 = .ok (.ifCond .ne 7, 3) := by decide +kernel
theorem dX1_joined_161 : decode cX1_joined 161 = .ok (.iconst 0, 1) := by decide +kernel
theorem dX1_joined_162 : decode cX1_joined 162 = .ok (.goto 6, 3) := by decide +kernel
theorem dX1_joined_165 : decode cX1_joined 165 = .ok (.iload_n 0, 1) := by decide +kernel
theorem dX1_joined_166 : decode cX1_joined 166 = .ok (.iload_n 2, 1) := by decide +kernel
theorem dX1_joined_167 : decode cX1_joined 167 = .ok (.idiv, 1) := by decide +kernel
theorem dX1_joined_168 : decode cX1_joined 168 = .ok (.ireturn, 1) := by decide +kernel
theorem dX1_joined_169 : decode cX1_joined 169 = .ok (.iload_n 2, 1) := by decide +kernel
theorem dX1_joined_170 : decode cX1_joined 170 = .ok (.ifCond .ne 7, 3) := by decide +kernel
theorem dX1_joined_173 : decode cX1_joined 173 = .ok (.iconst 0, 1) := by decide +kernel
theorem dX1_joined_174 : decode cX1_joined 174 = .ok (.goto 6, 3) := by decide +kernel
theorem dX1_joined_177 : decode cX1_joined 177 = .ok (.iload_n 0, 1) := by decide +kernel
theorem dX1_joined_178 : decode cX1_joined 178 = .ok (.iload_n 2, 1) := by decide +kernel
theorem dX1_joined_179 : decode cX1_joined 179 = .ok (.irem, 1) := by decide +kernel
theorem dX1_joined_180 : decode cX1_joined 180 = .ok (.ireturn, 1) := by decide +kernel
theorem dX1_copy_0 : decode cX1_copy 0 = .ok (.aload_n 0, 1) := by decide +kernel
theorem dX1_copy_1 : decode cX1_copy 1 = .ok (.aload_n 1, 1) := by decide +kernel
theorem dX1_copy_2 : decode cX1_copy 2 = .ok (.getfield 9, 3) := by decide +kernel
theorem dX1_copy_5 : decode cX1_copy 5 = .ok (.aload_n 1, 1) := by decide +kernel
theorem dX1_copy_6 : decode cX1_copy 6 = .ok (.getfield 35, 3) := by decide +kernel
theorem dX1_copy_9 : decode cX1_copy 9 = .ok (.invokevirtual 49, 3) := by decide +kernel
theorem dX1_copy_12 : decode cX1_copy 12 = .ok (.return_, 1) := by decide +kernel
theorem dX2_init_0 : decode cX2_init 0 = .ok (.aload_n 0, 1) := by decide +kernel
theorem dX2_init_1 : decode cX2_init 1 = .ok (.invokespecial 3, 3) := by decide +kernel
theorem dX2_init_4 : decode cX2_init 4 = .ok (.aload_n 0, 1) := by decide +kernel
theorem dX2_init_5 : decode cX2_init 5 = .ok (.bipush 50, 2) := by decide +kernel
theorem dX2_init_7 : decode cX2_init 7 = .ok (.newarray .int, 2) := by decide +kernel
theorem dX2_init_9 : decode cX2_init 9 = .ok (.putfield 9, 3) := by decide +kernel
theorem dX2_init_12 : decode cX2_init 12 = .ok (.aload_n 0, 1) := by decide +kernel
theorem dX2_init_13 : decode cX2_init 13 = .ok (.aload_n 1, 1) := by decide +kernel
theorem dX2_init_14 : decode cX2_init 14 = .ok (.putfield 15, 3) := by decide +kernel
theorem dX2_init_17 : decode cX2_init 17 = .ok (.return_, 1) := by decide +kernel
theorem dX2_readTape_0 : decode cX2_readTape 0 = .ok (.aload_n 0, 1) := by decide +kernel
theorem dX2_readTape_1 : decode cX2_readTape 1 = .ok (.iconst 0, 1) := by decide +kernel
theorem dX2_readTape_2 : decode cX2_readTape 2 = .ok (.putfield 19, 3) := by decide +kernel
theorem dX2_readTape_5 : decode cX2_readTape 5 = .ok (.aload_n 0, 1) := by decide +kernel
theorem dX2_readTape_6 : decode cX2_readTape 6 = .ok (.iconst 0, 1) := by decide +kernel
theorem dX2_readTape_7 : decode cX2_readTape 7 = .ok (.putfield 23, 3) := by decide +kernel
theorem dX2_readTape_10 : decode cX2_readTape 10 = .ok (.aload_n 0, 1) := by decide +kernel
theorem dX2_readTape_11 : decode cX2_readTape 11 = .ok (.iconst 0, 1) := by decide +kernel
theorem dX2_readTape_12 : decode cX2_readTape 12 = .ok (.putfield 26, 3) := by decide +kernel
theorem dX2_readTape_15 : decode cX2_readTape 15 = .ok (.aload_n 0, 1) := by decide +kernel
theorem dX2_readTape_16 : decode cX2_readTape 16 = .ok (.iconst 0, 1) := by decide +kernel
theorem dX2_readTape_17 : decode cX2_readTape 17 = .ok (.iconst 0, 1) := by decide +kernel
theorem dX2_readTape_18 : decode cX2_readTape 18 = .ok (.invokevirtual 30, 3) := by decide +kernel
theorem dX2_readTape_21 : decode cX2_readTape 21 = .ok (.aload_n 0, 1) := by decide +kernel
theorem dX2_readTape_22 : decode cX2_readTape 22 = .ok (.getfield 26, 3) := by decide +kernel
theorem dX2_readTape_25 : decode cX2_readTape 25 = .ok (.ifCond .ne 11, 3) := by decide +kernel
theorem dX2_readTape_28 : decode cX2_readTape 28 = .ok (.aload_n 0, 1) := by decide +kernel
theorem dX2_readTape_29 : decode cX2_readTape 29 = .ok (.invokevirtual 34, 3) := by decide +kernel
theorem dX2_readTape_32 : decode cX2_readTape 32 = .ok (.iconst (-1), 1) := by decide +kernel
theorem dX2_readTape_33 : decode cX2_readTape 33 = .ok (.if_icmp .eq 10, 3) := by decide +kernel
theorem dX2_readTape_36 : decode cX2_readTape 36 = .ok (.aload_n 0, 1) := by decide +kernel
theorem dX2_readTape_37 : decode cX2_readTape 37 = .ok (.getfield 23, 3) := by decide +kernel
theorem dX2_readTape_40 : decode cX2_readTape 40 = .ok (.goto 4, 3) := by decide +kernel
theorem dX2_readTape_43 : decode cX2_readTape 43 = .ok (.iconst (-1), 1) := by decide +kernel
theorem dX2_readTape_44 : decode cX2_readTape 44 = .ok (.ireturn, 1) := by decide +kernel
theorem dX2_next_0 : decode cX2_next 0 = .ok (.aload_n 0, 1) := by decide +kernel
theorem dX2_next_1 : decode cX2_next 1 = .ok (.getfield 23, 3) := by decide +kernel
theorem dX2_next_4 : decode cX2_next 4 = .ok (.ifCond .lt 41, 3) := by decide +kernel
theorem dX2_next_7 : decode cX2_next 7 = .ok (.aload_n 0, 1) := by decide +kernel
theorem dX2_next_8 : decode cX2_next 8 = .ok (.getfield 23, 3) := by decide +kernel
theorem dX2_next_11 : decode cX2_next 11 = .ok (.bipush 50, 2) := by decide +kernel
theorem dX2_next_13 : decode cX2_next 13 = .ok (.if_icmp .ge 32, 3) := by decide +kernel
theorem dX2_next_16 : decode cX2_next 16 = .ok (.aload_n 0, 1) := by decide +kernel
theorem dX2_next_17 : decode cX2_next 17 = .ok (.getfield 23, 3) := by decide +kernel
theorem dX2_next_20 : decode cX2_next 20 = .ok (.aload_n 0, 1) := by decide +kernel
theorem dX2_next_21 : decode cX2_next 21 = .ok (.getfield 15, 3) := by decide +kernel
theorem dX2_next_24 : decode cX2_next 24 = .ok (.getfield 38, 3) := by decide +kernel
theorem dX2_next_27 : decode cX2_next 27 = .ok (.if_icmp .ge 18, 3) := by decide +kernel
theorem dX2_next_30 : decode cX2_next 30 = .ok (.aload_n 0, 1) := by decide +kernel
theorem dX2_next_31 : decode cX2_next 31 = .ok (.getfield 15, 3) := by decide +kernel
theorem dX2_next_34 : decode cX2_next 34 = .ok (.getfield 43, 3) := by decide +kernel
theorem dX2_next_37 : decode cX2_next 37 = .ok (.aload_n 0, 1) := by decide +kernel
theorem dX2_next_38 : decode cX2_next 38 = .ok (.getfield 23, 3) := by decide +kernel
theorem dX2_next_41 : decode cX2_next 41 = .ok (.iaload, 1) := by decide +kernel
theorem dX2_next_42 : decode cX2_next 42 = .ok (.goto 4, 3) := by decide +kernel
theorem dX2_next_45 : decode cX2_next 45 = .ok (.iconst (-1), 1) := by decide +kernel
theorem dX2_next_46 : decode cX2_next 46 = .ok (.ireturn, 1) := by decide +kernel
theorem dX2_addStep_0 : decode cX2_addStep 0 = .ok (.aload_n 0, 1) := by decide +kernel
theorem dX2_addStep_1 : decode cX2_addStep 1 = .ok (.getfield 19, 3) := by decide +kernel
theorem dX2_addStep_4 : decode cX2_addStep 4 = .ok (.ifCond .lt 32, 3) := by decide +kernel
theorem dX2_addStep_7 : decode cX2_addStep 7 = .ok (.aload_n 0, 1) := by decide +kernel
theorem dX2_addStep_8 : decode cX2_addStep 8 = .ok (.getfield 19, 3) := by decide +kernel
theorem dX2_addStep_11 : decode cX2_addStep 11 = .ok (.bipush 50, 2) := by decide +kernel
theorem dX2_addStep_13 : decode cX2_addStep 13 = .ok (.if_icmp .ge 23, 3) := by decide +kernel
theorem dX2_addStep_16 : decode cX2_addStep 16 = .ok (.aload_n 0, 1) := by decide +kernel
theorem dX2_addStep_17 : decode cX2_addStep 17 = .ok (.getfield 9, 3) := by decide +kernel
theorem dX2_addStep_20 : decode cX2_addStep 20 = .ok (.aload_n 0, 1) := by decide +kernel
theorem dX2_addStep_21 : decode cX2_addStep 21 = .ok (.getfield 19, 3) := by decide +kernel
theorem dX2_addStep_24 : decode cX2_addStep 24 = .ok (.iload_n 1, 1) := by decide +kernel
theorem dX2_addStep_25 : decode cX2_addStep 25 = .ok (.iastore, 1) := by decide +kernel
theorem dX2_addStep_26 : decode cX2_addStep 26 = .ok (.aload_n 0, 1) := by decide +kernel
theorem dX2_addStep_27 : decode cX2_addStep 27 = .ok (.dup, 1) := by decide +kernel
theorem dX2_addStep_28 : decode cX2_addStep 28 = .ok (.getfield 19, 3) := by decide +kernel
theorem dX2_addStep_31 : decode cX2_addStep 31 = .ok (.iconst 1, 1) := by decide +kernel
theorem dX2_addStep_32 : decode cX2_addStep 32 = .ok (.iadd, 1) := by decide +kernel
theorem dX2_addStep_33 : decode cX2_addStep 33 = .ok (.putfield 19, 3) := by decide +kernel
theorem dX2_addStep_36 : decode cX2_addStep 36 = .ok (.return_, 1) := by decide +kernel
theorem dX2_readLevel_0 : decode cX2_readLevel 0 = .ok (.iload_n 1, 1) := by decide +kernel
theorem dX2_readLevel_1 : decode cX2_readLevel 1 = .ok (.iconst 4, 1) := by decide +kernel
theorem dX2_readLevel_2 : decode cX2_readLevel 2 = .ok (.if_icmp .gt 8, 3) := by decide +kernel
theorem dX2_readLevel_5 : decode cX2_readLevel 5 = .ok (.iload_n 2, 1) := by decide +kernel
theorem dX2_readLevel_6 : decode cX2_readLevel 6 = .ok (.iconst 5, 1) := by decide +kernel
theorem dX2_readLevel_7 : decode cX2_readLevel 7 = .ok (.if_icmp .le 9, 3) := by decide +kernel
theorem dX2_readLevel_10 : decode cX2_readLevel 10 = .ok (.aload_n 0, 1) := by decide +kernel
theorem dX2_readLevel_11 : decode cX2_readLevel 11 = .ok (.iload_n 2, 1) := by decide +kernel
theorem dX2_readLevel_12 : decode cX2_readLevel 12 = .ok (.invokevirtual 46, 3) := by decide +kernel
theorem dX2_readLevel_15 : decode cX2_readLevel 15 = .ok (.return_, 1) := by decide +kernel
theorem dX2_readLevel_16 : decode cX2_readLevel 16 = .ok (.aload_n 0, 1) := by decide +kernel
theorem dX2_readLevel_17 : decode cX2_readLevel 17 = .ok (.iload_n 1, 1) := by decide +kernel
theorem dX2_readLevel_18 : decode cX2_readLevel 18 = .ok (.iconst 1, 1) := by decide +kernel
theorem dX2_readLevel_19 : decode cX2_readLevel 19 = .ok (.iadd, 1) := by decide +kernel
theorem dX2_readLevel_20 : decode cX2_readLevel 20 = .ok (.iload_n 2, 1) := by decide +kernel
theorem dX2_readLevel_21 : decode cX2_readLevel 21 = .ok (.invokevirtual 30, 3) := by decide +kernel
theorem dX2_readLevel_24 : decode cX2_readLevel 24 = .ok (.iload_n 1, 1) := by decide +kernel
theorem dX2_readLevel_25 : decode cX2_readLevel 25 = .ok (.iconst 2, 1) := by decide +kernel
theorem dX2_readLevel_26 : decode cX2_readLevel 26 = .ok (.if_icmp .ne 7, 3) := by decide +kernel
theorem dX2_readLevel_29 : decode cX2_readLevel 29 = .ok (.iconst 1, 1) := by decide +kernel
theorem dX2_readLevel_30 : decode cX2_readLevel 30 = .ok (.goto 5, 3) := by decide +kernel
theorem dX2_readLevel_33 : decode cX2_readLevel 33 = .ok (.bipush 50, 2) := by decide +kernel
theorem dX2_readLevel_35 : decode cX2_readLevel 35 = .ok (.istore_n 3, 1) := by decide +kernel
theorem dX2_readLevel_36 : decode cX2_readLevel 36 = .ok (.iconst 0, 1) := by decide +kernel
theorem dX2_readLevel_37 : decode cX2_readLevel 37 = .ok (.istore 4, 2) := by decide +kernel
theorem dX2_readLevel_39 : decode cX2_readLevel 39 = .ok (.iload 4, 2) := by decide +kernel
theorem dX2_readLevel_41 : decode cX2_readLevel 41 = .ok (.iload_n 3, 1) := by decide +kernel
theorem dX2_readLevel_42 : decode cX2_readLevel 42 = .ok (.if_icmp .ge 58, 3) := by decide +kernel
theorem dX2_readLevel_45 : decode cX2_readLevel 45 = .ok (.aload_n 0, 1) := by decide +kernel
theorem dX2_readLevel_46 : decode cX2_readLevel 46 = .ok (.getfield 26, 3) := by decide +kernel
theorem dX2_readLevel_49 : decode cX2_readLevel 49 = .ok (.ifCond .ne 51, 3) := by decide +kernel
theorem dX2_readLevel_52 : decode cX2_readLevel 52 = .ok (.aload_n 0, 1) := by decide +kernel
theorem dX2_readLevel_53 : decode cX2_readLevel 53 = .ok (.invokevirtual 34, 3) := by decide +kernel
theorem dX2_readLevel_56 : decode cX2_readLevel 56 = .ok (.invokestatic 50, 3) := by decide +kernel
theorem dX2_readLevel_59 : decode cX2_readLevel 59 = .ok (.iload_n 1, 1) := by decide +kernel
theorem dX2_readLevel_60 : decode cX2_readLevel 60 = .ok (.if_icmp .ne 40, 3) := by decide +kernel
theorem dX2_readLevel_63 : decode cX2_readLevel 63 = .ok (.aload_n 0, 1) := by decide +kernel
theorem dX2_readLevel_64 : decode cX2_readLevel 64 = .ok (.invokevirtual 34, 3) := by decide +kernel
theorem dX2_readLevel_67 : decode cX2_readLevel 67 = .ok (.istore 5, 2) := by decide +kernel
theorem dX2_readLevel_69 : decode cX2_readLevel 69 = .ok (.aload_n 0, 1) := by decide +kernel
theorem dX2_readLevel_70 : decode cX2_readLevel 70 = .ok (.dup, 1) := by decide +kernel
theorem dX2_readLevel_71 : decode cX2_readLevel 71 = .ok (.getfield 23, 3) := by decide +kernel
theorem dX2_readLevel_74 : decode cX2_readLevel 74 = .ok (.iconst 1, 1) := by decide +kernel
theorem dX2_readLevel_75 : decode cX2_readLevel 75 = .ok (.iadd, 1) := by decide +kernel
theorem dX2_readLevel_76 : decode cX2_readLevel 76 = .ok (.putfield 23, 3) := by decide +kernel
theorem dX2_readLevel_79 : decode cX2_readLevel 79 = .ok (.aload_n 0, 1) := by decide +kernel
theorem dX2_readLevel_80 : decode cX2_readLevel 80 = .ok (.iload_n 1, 1) := by decide +kernel
theorem dX2_readLevel_81 : decode cX2_readLevel 81 = .ok (.iconst 1, 1) := by decide +kernel
theorem dX2_readLevel_82 : decode cX2_readLevel 82 = .ok (.iadd, 1) := by decide +kernel
theorem dX2_readLevel_83 : decode cX2_readLevel 83 = .ok (.iload_n 2, 1) := by decide +kernel
theorem dX2_readLevel_84 : decode cX2_readLevel 84 = .ok (.invokevirtual 30, 3) := by decide +kernel
theorem dX2_readLevel_87 : decode cX2_readLevel 87 = .ok (.aload_n 0, 1) := by decide +kernel
theorem dX2_readLevel_88 : decode cX2_readLevel 88 = .ok (.iload 5, 2) := by decide +kernel
theorem dX2_readLevel_90 : decode cX2_readLevel 90 = .ok (.ineg, 1) := by decide +kernel
theorem dX2_readLevel_91 : decode cX2_readLevel 91 = .ok (.invokevirtual 54, 3) := by decide +kernel
theorem dX2_readLevel_94 : decode cX2_readLevel 94 = .ok (.iinc 4 1, 3) := by decide +kernel
theorem dX2_readLevel_97 : decode cX2_readLevel 97 = .ok (.goto (-58), 3) := by decide +kernel
theorem dX2_readLevel_100 : decode cX2_readLevel 100 = .ok (.return_, 1) := by decide +kernel
theorem dX2_levelOf_0 : decode cX2_levelOf 0 = .ok (.iload_n 0, 1) := by decide +kernel
theorem dX2_levelOf_1 : decode cX2_levelOf 1 = .ok (.lookupswitch 101 #[(37, 99), (38, 93), (42, 99), (43, 97), (45, 97), (47, 99), (60, 95), (61, 95), (62, 95), (124, 91)], 91) := by decide +kernel
theorem dX2_levelOf_92 : decode cX2_levelOf 92 = .ok (.iconst 0, 1) := by decide +kernel
theorem dX2_levelOf_93 : decode cX2_levelOf 93 = .ok (.ireturn, 1) := by decide +kernel
theorem dX2_levelOf_94 : decode cX2_levelOf 94 = .ok (.iconst 1, 1) := by decide +kernel
theorem dX2_levelOf_95 : decode cX2_levelOf 95 = .ok (.ireturn, 1) := by decide +kernel
theorem dX2_levelOf_96 : decode cX2_levelOf 96 = .ok (.iconst 2, 1) := by decide +kernel
theorem dX2_levelOf_97 : decode cX2_levelOf 97 = .ok (.ireturn, 1) := by decide +kernel
theorem dX2_levelOf_98 : decode cX2_levelOf 98 = .ok (.iconst 3, 1) := by decide +kernel
theorem dX2_levelOf_99 : decode cX2_levelOf 99 = .ok (.ireturn, 1) := by decide +kernel
theorem dX2_levelOf_100 : decode cX2_levelOf 100 = .ok (.iconst 4, 1) := by decide +kernel
theorem dX2_levelOf_101 : decode cX2_levelOf 101 = .ok (.ireturn, 1) := by decide +kernel
theorem dX2_levelOf_102 : decode cX2_levelOf 102 = .ok (.iconst (-1), 1) := by decide +kernel
theorem dX2_levelOf_103 : decode cX2_levelOf 103 = .ok (.ireturn, 1) := by decide +kernel
theorem dX2_readPart_0 : decode cX2_readPart 0 = .ok (.aload_n 0, 1) := by decide +kernel
theorem dX2_readPart_1 : decode cX2_readPart 1 = .ok (.invokevirtual 34, 3) := by decide +kernel
theorem dX2_readPart_4 : decode cX2_readPart 4 = .ok (.istore_n 2, 1) := by decide +kernel
theorem dX2_readPart_5 : decode cX2_readPart 5 = .ok (.iload_n 2, 1) := by decide +kernel
theorem dX2_readPart_6 : decode cX2_readPart 6 = .ok (.invokestatic 57, 3) := by decide +kernel
theorem dX2_readPart_9 : decode cX2_readPart 9 = .ok (.ifCond .eq 10, 3) := by decide +kernel
theorem dX2_readPart_12 : decode cX2_readPart 12 = .ok (.aload_n 0, 1) := by decide +kernel
theorem dX2_readPart_13 : decode cX2_readPart 13 = .ok (.invokevirtual 61, 3) := by decide +kernel
theorem dX2_readPart_16 : decode cX2_readPart 16 = .ok (.goto 160, 3) := by decide +kernel
theorem dX2_readPart_19 : decode cX2_readPart 19 = .ok (.iload_n 2, 1) := by decide +kernel
theorem dX2_readPart_20 : decode cX2_readPart 20 = .ok (.bipush 107, 2) := by decide +kernel
theorem dX2_readPart_22 : decode cX2_readPart 22 = .ok (.if_icmp .eq 15, 3) := by decide +kernel
theorem dX2_readPart_25 : decode cX2_readPart 25 = .ok (.iload_n 2, 1) := by decide +kernel
theorem dX2_readPart_26 : decode cX2_readPart 26 = .ok (.bipush 118, 2) := by decide +kernel
theorem dX2_readPart_28 : decode cX2_readPart 28 = .ok (.if_icmp .eq 9, 3) := by decide +kernel
theorem dX2_readPart_31 : decode cX2_readPart 31 = .ok (.iload_n 2, 1) := by decide +kernel
theorem dX2_readPart_32 : decode cX2_readPart 32 = .ok (.bipush 109, 2) := by decide +kernel
theorem dX2_readPart_34 : decode cX2_readPart 34 = .ok (.if_icmp .ne 22, 3) := by decide +kernel
theorem dX2_readPart_37 : decode cX2_readPart 37 = .ok (.aload_n 0, 1) := by decide +kernel
theorem dX2_readPart_38 : decode cX2_readPart 38 = .ok (.dup, 1) := by decide +kernel
theorem dX2_readPart_39 : decode cX2_readPart 39 = .ok (.getfield 23, 3) := by decide +kernel
theorem dX2_readPart_42 : decode cX2_readPart 42 = .ok (.iconst 1, 1) := by decide +kernel
theorem dX2_readPart_43 : decode cX2_readPart 43 = .ok (.iadd, 1) := by decide +kernel
theorem dX2_readPart_44 : decode cX2_readPart 44 = .ok (.putfield 23, 3) := by decide +kernel
theorem dX2_readPart_47 : decode cX2_readPart 47 = .ok (.aload_n 0, 1) := by decide +kernel
theorem dX2_readPart_48 : decode cX2_readPart 48 = .ok (.iload_n 2, 1) := by decide +kernel
theorem dX2_readPart_49 : decode cX2_readPart 49 = .ok (.ineg, 1) := by decide +kernel
theorem dX2_readPart_50 : decode cX2_readPart 50 = .ok (.invokevirtual 54, 3) := by decide +kernel
theorem dX2_readPart_53 : decode cX2_readPart 53 = .ok (.goto 123, 3) := by decide +kernel
theorem dX2_readPart_56 : decode cX2_readPart 56 = .ok (.iload_n 2, 1) := by decide +kernel
theorem dX2_readPart_57 : decode cX2_readPart 57 = .ok (.bipush 33, 2) := by decide +kernel
theorem dX2_readPart_59 : decode cX2_readPart 59 = .ok (.if_icmp .ne 34, 3) := by decide +kernel
theorem dX2_readPart_62 : decode cX2_readPart 62 = .ok (.iload_n 1, 1) := by decide +kernel
theorem dX2_readPart_63 : decode cX2_readPart 63 = .ok (.iconst 5, 1) := by decide +kernel
theorem dX2_readPart_64 : decode cX2_readPart 64 = .ok (.if_icmp .ge 29, 3) := by decide +kernel
theorem dX2_readPart_67 : decode cX2_readPart 67 = .ok (.aload_n 0, 1) := by decide +kernel
theorem dX2_readPart_68 : decode cX2_readPart 68 = .ok (.dup, 1) := by decide +kernel
theorem dX2_readPart_69 : decode cX2_readPart 69 = .ok (.getfield 23, 3) := by decide +kernel
theorem dX2_readPart_72 : decode cX2_readPart 72 = .ok (.iconst 1, 1) := by decide +kernel
theorem dX2_readPart_73 : decode cX2_readPart 73 = .ok (.iadd, 1) := by decide +kernel
theorem dX2_readPart_74 : decode cX2_readPart 74 = .ok (.putfield 23, 3) := by decide +kernel
theorem dX2_readPart_77 : decode cX2_readPart 77 = .ok (.aload_n 0, 1) := by decide +kernel
theorem dX2_readPart_78 : decode cX2_readPart 78 = .ok (.iload_n 1, 1) := by decide +kernel
theorem dX2_readPart_79 : decode cX2_readPart 79 = .ok (.iconst 1, 1) := by decide +kernel
theorem dX2_readPart_80 : decode cX2_readPart 80 = .ok (.iadd, 1) := by decide +kernel
theorem dX2_readPart_81 : decode cX2_readPart 81 = .ok (.invokevirtual 46, 3) := by decide +kernel
theorem dX2_readPart_84 : decode cX2_readPart 84 = .ok (.aload_n 0, 1) := by decide +kernel
theorem dX2_readPart_85 : decode cX2_readPart 85 = .ok (.iload_n 2, 1) := by decide +kernel
theorem dX2_readPart_86 : decode cX2_readPart 86 = .ok (.ineg, 1) := by decide +kernel
theorem dX2_readPart_87 : decode cX2_readPart 87 = .ok (.invokevirtual 54, 3) := by decide +kernel
theorem dX2_readPart_90 : decode cX2_readPart 90 = .ok (.goto 86, 3) := by decide +kernel
theorem dX2_readPart_93 : decode cX2_readPart 93 = .ok (.iload_n 2, 1) := by decide +kernel
theorem dX2_readPart_94 : decode cX2_readPart 94 = .ok (.bipush 40, 2) := by decide +kernel
theorem dX2_readPart_96 : decode cX2_readPart 96 = .ok (.if_icmp .ne 75, 3) := by decide +kernel
theorem dX2_readPart_99 : decode cX2_readPart 99 = .ok (.iload_n 1, 1) := by decide +kernel
theorem dX2_readPart_100 : decode cX2_readPart 100 = .ok (.iconst 5, 1) := by decide +kernel
theorem dX2_readPart_101 : decode cX2_readPart 101 = .ok (.if_icmp .ge 70, 3) := by decide +kernel
theorem dX2_readPart_104 : decode cX2_readPart 104 = .ok (.aload_n 0, 1) := by decide +kernel
theorem dX2_readPart_105 : decode cX2_readPart 105 = .ok (.dup, 1) := by decide +kernel
theorem dX2_readPart_106 : decode cX2_readPart 106 = .ok (.getfield 23, 3) := by decide +kernel
theorem dX2_readPart_109 : decode cX2_readPart 109 = .ok (.iconst 1, 1) := by decide +kernel
theorem dX2_readPart_110 : decode cX2_readPart 110 = .ok (.iadd, 1) := by decide +kernel
theorem dX2_readPart_111 : decode cX2_readPart 111 = .ok (.putfield 23, 3) := by decide +kernel
theorem dX2_readPart_114 : decode cX2_readPart 114 = .ok (.aload_n 0, 1) := by decide +kernel
theorem dX2_readPart_115 : decode cX2_readPart 115 = .ok (.iconst 0, 1) := by decide +kernel
theorem dX2_readPart_116 : decode cX2_readPart 116 = .ok (.iload_n 1, 1) := by decide +kernel
theorem dX2_readPart_117 : decode cX2_readPart 117 = .ok (.iconst 1, 1) := by decide +kernel
theorem dX2_readPart_118 : decode cX2_readPart 118 = .ok (.iadd, 1) := by decide +kernel
theorem dX2_readPart_119 : decode cX2_readPart 119 = .ok (.invokevirtual 30, 3) := by decide +kernel
theorem dX2_readPart_122 : decode cX2_readPart 122 = .ok (.aload_n 0, 1) := by decide +kernel
theorem dX2_readPart_123 : decode cX2_readPart 123 = .ok (.aload_n 0, 1) := by decide +kernel
theorem dX2_readPart_124 : decode cX2_readPart 124 = .ok (.getfield 26, 3) := by decide +kernel
theorem dX2_readPart_127 : decode cX2_readPart 127 = .ok (.ifCond .ne 12, 3) := by decide +kernel
theorem dX2_readPart_130 : decode cX2_readPart 130 = .ok (.aload_n 0, 1) := by decide +kernel
theorem dX2_readPart_131 : decode cX2_readPart 131 = .ok (.invokevirtual 34, 3) := by decide +kernel
theorem dX2_readPart_134 : decode cX2_readPart 134 = .ok (.bipush 41, 2) := by decide +kernel
theorem dX2_readPart_136 : decode cX2_readPart 136 = .ok (.if_icmp .eq 7, 3) := by decide +kernel
theorem dX2_readPart_139 : decode cX2_readPart 139 = .ok (.iconst 1, 1) := by decide +kernel
theorem dX2_readPart_140 : decode cX2_readPart 140 = .ok (.goto 4, 3) := by decide +kernel
theorem dX2_readPart_143 : decode cX2_readPart 143 = .ok (.iconst 0, 1) := by decide +kernel
theorem dX2_readPart_144 : decode cX2_readPart 144 = .ok (.putfield 26, 3) := by decide +kernel
theorem dX2_readPart_147 : decode cX2_readPart 147 = .ok (.aload_n 0, 1) := by decide +kernel
theorem dX2_readPart_148 : decode cX2_readPart 148 = .ok (.dup, 1) := by decide +kernel
theorem dX2_readPart_149 : decode cX2_readPart 149 = .ok (.getfield 23, 3) := by decide +kernel
theorem dX2_readPart_152 : decode cX2_readPart 152 = .ok (.aload_n 0, 1) := by decide +kernel
theorem dX2_readPart_153 : decode cX2_readPart 153 = .ok (.getfield 26, 3) := by decide +kernel
theorem dX2_readPart_156 : decode cX2_readPart 156 = .ok (.ifCond .eq 7, 3) := by decide +kernel
theorem dX2_readPart_159 : decode cX2_readPart 159 = .ok (.iconst 0, 1) := by decide +kernel
theorem dX2_readPart_160 : decode cX2_readPart 160 = .ok (.goto 4, 3) := by decide +kernel
theorem dX2_readPart_163 : decode cX2_readPart 163 = .ok (.iconst 1, 1) := by decide +kernel
theorem dX2_readPart_164 : decode cX2_readPart 164 = .ok (.iadd, 1) := by decide +kernel
theorem dX2_readPart_165 : decode cX2_readPart 165 = .ok (.putfield 23, 3) := by decide +kernel
theorem dX2_readPart_168 : decode cX2_readPart 168 = .ok (.goto 8, 3) := by decide +kernel
theorem dX2_readPart_171 : decode cX2_readPart 171 = .ok (.aload_n 0, 1) := by decide +kernel
theorem dX2_readPart_172 : decode cX2_readPart 172 = .ok (.iconst 1, 1) := by decide +kernel
theorem dX2_readPart_173 : decode cX2_readPart 173 = .ok (.putfield 26, 3) := by decide +kernel
theorem dX2_readPart_176 : decode cX2_readPart 176 = .ok (.return_, 1) := by decide +kernel
theorem dX2_readNumber_0 : decode cX2_readNumber 0 = .ok (.iconst 0, 1) := by decide +kernel
theorem dX2_readNumber_1 : decode cX2_readNumber 1 = .ok (.istore_n 1, 1) := by decide +kernel
theorem dX2_readNumber_2 : decode cX2_readNumber 2 = .ok (.iconst 0, 1) := by decide +kernel
theorem dX2_readNumber_3 : decode cX2_readNumber 3 = .ok (.istore_n 2, 1) := by decide +kernel
theorem dX2_readNumber_4 : decode cX2_readNumber 4 = .ok (.iload_n 2, 1) := by decide +kernel
theorem dX2_readNumber_5 : decode cX2_readNumber 5 = .ok (.iconst 4, 1) := by decide +kernel
theorem dX2_readNumber_6 : decode cX2_readNumber 6 = .ok (.if_icmp .ge 42, 3) := by decide +kernel
theorem dX2_readNumber_9 : decode cX2_readNumber 9 = .ok (.aload_n 0, 1) := by decide +kernel
theorem dX2_readNumber_10 : decode cX2_readNumber 10 = .ok (.invokevirtual 34, 3) := by decide +kernel
theorem dX2_readNumber_13 : decode cX2_readNumber 13 = .ok (.invokestatic 57, 3) := by decide +kernel
theorem dX2_readNumber_16 : decode cX2_readNumber 16 = .ok (.ifCond .eq 32, 3) := by decide +kernel
theorem dX2_readNumber_19 : decode cX2_readNumber 19 = .ok (.iload_n 1, 1) := by decide +kernel
theorem dX2_readNumber_20 : decode cX2_readNumber 20 = .ok (.bipush 10, 2) := by decide +kernel
theorem dX2_readNumber_22 : decode cX2_readNumber 22 = .ok (.imul, 1) := by decide +kernel
theorem dX2_readNumber_23 : decode cX2_readNumber 23 = .ok (.aload_n 0, 1) := by decide +kernel
theorem dX2_readNumber_24 : decode cX2_readNumber 24 = .ok (.invokevirtual 34, 3) := by decide +kernel
theorem dX2_readNumber_27 : decode cX2_readNumber 27 = .ok (.iadd, 1) := by decide +kernel
theorem dX2_readNumber_28 : decode cX2_readNumber 28 = .ok (.bipush 48, 2) := by decide +kernel
theorem dX2_readNumber_30 : decode cX2_readNumber 30 = .ok (.isub, 1) := by decide +kernel
theorem dX2_readNumber_31 : decode cX2_readNumber 31 = .ok (.istore_n 1, 1) := by decide +kernel
theorem dX2_readNumber_32 : decode cX2_readNumber 32 = .ok (.aload_n 0, 1) := by decide +kernel
theorem dX2_readNumber_33 : decode cX2_readNumber 33 = .ok (.dup, 1) := by decide +kernel
theorem dX2_readNumber_34 : decode cX2_readNumber 34 = .ok (.getfield 23, 3) := by decide +kernel
theorem dX2_readNumber_37 : decode cX2_readNumber 37 = .ok (.iconst 1, 1) := by decide +kernel
theorem dX2_readNumber_38 : decode cX2_readNumber 38 = .ok (.iadd, 1) := by decide +kernel
theorem dX2_readNumber_39 : decode cX2_readNumber 39 = .ok (.putfield 23, 3) := by decide +kernel
theorem dX2_readNumber_42 : decode cX2_readNumber 42 = .ok (.iinc 2 1, 3) := by decide +kernel
theorem dX2_readNumber_45 : decode cX2_readNumber 45 = .ok (.goto (-41), 3) := by decide +kernel
theorem dX2_readNumber_48 : decode cX2_readNumber 48 = .ok (.aload_n 0, 1) := by decide +kernel
theorem dX2_readNumber_49 : decode cX2_readNumber 49 = .ok (.iload_n 1, 1) := by decide +kernel
theorem dX2_readNumber_50 : decode cX2_readNumber 50 = .ok (.invokevirtual 54, 3) := by decide +kernel
theorem dX2_readNumber_53 : decode cX2_readNumber 53 = .ok (.return_, 1) := by decide +kernel
theorem dX2_isDigit_0 : decode cX2_isDigit 0 = .ok (.iload_n 0, 1) := by decide +kernel
theorem dX2_isDigit_1 : decode cX2_isDigit 1 = .ok (.bipush 48, 2) := by decide +kernel
theorem dX2_isDigit_3 : decode cX2_isDigit 3 = .ok (.if_icmp .lt 13, 3) := by decide +kernel
theorem dX2_isDigit_6 : decode cX2_isDigit 6 = .ok (.iload_n 0, 1) := by decide +kernel
theorem dX2_isDigit_7 : decode cX2_isDigit 7 = .ok (.bipush 57, 2) := by decide +kernel
theorem dX2_isDigit_9 : decode cX2_isDigit 9 = .ok (.if_icmp .gt 7, 3) := by decide +kernel
theorem dX2_isDigit_12 : decode cX2_isDigit 12 = .ok (.iconst 1, 1) := by decide +kernel
theorem dX2_isDigit_13 : decode cX2_isDigit 13 = .ok (.goto 4, 3) := by decide +kernel
theorem dX2_isDigit_16 : decode cX2_isDigit 16 = .ok (.iconst 0, 1) := by decide +kernel
theorem dX2_isDigit_17 : decode cX2_isDigit 17 = .ok (.ireturn, 1) := by decide +kernel
theorem dX3_init_0 : decode cX3_init 0 = .ok (.aload_n 0, 1) := by decide +kernel
theorem dX3_init_1 : decode cX3_init 1 = .ok (.invokespecial 3, 3) := by decide +kernel
theorem dX3_init_4 : decode cX3_init 4 = .ok (.aload_n 0, 1) := by decide +kernel
theorem dX3_init_5 : decode cX3_init 5 = .ok (.bipush 40, 2) := by decide +kernel
theorem dX3_init_7 : decode cX3_init 7 = .ok (.newarray .int, 2) := by decide +kernel
theorem dX3_init_9 : decode cX3_init 9 = .ok (.putfield 9, 3) := by decide +kernel
theorem dX3_init_12 : decode cX3_init 12 = .ok (.return_, 1) := by decide +kernel
theorem dX3_isMissing_0 : decode cX3_isMissing 0 = .ok (.aload_n 0, 1) := by decide +kernel
theorem dX3_isMissing_1 : decode cX3_isMissing 1 = .ok (.getfield 15, 3) := by decide +kernel
theorem dX3_isMissing_4 : decode cX3_isMissing 4 = .ok (.ifCond .ne 7, 3) := by decide +kernel
theorem dX3_isMissing_7 : decode cX3_isMissing 7 = .ok (.iconst 1, 1) := by decide +kernel
theorem dX3_isMissing_8 : decode cX3_isMissing 8 = .ok (.goto 4, 3) := by decide +kernel
theorem dX3_isMissing_11 : decode cX3_isMissing 11 = .ok (.iconst 0, 1) := by decide +kernel
theorem dX3_isMissing_12 : decode cX3_isMissing 12 = .ok (.ireturn, 1) := by decide +kernel
theorem dX3_begin_0 : decode cX3_begin 0 = .ok (.aload_n 0, 1) := by decide +kernel
theorem dX3_begin_1 : decode cX3_begin 1 = .ok (.iload_n 1, 1) := by decide +kernel
theorem dX3_begin_2 : decode cX3_begin 2 = .ok (.putfield 15, 3) := by decide +kernel
theorem dX3_begin_5 : decode cX3_begin 5 = .ok (.aload_n 0, 1) := by decide +kernel
theorem dX3_begin_6 : decode cX3_begin 6 = .ok (.iload_n 1, 1) := by decide +kernel
theorem dX3_begin_7 : decode cX3_begin 7 = .ok (.ifCond .ne 7, 3) := by decide +kernel
theorem dX3_begin_10 : decode cX3_begin 10 = .ok (.iconst 0, 1) := by decide +kernel
theorem dX3_begin_11 : decode cX3_begin 11 = .ok (.goto 13, 3) := by decide +kernel
theorem dX3_begin_14 : decode cX3_begin 14 = .ok (.iconst 0, 1) := by decide +kernel
theorem dX3_begin_15 : decode cX3_begin 15 = .ok (.bipush 40, 2) := by decide +kernel
theorem dX3_begin_17 : decode cX3_begin 17 = .ok (.iload_n 2, 1) := by decide +kernel
theorem dX3_begin_18 : decode cX3_begin 18 = .ok (.invokestatic 19, 3) := by decide +kernel
theorem dX3_begin_21 : decode cX3_begin 21 = .ok (.invokestatic 25, 3) := by decide +kernel
theorem dX3_begin_24 : decode cX3_begin 24 = .ok (.putfield 28, 3) := by decide +kernel
theorem dX3_begin_27 : decode cX3_begin 27 = .ok (.iconst 0, 1) := by decide +kernel
theorem dX3_begin_28 : decode cX3_begin 28 = .ok (.istore_n 3, 1) := by decide +kernel
theorem dX3_begin_29 : decode cX3_begin 29 = .ok (.iload_n 3, 1) := by decide +kernel
theorem dX3_begin_30 : decode cX3_begin 30 = .ok (.bipush 40, 2) := by decide +kernel
theorem dX3_begin_32 : decode cX3_begin 32 = .ok (.if_icmp .ge 16, 3) := by decide +kernel
theorem dX3_begin_35 : decode cX3_begin 35 = .ok (.aload_n 0, 1) := by decide +kernel
theorem dX3_begin_36 : decode cX3_begin 36 = .ok (.getfield 9, 3) := by decide +kernel
theorem dX3_begin_39 : decode cX3_begin 39 = .ok (.iload_n 3, 1) := by decide +kernel
theorem dX3_begin_40 : decode cX3_begin 40 = .ok (.iconst 0, 1) := by decide +kernel
theorem dX3_begin_41 : decode cX3_begin 41 = .ok (.iastore, 1) := by decide +kernel
theorem dX3_begin_42 : decode cX3_begin 42 = .ok (.iinc 3 1, 3) := by decide +kernel
theorem dX3_begin_45 : decode cX3_begin 45 = .ok (.goto (-16), 3) := by decide +kernel
theorem dX3_begin_48 : decode cX3_begin 48 = .ok (.return_, 1) := by decide +kernel
theorem dX3_write_0 : decode cX3_write 0 = .ok (.iload_n 1, 1) := by decide +kernel
theorem dX3_write_1 : decode cX3_write 1 = .ok (.ifCond .lt 46, 3) := by decide +kernel
theorem dX3_write_4 : decode cX3_write 4 = .ok (.iload_n 1, 1) := by decide +kernel
theorem dX3_write_5 : decode cX3_write 5 = .ok (.aload_n 0, 1) := by decide +kernel
theorem dX3_write_6 : decode cX3_write 6 = .ok (.getfield 28, 3) := by decide +kernel
theorem dX3_write_9 : decode cX3_write 9 = .ok (.if_icmp .ge 38, 3) := by decide +kernel
theorem dX3_write_12 : decode cX3_write 12 = .ok (.aload_n 0, 1) := by decide +kernel
theorem dX3_write_13 : decode cX3_write 13 = .ok (.getfield 9, 3) := by decide +kernel
theorem dX3_write_16 : decode cX3_write 16 = .ok (.iload_n 1, 1) := by decide +kernel
theorem dX3_write_17 : decode cX3_write 17 = .ok (.aload_n 0, 1) := by decide +kernel
theorem dX3_write_18 : decode cX3_write 18 = .ok (.getfield 15, 3) := by decide +kernel
theorem dX3_write_21 : decode cX3_write 21 = .ok (.bipush 8, 2) := by decide +kernel
theorem dX3_write_23 : decode cX3_write 23 = .ok (.if_icmp .ne 8, 3) := by decide +kernel
theorem dX3_write_26 : decode cX3_write 26 = .ok (.iload_n 2, 1) := by decide +kernel
theorem dX3_write_27 : decode cX3_write 27 = .ok (.i2b, 1) := by decide +kernel
theorem dX3_write_28 : decode cX3_write 28 = .ok (.goto 18, 3) := by decide +kernel
theorem dX3_write_31 : decode cX3_write 31 = .ok (.aload_n 0, 1) := by decide +kernel
theorem dX3_write_32 : decode cX3_write 32 = .ok (.getfield 15, 3) := by decide +kernel
theorem dX3_write_35 : decode cX3_write 35 = .ok (.bipush 16, 2) := by decide +kernel
theorem dX3_write_37 : decode cX3_write 37 = .ok (.if_icmp .ne 8, 3) := by decide +kernel
theorem dX3_write_40 : decode cX3_write 40 = .ok (.iload_n 2, 1) := by decide +kernel
theorem dX3_write_41 : decode cX3_write 41 = .ok (.i2s, 1) := by decide +kernel
theorem dX3_write_42 : decode cX3_write 42 = .ok (.goto 4, 3) := by decide +kernel
theorem dX3_write_45 : decode cX3_write 45 = .ok (.iload_n 2, 1) := by decide +kernel
theorem dX3_write_46 : decode cX3_write 46 = .ok (.iastore, 1) := by decide +kernel
theorem dX3_write_47 : decode cX3_write 47 = .ok (.return_, 1) := by decide +kernel
theorem dX3_read_0 : decode cX3_read 0 = .ok (.iload_n 1, 1) := by decide +kernel
theorem dX3_read_1 : decode cX3_read 1 = .ok (.ifCond .lt 20, 3) := by decide +kernel
theorem dX3_read_4 : decode cX3_read 4 = .ok (.iload_n 1, 1) := by decide +kernel
theorem dX3_read_5 : decode cX3_read 5 = .ok (.aload_n 0, 1) := by decide +kernel
theorem dX3_read_6 : decode cX3_read 6 = .ok (.getfield 28, 3) := by decide +kernel
theorem dX3_read_9 : decode cX3_read 9 = .ok (.if_icmp .ge 12, 3) := by decide +kernel
theorem dX3_read_12 : decode cX3_read 12 = .ok (.aload_n 0, 1) := by decide +kernel
theorem dX3_read_13 : decode cX3_read 13 = .ok (.getfield 9, 3) := by decide +kernel
theorem dX3_read_16 : decode cX3_read 16 = .ok (.iload_n 1, 1) := by decide +kernel
theorem dX3_read_17 : decode cX3_read 17 = .ok (.iaload, 1) := by decide +kernel
theorem dX3_read_18 : decode cX3_read 18 = .ok (.goto 4, 3) := by decide +kernel
theorem dX3_read_21 : decode cX3_read 21 = .ok (.iconst 0, 1) := by decide +kernel
theorem dX3_read_22 : decode cX3_read 22 = .ok (.ireturn, 1) := by decide +kernel
theorem dX3_hasRow_0 : decode cX3_hasRow 0 = .ok (.iload_n 2, 1) := by decide +kernel
theorem dX3_hasRow_1 : decode cX3_hasRow 1 = .ok (.ifCond .lt 29, 3) := by decide +kernel
theorem dX3_hasRow_4 : decode cX3_hasRow 4 = .ok (.iload_n 2, 1) := by decide +kernel
theorem dX3_hasRow_5 : decode cX3_hasRow 5 = .ok (.aload_n 0, 1) := by decide +kernel
theorem dX3_hasRow_6 : decode cX3_hasRow 6 = .ok (.getfield 28, 3) := by decide +kernel
theorem dX3_hasRow_9 : decode cX3_hasRow 9 = .ok (.if_icmp .gt 21, 3) := by decide +kernel
theorem dX3_hasRow_12 : decode cX3_hasRow 12 = .ok (.iload_n 1, 1) := by decide +kernel
theorem dX3_hasRow_13 : decode cX3_hasRow 13 = .ok (.ifCond .lt 17, 3) := by decide +kernel
theorem dX3_hasRow_16 : decode cX3_hasRow 16 = .ok (.iload_n 1, 1) := by decide +kernel
theorem dX3_hasRow_17 : decode cX3_hasRow 17 = .ok (.aload_n 0, 1) := by decide +kernel
theorem dX3_hasRow_18 : decode cX3_hasRow 18 = .ok (.getfield 28, 3) := by decide +kernel
theorem dX3_hasRow_21 : decode cX3_hasRow 21 = .ok (.iload_n 2, 1) := by decide +kernel
theorem dX3_hasRow_22 : decode cX3_hasRow 22 = .ok (.isub, 1) := by decide +kernel
theorem dX3_hasRow_23 : decode cX3_hasRow 23 = .ok (.if_icmp .gt 7, 3) := by decide +kernel
theorem dX3_hasRow_26 : decode cX3_hasRow 26 = .ok (.iconst 1, 1) := by decide +kernel
theorem dX3_hasRow_27 : decode cX3_hasRow 27 = .ok (.goto 4, 3) := by decide +kernel
theorem dX3_hasRow_30 : decode cX3_hasRow 30 = .ok (.iconst 0, 1) := by decide +kernel
theorem dX3_hasRow_31 : decode cX3_hasRow 31 = .ok (.ireturn, 1) := by decide +kernel
theorem dX4_init_0 : decode cX4_init 0 = .ok (.aload_n 0, 1) := by decide +kernel
theorem dX4_init_1 : decode cX4_init 1 = .ok (.invokespecial 3, 3) := by decide +kernel
theorem dX4_init_4 : decode cX4_init 4 = .ok (.aload_n 0, 1) := by decide +kernel
theorem dX4_init_5 : decode cX4_init 5 = .ok (.bipush 12, 2) := by decide +kernel
theorem dX4_init_7 : decode cX4_init 7 = .ok (.putfield 9, 3) := by decide +kernel
theorem dX4_init_10 : decode cX4_init 10 = .ok (.aload_n 0, 1) := by decide +kernel
theorem dX4_init_11 : decode cX4_init 11 = .ok (.bipush 20, 2) := by decide +kernel
theorem dX4_init_13 : decode cX4_init 13 = .ok (.putfield 15, 3) := by decide +kernel
theorem dX4_init_16 : decode cX4_init 16 = .ok (.return_, 1) := by decide +kernel
theorem dX4_takes_0 : decode cX4_takes 0 = .ok (.iload_n 1, 1) := by decide +kernel
theorem dX4_takes_1 : decode cX4_takes 1 = .ok (.tableswitch 55 0 2 #[27, 35, 43], 27) := by decide +kernel
theorem dX4_takes_28 : decode cX4_takes 28 = .ok (.iload_n 2, 1) := by decide +kernel
theorem dX4_takes_29 : decode cX4_takes 29 = .ok (.iconst 4, 1) := by decide +kernel
theorem dX4_takes_30 : decode cX4_takes 30 = .ok (.bipush 40, 2) := by decide +kernel
theorem dX4_takes_32 : decode cX4_takes 32 = .ok (.invokestatic 18, 3) := by decide +kernel
theorem dX4_takes_35 : decode cX4_takes 35 = .ok (.ireturn, 1) := by decide +kernel
theorem dX4_takes_36 : decode cX4_takes 36 = .ok (.iload_n 2, 1) := by decide +kernel
theorem dX4_takes_37 : decode cX4_takes 37 = .ok (.iconst 1, 1) := by decide +kernel
theorem dX4_takes_38 : decode cX4_takes 38 = .ok (.bipush 60, 2) := by decide +kernel
theorem dX4_takes_40 : decode cX4_takes 40 = .ok (.invokestatic 18, 3) := by decide +kernel
theorem dX4_takes_43 : decode cX4_takes 43 = .ok (.ireturn, 1) := by decide +kernel
theorem dX4_takes_44 : decode cX4_takes 44 = .ok (.iload_n 2, 1) := by decide +kernel
theorem dX4_takes_45 : decode cX4_takes 45 = .ok (.iconst 0, 1) := by decide +kernel
theorem dX4_takes_46 : decode cX4_takes 46 = .ok (.aload_n 0, 1) := by decide +kernel
theorem dX4_takes_47 : decode cX4_takes 47 = .ok (.getfield 9, 3) := by decide +kernel
theorem dX4_takes_50 : decode cX4_takes 50 = .ok (.iconst 1, 1) := by decide +kernel
theorem dX4_takes_51 : decode cX4_takes 51 = .ok (.isub, 1) := by decide +kernel
theorem dX4_takes_52 : decode cX4_takes 52 = .ok (.invokestatic 18, 3) := by decide +kernel
theorem dX4_takes_55 : decode cX4_takes 55 = .ok (.ireturn, 1) := by decide +kernel
theorem dX4_takes_56 : decode cX4_takes 56 = .ok (.iconst 0, 1) := by decide +kernel
theorem dX4_takes_57 : decode cX4_takes 57 = .ok (.ireturn, 1) := by decide +kernel
theorem dX4_change_0 : decode cX4_change 0 = .ok (.aload_n 0, 1) := by decide +kernel
theorem dX4_change_1 : decode cX4_change 1 = .ok (.getfield 22, 3) := by decide +kernel
theorem dX4_change_4 : decode cX4_change 4 = .ok (.istore_n 3, 1) := by decide +kernel
theorem dX4_change_5 : decode cX4_change 5 = .ok (.iload_n 1, 1) := by decide +kernel
theorem dX4_change_6 : decode cX4_change 6 = .ok (.ifCond .ne 34, 3) := by decide +kernel
theorem dX4_change_9 : decode cX4_change 9 = .ok (.aload_n 0, 1) := by decide +kernel
theorem dX4_change_10 : decode cX4_change 10 = .ok (.getfield 9, 3) := by decide +kernel
theorem dX4_change_13 : decode cX4_change 13 = .ok (.istore_n 3, 1) := by decide +kernel
theorem dX4_change_14 : decode cX4_change 14 = .ok (.aload_n 0, 1) := by decide +kernel
theorem dX4_change_15 : decode cX4_change 15 = .ok (.iconst 4, 1) := by decide +kernel
theorem dX4_change_16 : decode cX4_change 16 = .ok (.iload_n 2, 1) := by decide +kernel
theorem dX4_change_17 : decode cX4_change 17 = .ok (.invokestatic 25, 3) := by decide +kernel
theorem dX4_change_20 : decode cX4_change 20 = .ok (.putfield 9, 3) := by decide +kernel
theorem dX4_change_23 : decode cX4_change 23 = .ok (.aload_n 0, 1) := by decide +kernel
theorem dX4_change_24 : decode cX4_change 24 = .ok (.aload_n 0, 1) := by decide +kernel
theorem dX4_change_25 : decode cX4_change 25 = .ok (.getfield 22, 3) := by decide +kernel
theorem dX4_change_28 : decode cX4_change 28 = .ok (.iconst 4, 1) := by decide +kernel
theorem dX4_change_29 : decode cX4_change 29 = .ok (.iload_n 2, 1) := by decide +kernel
theorem dX4_change_30 : decode cX4_change 30 = .ok (.invokestatic 25, 3) := by decide +kernel
theorem dX4_change_33 : decode cX4_change 33 = .ok (.irem, 1) := by decide +kernel
theorem dX4_change_34 : decode cX4_change 34 = .ok (.putfield 22, 3) := by decide +kernel
theorem dX4_change_37 : decode cX4_change 37 = .ok (.goto 26, 3) := by decide +kernel
theorem dX4_change_40 : decode cX4_change 40 = .ok (.iload_n 1, 1) := by decide +kernel
theorem dX4_change_41 : decode cX4_change 41 = .ok (.iconst 1, 1) := by decide +kernel
theorem dX4_change_42 : decode cX4_change 42 = .ok (.if_icmp .ne 16, 3) := by decide +kernel
theorem dX4_change_45 : decode cX4_change 45 = .ok (.aload_n 0, 1) := by decide +kernel
theorem dX4_change_46 : decode cX4_change 46 = .ok (.getfield 15, 3) := by decide +kernel
theorem dX4_change_49 : decode cX4_change 49 = .ok (.istore_n 3, 1) := by decide +kernel
theorem dX4_change_50 : decode cX4_change 50 = .ok (.aload_n 0, 1) := by decide +kernel
theorem dX4_change_51 : decode cX4_change 51 = .ok (.iload_n 2, 1) := by decide +kernel
theorem dX4_change_52 : decode cX4_change 52 = .ok (.putfield 15, 3) := by decide +kernel
theorem dX4_change_55 : decode cX4_change 55 = .ok (.goto 8, 3) := by decide +kernel
theorem dX4_change_58 : decode cX4_change 58 = .ok (.aload_n 0, 1) := by decide +kernel
theorem dX4_change_59 : decode cX4_change 59 = .ok (.iload_n 2, 1) := by decide +kernel
theorem dX4_change_60 : decode cX4_change 60 = .ok (.putfield 22, 3) := by decide +kernel
theorem dX4_change_63 : decode cX4_change 63 = .ok (.iload_n 3, 1) := by decide +kernel
theorem dX4_change_64 : decode cX4_change 64 = .ok (.ireturn, 1) := by decide +kernel
theorem dX4_placeAt_0 : decode cX4_placeAt 0 = .ok (.aload_n 0, 1) := by decide +kernel
theorem dX4_placeAt_1 : decode cX4_placeAt 1 = .ok (.getfield 9, 3) := by decide +kernel
theorem dX4_placeAt_4 : decode cX4_placeAt 4 = .ok (.iconst 4, 1) := by decide +kernel
theorem dX4_placeAt_5 : decode cX4_placeAt 5 = .ok (.if_icmp .ge 5, 3) := by decide +kernel
theorem dX4_placeAt_8 : decode cX4_placeAt 8 = .ok (.iconst 0, 1) := by decide +kernel
theorem dX4_placeAt_9 : decode cX4_placeAt 9 = .ok (.ireturn, 1) := by decide +kernel
theorem dX4_placeAt_10 : decode cX4_placeAt 10 = .ok (.iload_n 1, 1) := by decide +kernel
theorem dX4_placeAt_11 : decode cX4_placeAt 11 = .ok (.aload_n 0, 1) := by decide +kernel
theorem dX4_placeAt_12 : decode cX4_placeAt 12 = .ok (.getfield 22, 3) := by decide +kernel
theorem dX4_placeAt_15 : decode cX4_placeAt 15 = .ok (.iadd, 1) := by decide +kernel
theorem dX4_placeAt_16 : decode cX4_placeAt 16 = .ok (.aload_n 0, 1) := by decide +kernel
theorem dX4_placeAt_17 : decode cX4_placeAt 17 = .ok (.getfield 9, 3) := by decide +kernel
theorem dX4_placeAt_20 : decode cX4_placeAt 20 = .ok (.invokestatic 31, 3) := by decide +kernel
theorem dX4_placeAt_23 : decode cX4_placeAt 23 = .ok (.istore_n 2, 1) := by decide +kernel
theorem dX4_placeAt_24 : decode cX4_placeAt 24 = .ok (.iconst 2, 1) := by decide +kernel
theorem dX4_placeAt_25 : decode cX4_placeAt 25 = .ok (.iload_n 2, 1) := by decide +kernel
theorem dX4_placeAt_26 : decode cX4_placeAt 26 = .ok (.imul, 1) := by decide +kernel
theorem dX4_placeAt_27 : decode cX4_placeAt 27 = .ok (.aload_n 0, 1) := by decide +kernel
theorem dX4_placeAt_28 : decode cX4_placeAt 28 = .ok (.getfield 9, 3) := by decide +kernel
theorem dX4_placeAt_31 : decode cX4_placeAt 31 = .ok (.isub, 1) := by decide +kernel
theorem dX4_placeAt_32 : decode cX4_placeAt 32 = .ok (.invokestatic 34, 3) := by decide +kernel
theorem dX4_placeAt_35 : decode cX4_placeAt 35 = .ok (.istore_n 3, 1) := by decide +kernel
theorem dX4_placeAt_36 : decode cX4_placeAt 36 = .ok (.iconst 2, 1) := by decide +kernel
theorem dX4_placeAt_37 : decode cX4_placeAt 37 = .ok (.aload_n 0, 1) := by decide +kernel
theorem dX4_placeAt_38 : decode cX4_placeAt 38 = .ok (.getfield 15, 3) := by decide +kernel
theorem dX4_placeAt_41 : decode cX4_placeAt 41 = .ok (.imul, 1) := by decide +kernel
theorem dX4_placeAt_42 : decode cX4_placeAt 42 = .ok (.iload_n 3, 1) := by decide +kernel
theorem dX4_placeAt_43 : decode cX4_placeAt 43 = .ok (.imul, 1) := by decide +kernel
theorem dX4_placeAt_44 : decode cX4_placeAt 44 = .ok (.aload_n 0, 1) := by decide +kernel
theorem dX4_placeAt_45 : decode cX4_placeAt 45 = .ok (.getfield 9, 3) := by decide +kernel
theorem dX4_placeAt_48 : decode cX4_placeAt 48 = .ok (.idiv, 1) := by decide +kernel
theorem dX4_placeAt_49 : decode cX4_placeAt 49 = .ok (.aload_n 0, 1) := by decide +kernel
theorem dX4_placeAt_50 : decode cX4_placeAt 50 = .ok (.getfield 15, 3) := by decide +kernel
theorem dX4_placeAt_53 : decode cX4_placeAt 53 = .ok (.isub, 1) := by decide +kernel
theorem dX4_placeAt_54 : decode cX4_placeAt 54 = .ok (.ireturn, 1) := by decide +kernel
theorem dX4_copy_0 : decode cX4_copy 0 = .ok (.aload_n 0, 1) := by decide +kernel
theorem dX4_copy_1 : decode cX4_copy 1 = .ok (.aload_n 1, 1) := by decide +kernel
theorem dX4_copy_2 : decode cX4_copy 2 = .ok (.getfield 9, 3) := by decide +kernel
theorem dX4_copy_5 : decode cX4_copy 5 = .ok (.putfield 9, 3) := by decide +kernel
theorem dX4_copy_8 : decode cX4_copy 8 = .ok (.aload_n 0, 1) := by decide +kernel
theorem dX4_copy_9 : decode cX4_copy 9 = .ok (.aload_n 1, 1) := by decide +kernel
theorem dX4_copy_10 : decode cX4_copy 10 = .ok (.getfield 15, 3) := by decide +kernel
theorem dX4_copy_13 : decode cX4_copy 13 = .ok (.putfield 15, 3) := by decide +kernel
theorem dX4_copy_16 : decode cX4_copy 16 = .ok (.aload_n 0, 1) := by decide +kernel
theorem dX4_copy_17 : decode cX4_copy 17 = .ok (.aload_n 1, 1) := by decide +kernel
theorem dX4_copy_18 : decode cX4_copy 18 = .ok (.getfield 22, 3) := by decide +kernel
theorem dX4_copy_21 : decode cX4_copy 21 = .ok (.putfield 22, 3) := by decide +kernel
theorem dX4_copy_24 : decode cX4_copy 24 = .ok (.return_, 1) := by decide +kernel
theorem dX5_init_0 : decode cX5_init 0 = .ok (.aload_n 0, 1) := by decide +kernel
theorem dX5_init_1 : decode cX5_init 1 = .ok (.invokespecial 3, 3) := by decide +kernel
theorem dX5_init_4 : decode cX5_init 4 = .ok (.aload_n 0, 1) := by decide +kernel
theorem dX5_init_5 : decode cX5_init 5 = .ok (.new 9, 3) := by decide +kernel
theorem dX5_init_8 : decode cX5_init 8 = .ok (.dup, 1) := by decide +kernel
theorem dX5_init_9 : decode cX5_init 9 = .ok (.invokespecial 11, 3) := by decide +kernel
theorem dX5_init_12 : decode cX5_init 12 = .ok (.putfield 12, 3) := by decide +kernel
theorem dX5_init_15 : decode cX5_init 15 = .ok (.aload_n 0, 1) := by decide +kernel
theorem dX5_init_16 : decode cX5_init 16 = .ok (.new 9, 3) := by decide +kernel
theorem dX5_init_19 : decode cX5_init 19 = .ok (.dup, 1) := by decide +kernel
theorem dX5_init_20 : decode cX5_init 20 = .ok (.invokespecial 11, 3) := by decide +kernel
theorem dX5_init_23 : decode cX5_init 23 = .ok (.putfield 18, 3) := by decide +kernel
theorem dX5_init_26 : decode cX5_init 26 = .ok (.aload_n 0, 1) := by decide +kernel
theorem dX5_init_27 : decode cX5_init 27 = .ok (.new 21, 3) := by decide +kernel
theorem dX5_init_30 : decode cX5_init 30 = .ok (.dup, 1) := by decide +kernel
theorem dX5_init_31 : decode cX5_init 31 = .ok (.invokespecial 23, 3) := by decide +kernel
theorem dX5_init_34 : decode cX5_init 34 = .ok (.putfield 24, 3) := by decide +kernel
theorem dX5_init_37 : decode cX5_init 37 = .ok (.aload_n 0, 1) := by decide +kernel
theorem dX5_init_38 : decode cX5_init 38 = .ok (.bipush 60, 2) := by decide +kernel
theorem dX5_init_40 : decode cX5_init 40 = .ok (.newarray .int, 2) := by decide +kernel
theorem dX5_init_42 : decode cX5_init 42 = .ok (.putfield 28, 3) := by decide +kernel
theorem dX5_init_45 : decode cX5_init 45 = .ok (.aload_n 0, 1) := by decide +kernel
theorem dX5_init_46 : decode cX5_init 46 = .ok (.aload_n 1, 1) := by decide +kernel
theorem dX5_init_47 : decode cX5_init 47 = .ok (.putfield 32, 3) := by decide +kernel
theorem dX5_init_50 : decode cX5_init 50 = .ok (.return_, 1) := by decide +kernel
theorem dX5_start_0 : decode cX5_start 0 = .ok (.aload_n 0, 1) := by decide +kernel
theorem dX5_start_1 : decode cX5_start 1 = .ok (.getfield 12, 3) := by decide +kernel
theorem dX5_start_4 : decode cX5_start 4 = .ok (.aload_n 0, 1) := by decide +kernel
theorem dX5_start_5 : decode cX5_start 5 = .ok (.getfield 32, 3) := by decide +kernel
theorem dX5_start_8 : decode cX5_start 8 = .ok (.getfield 36, 3) := by decide +kernel
theorem dX5_start_11 : decode cX5_start 11 = .ok (.invokevirtual 39, 3) := by decide +kernel
theorem dX5_start_14 : decode cX5_start 14 = .ok (.aload_n 0, 1) := by decide +kernel
theorem dX5_start_15 : decode cX5_start 15 = .ok (.getfield 18, 3) := by decide +kernel
theorem dX5_start_18 : decode cX5_start 18 = .ok (.aload_n 0, 1) := by decide +kernel
theorem dX5_start_19 : decode cX5_start 19 = .ok (.getfield 32, 3) := by decide +kernel
theorem dX5_start_22 : decode cX5_start 22 = .ok (.getfield 43, 3) := by decide +kernel
theorem dX5_start_25 : decode cX5_start 25 = .ok (.invokevirtual 39, 3) := by decide +kernel
theorem dX5_start_28 : decode cX5_start 28 = .ok (.aload_n 0, 1) := by decide +kernel
theorem dX5_start_29 : decode cX5_start 29 = .ok (.getfield 24, 3) := by decide +kernel
theorem dX5_start_32 : decode cX5_start 32 = .ok (.aload_n 1, 1) := by decide +kernel
theorem dX5_start_33 : decode cX5_start 33 = .ok (.invokevirtual 44, 3) := by decide +kernel
theorem dX5_start_36 : decode cX5_start 36 = .ok (.aload_n 0, 1) := by decide +kernel
theorem dX5_start_37 : decode cX5_start 37 = .ok (.aload_n 0, 1) := by decide +kernel
theorem dX5_start_38 : decode cX5_start 38 = .ok (.getfield 24, 3) := by decide +kernel
theorem dX5_start_41 : decode cX5_start 41 = .ok (.invokevirtual 47, 3) := by decide +kernel
theorem dX5_start_44 : decode cX5_start 44 = .ok (.putfield 51, 3) := by decide +kernel
theorem dX5_start_47 : decode cX5_start 47 = .ok (.return_, 1) := by decide +kernel
theorem dX5_fly_0 : decode cX5_fly 0 = .ok (.iload_n 1, 1) := by decide +kernel
theorem dX5_fly_1 : decode cX5_fly 1 = .ok (.aload_n 0, 1) := by decide +kernel
theorem dX5_fly_2 : decode cX5_fly 2 = .ok (.getfield 51, 3) := by decide +kernel
theorem dX5_fly_5 : decode cX5_fly 5 = .ok (.iadd, 1) := by decide +kernel
theorem dX5_fly_6 : decode cX5_fly 6 = .ok (.iload_n 2, 1) := by decide +kernel
theorem dX5_fly_7 : decode cX5_fly 7 = .ok (.iadd, 1) := by decide +kernel
theorem dX5_fly_8 : decode cX5_fly 8 = .ok (.istore_n 3, 1) := by decide +kernel
theorem dX5_fly_9 : decode cX5_fly 9 = .ok (.aload_n 0, 1) := by decide +kernel
theorem dX5_fly_10 : decode cX5_fly 10 = .ok (.getfield 12, 3) := by decide +kernel
theorem dX5_fly_13 : decode cX5_fly 13 = .ok (.iload_n 3, 1) := by decide +kernel
theorem dX5_fly_14 : decode cX5_fly 14 = .ok (.invokevirtual 54, 3) := by decide +kernel
theorem dX5_fly_17 : decode cX5_fly 17 = .ok (.istore 4, 2) := by decide +kernel
theorem dX5_fly_19 : decode cX5_fly 19 = .ok (.iload 4, 2) := by decide +kernel
theorem dX5_fly_21 : decode cX5_fly 21 = .ok (.aload_n 0, 1) := by decide +kernel
theorem dX5_fly_22 : decode cX5_fly 22 = .ok (.getfield 12, 3) := by decide +kernel
theorem dX5_fly_25 : decode cX5_fly 25 = .ok (.iload_n 3, 1) := by decide +kernel
theorem dX5_fly_26 : decode cX5_fly 26 = .ok (.iconst 1, 1) := by decide +kernel
theorem dX5_fly_27 : decode cX5_fly 27 = .ok (.isub, 1) := by decide +kernel
theorem dX5_fly_28 : decode cX5_fly 28 = .ok (.invokevirtual 54, 3) := by decide +kernel
theorem dX5_fly_31 : decode cX5_fly 31 = .ok (.isub, 1) := by decide +kernel
theorem dX5_fly_32 : decode cX5_fly 32 = .ok (.istore 5, 2) := by decide +kernel
theorem dX5_fly_34 : decode cX5_fly 34 = .ok (.aload_n 0, 1) := by decide +kernel
theorem dX5_fly_35 : decode cX5_fly 35 = .ok (.iload_n 3, 1) := by decide +kernel
theorem dX5_fly_36 : decode cX5_fly 36 = .ok (.aload_n 0, 1) := by decide +kernel
theorem dX5_fly_37 : decode cX5_fly 37 = .ok (.getfield 32, 3) := by decide +kernel
theorem dX5_fly_40 : decode cX5_fly 40 = .ok (.getfield 58, 3) := by decide +kernel
theorem dX5_fly_43 : decode cX5_fly 43 = .ok (.aload_n 0, 1) := by decide +kernel
theorem dX5_fly_44 : decode cX5_fly 44 = .ok (.getfield 24, 3) := by decide +kernel
theorem dX5_fly_47 : decode cX5_fly 47 = .ok (.getfield 62, 3) := by decide +kernel
theorem dX5_fly_50 : decode cX5_fly 50 = .ok (.iload 5, 2) := by decide +kernel
theorem dX5_fly_52 : decode cX5_fly 52 = .ok (.aload_n 0, 1) := by decide +kernel
theorem dX5_fly_53 : decode cX5_fly 53 = .ok (.getfield 24, 3) := by decide +kernel
theorem dX5_fly_56 : decode cX5_fly 56 = .ok (.getfield 65, 3) := by decide +kernel
theorem dX5_fly_59 : decode cX5_fly 59 = .ok (.invokevirtual 68, 3) := by decide +kernel
theorem dX5_fly_62 : decode cX5_fly 62 = .ok (.iadd, 1) := by decide +kernel
theorem dX5_fly_63 : decode cX5_fly 63 = .ok (.putfield 74, 3) := by decide +kernel
theorem dX5_fly_66 : decode cX5_fly 66 = .ok (.aload_n 0, 1) := by decide +kernel
theorem dX5_fly_67 : decode cX5_fly 67 = .ok (.iload 4, 2) := by decide +kernel
theorem dX5_fly_69 : decode cX5_fly 69 = .ok (.aload_n 0, 1) := by decide +kernel
theorem dX5_fly_70 : decode cX5_fly 70 = .ok (.getfield 32, 3) := by decide +kernel
theorem dX5_fly_73 : decode cX5_fly 73 = .ok (.getfield 77, 3) := by decide +kernel
theorem dX5_fly_76 : decode cX5_fly 76 = .ok (.aload_n 0, 1) := by decide +kernel
theorem dX5_fly_77 : decode cX5_fly 77 = .ok (.getfield 24, 3) := by decide +kernel
theorem dX5_fly_80 : decode cX5_fly 80 = .ok (.getfield 62, 3) := by decide +kernel
theorem dX5_fly_83 : decode cX5_fly 83 = .ok (.iload 5, 2) := by decide +kernel
theorem dX5_fly_85 : decode cX5_fly 85 = .ok (.aload_n 0, 1) := by decide +kernel
theorem dX5_fly_86 : decode cX5_fly 86 = .ok (.getfield 24, 3) := by decide +kernel
theorem dX5_fly_89 : decode cX5_fly 89 = .ok (.getfield 65, 3) := by decide +kernel
theorem dX5_fly_92 : decode cX5_fly 92 = .ok (.invokevirtual 68, 3) := by decide +kernel
theorem dX5_fly_95 : decode cX5_fly 95 = .ok (.iadd, 1) := by decide +kernel
theorem dX5_fly_96 : decode cX5_fly 96 = .ok (.putfield 80, 3) := by decide +kernel
theorem dX5_fly_99 : decode cX5_fly 99 = .ok (.return_, 1) := by decide +kernel
theorem dX5_off_0 : decode cX5_off 0 = .ok (.aload_n 0, 1) := by decide +kernel
theorem dX5_off_1 : decode cX5_off 1 = .ok (.getfield 80, 3) := by decide +kernel
theorem dX5_off_4 : decode cX5_off 4 = .ok (.aload_n 0, 1) := by decide +kernel
theorem dX5_off_5 : decode cX5_off 5 = .ok (.getfield 32, 3) := by decide +kernel
theorem dX5_off_8 : decode cX5_off 8 = .ok (.getfield 83, 3) := by decide +kernel
theorem dX5_off_11 : decode cX5_off 11 = .ok (.aload_n 0, 1) := by decide +kernel
theorem dX5_off_12 : decode cX5_off 12 = .ok (.getfield 18, 3) := by decide +kernel
theorem dX5_off_15 : decode cX5_off 15 = .ok (.aload_n 0, 1) := by decide +kernel
theorem dX5_off_16 : decode cX5_off 16 = .ok (.getfield 74, 3) := by decide +kernel
theorem dX5_off_19 : decode cX5_off 19 = .ok (.iload_n 1, 1) := by decide +kernel
theorem dX5_off_20 : decode cX5_off 20 = .ok (.iadd, 1) := by decide +kernel
theorem dX5_off_21 : decode cX5_off 21 = .ok (.invokevirtual 54, 3) := by decide +kernel
theorem dX5_off_24 : decode cX5_off 24 = .ok (.isub, 1) := by decide +kernel
theorem dX5_off_25 : decode cX5_off 25 = .ok (.isub, 1) := by decide +kernel
theorem dX5_off_26 : decode cX5_off 26 = .ok (.ireturn, 1) := by decide +kernel
theorem dX5_isHeld_0 : decode cX5_isHeld 0 = .ok (.iload_n 1, 1) := by decide +kernel
theorem dX5_isHeld_1 : decode cX5_isHeld 1 = .ok (.invokestatic 86, 3) := by decide +kernel
theorem dX5_isHeld_4 : decode cX5_isHeld 4 = .ok (.aload_n 0, 1) := by decide +kernel
theorem dX5_isHeld_5 : decode cX5_isHeld 5 = .ok (.getfield 24, 3) := by decide +kernel
theorem dX5_isHeld_8 : decode cX5_isHeld 8 = .ok (.aload_n 0, 1) := by decide +kernel
theorem dX5_isHeld_9 : decode cX5_isHeld 9 = .ok (.getfield 32, 3) := by decide +kernel
theorem dX5_isHeld_12 : decode cX5_isHeld 12 = .ok (.getfield 91, 3) := by decide +kernel
theorem dX5_isHeld_15 : decode cX5_isHeld 15 = .ok (.invokevirtual 94, 3) := by decide +kernel
theorem dX5_isHeld_18 : decode cX5_isHeld 18 = .ok (.if_icmp .gt 7, 3) := by decide +kernel
theorem dX5_isHeld_21 : decode cX5_isHeld 21 = .ok (.iconst 1, 1) := by decide +kernel
theorem dX5_isHeld_22 : decode cX5_isHeld 22 = .ok (.goto 4, 3) := by decide +kernel
theorem dX5_isHeld_25 : decode cX5_isHeld 25 = .ok (.iconst 0, 1) := by decide +kernel
theorem dX5_isHeld_26 : decode cX5_isHeld 26 = .ok (.ireturn, 1) := by decide +kernel
theorem dX5_isCaught_0 : decode cX5_isCaught 0 = .ok (.aload_n 0, 1) := by decide +kernel
theorem dX5_isCaught_1 : decode cX5_isCaught 1 = .ok (.iload_n 1, 1) := by decide +kernel
theorem dX5_isCaught_2 : decode cX5_isCaught 2 = .ok (.iconst 0, 1) := by decide +kernel
theorem dX5_isCaught_3 : decode cX5_isCaught 3 = .ok (.invokevirtual 97, 3) := by decide +kernel
theorem dX5_isCaught_6 : decode cX5_isCaught 6 = .ok (.aload_n 0, 1) := by decide +kernel
theorem dX5_isCaught_7 : decode cX5_isCaught 7 = .ok (.aload_n 0, 1) := by decide +kernel
theorem dX5_isCaught_8 : decode cX5_isCaught 8 = .ok (.iconst 0, 1) := by decide +kernel
theorem dX5_isCaught_9 : decode cX5_isCaught 9 = .ok (.invokevirtual 101, 3) := by decide +kernel
theorem dX5_isCaught_12 : decode cX5_isCaught 12 = .ok (.invokevirtual 104, 3) := by decide +kernel
theorem dX5_isCaught_15 : decode cX5_isCaught 15 = .ok (.ireturn, 1) := by decide +kernel
theorem dX5_howManyCaught_0 : decode cX5_howManyCaught 0 = .ok (.iconst 0, 1) := by decide +kernel
theorem dX5_howManyCaught_1 : decode cX5_howManyCaught 1 = .ok (.istore_n 2, 1) := by decide +kernel
theorem dX5_howManyCaught_2 : decode cX5_howManyCaught 2 = .ok (.iconst 0, 1) := by decide +kernel
theorem dX5_howManyCaught_3 : decode cX5_howManyCaught 3 = .ok (.istore_n 3, 1) := by decide +kernel
theorem dX5_howManyCaught_4 : decode cX5_howManyCaught 4 = .ok (.iload_n 3, 1) := by decide +kernel
theorem dX5_howManyCaught_5 : decode cX5_howManyCaught 5 = .ok (.iload_n 1, 1) := by decide +kernel
theorem dX5_howManyCaught_6 : decode cX5_howManyCaught 6 = .ok (.if_icmp .ge 33, 3) := by decide +kernel
theorem dX5_howManyCaught_9 : decode cX5_howManyCaught 9 = .ok (.iload_n 2, 1) := by decide +kernel
theorem dX5_howManyCaught_10 : decode cX5_howManyCaught 10 = .ok (.aload_n 0, 1) := by decide +kernel
theorem dX5_howManyCaught_11 : decode cX5_howManyCaught 11 = .ok (.aload_n 0, 1) := by decide +kernel
theorem dX5_howManyCaught_12 : decode cX5_howManyCaught 12 = .ok (.getfield 32, 3) := by decide +kernel
theorem dX5_howManyCaught_15 : decode cX5_howManyCaught 15 = .ok (.getfield 108, 3) := by decide +kernel
theorem dX5_howManyCaught_18 : decode cX5_howManyCaught 18 = .ok (.iload_n 3, 1) := by decide +kernel
theorem dX5_howManyCaught_19 : decode cX5_howManyCaught 19 = .ok (.iadd, 1) := by decide +kernel
theorem dX5_howManyCaught_20 : decode cX5_howManyCaught 20 = .ok (.invokevirtual 111, 3) := by decide +kernel
theorem dX5_howManyCaught_23 : decode cX5_howManyCaught 23 = .ok (.ifCond .eq 7, 3) := by decide +kernel
theorem dX5_howManyCaught_26 : decode cX5_howManyCaught 26 = .ok (.iconst 1, 1) := by decide +kernel
theorem dX5_howManyCaught_27 : decode cX5_howManyCaught 27 = .ok (.goto 4, 3) := by decide +kernel
theorem dX5_howManyCaught_30 : decode cX5_howManyCaught 30 = .ok (.iconst 0, 1) := by decide +kernel
theorem dX5_howManyCaught_31 : decode cX5_howManyCaught 31 = .ok (.iadd, 1) := by decide +kernel
theorem dX5_howManyCaught_32 : decode cX5_howManyCaught 32 = .ok (.istore_n 2, 1) := by decide +kernel
theorem dX5_howManyCaught_33 : decode cX5_howManyCaught 33 = .ok (.iinc 3 1, 3) := by decide +kernel
theorem dX5_howManyCaught_36 : decode cX5_howManyCaught 36 = .ok (.goto (-32), 3) := by decide +kernel
theorem dX5_howManyCaught_39 : decode cX5_howManyCaught 39 = .ok (.iload_n 2, 1) := by decide +kernel
theorem dX5_howManyCaught_40 : decode cX5_howManyCaught 40 = .ok (.ireturn, 1) := by decide +kernel
theorem dX5_firstCaught_0 : decode cX5_firstCaught 0 = .ok (.iconst 0, 1) := by decide +kernel
theorem dX5_firstCaught_1 : decode cX5_firstCaught 1 = .ok (.istore_n 2, 1) := by decide +kernel
theorem dX5_firstCaught_2 : decode cX5_firstCaught 2 = .ok (.iload_n 2, 1) := by decide +kernel
theorem dX5_firstCaught_3 : decode cX5_firstCaught 3 = .ok (.iload_n 1, 1) := by decide +kernel
theorem dX5_firstCaught_4 : decode cX5_firstCaught 4 = .ok (.if_icmp .ge 27, 3) := by decide +kernel
theorem dX5_firstCaught_7 : decode cX5_firstCaught 7 = .ok (.aload_n 0, 1) := by decide +kernel
theorem dX5_firstCaught_8 : decode cX5_firstCaught 8 = .ok (.aload_n 0, 1) := by decide +kernel
theorem dX5_firstCaught_9 : decode cX5_firstCaught 9 = .ok (.getfield 32, 3) := by decide +kernel
theorem dX5_firstCaught_12 : decode cX5_firstCaught 12 = .ok (.getfield 108, 3) := by decide +kernel
theorem dX5_firstCaught_15 : decode cX5_firstCaught 15 = .ok (.iload_n 2, 1) := by decide +kernel
theorem dX5_firstCaught_16 : decode cX5_firstCaught 16 = .ok (.iadd, 1) := by decide +kernel
theorem dX5_firstCaught_17 : decode cX5_firstCaught 17 = .ok (.invokevirtual 111, 3) := by decide +kernel
theorem dX5_firstCaught_20 : decode cX5_firstCaught 20 = .ok (.ifCond .eq 5, 3) := by decide +kernel
theorem dX5_firstCaught_23 : decode cX5_firstCaught 23 = .ok (.iload_n 2, 1) := by decide +kernel
theorem dX5_firstCaught_24 : decode cX5_firstCaught 24 = .ok (.ireturn, 1) := by decide +kernel
theorem dX5_firstCaught_25 : decode cX5_firstCaught 25 = .ok (.iinc 2 1, 3) := by decide +kernel
theorem dX5_firstCaught_28 : decode cX5_firstCaught 28 = .ok (.goto (-26), 3) := by decide +kernel
theorem dX5_firstCaught_31 : decode cX5_firstCaught 31 = .ok (.iconst (-1), 1) := by decide +kernel
theorem dX5_firstCaught_32 : decode cX5_firstCaught 32 = .ok (.ireturn, 1) := by decide +kernel
theorem dX5_casesCaught_0 : decode cX5_casesCaught 0 = .ok (.iconst 0, 1) := by decide +kernel
theorem dX5_casesCaught_1 : decode cX5_casesCaught 1 = .ok (.istore_n 2, 1) := by decide +kernel
theorem dX5_casesCaught_2 : decode cX5_casesCaught 2 = .ok (.iconst (-1), 1) := by decide +kernel
theorem dX5_casesCaught_3 : decode cX5_casesCaught 3 = .ok (.istore_n 3, 1) := by decide +kernel
theorem dX5_casesCaught_4 : decode cX5_casesCaught 4 = .ok (.iload_n 3, 1) := by decide +kernel
theorem dX5_casesCaught_5 : decode cX5_casesCaught 5 = .ok (.iconst 1, 1) := by decide +kernel
theorem dX5_casesCaught_6 : decode cX5_casesCaught 6 = .ok (.if_icmp .gt 51, 3) := by decide +kernel
theorem dX5_casesCaught_9 : decode cX5_casesCaught 9 = .ok (.aload_n 0, 1) := by decide +kernel
theorem dX5_casesCaught_10 : decode cX5_casesCaught 10 = .ok (.iload_n 1, 1) := by decide +kernel
theorem dX5_casesCaught_11 : decode cX5_casesCaught 11 = .ok (.iload_n 3, 1) := by decide +kernel
theorem dX5_casesCaught_12 : decode cX5_casesCaught 12 = .ok (.invokevirtual 97, 3) := by decide +kernel
theorem dX5_casesCaught_15 : decode cX5_casesCaught 15 = .ok (.iconst (-1), 1) := by decide +kernel
theorem dX5_casesCaught_16 : decode cX5_casesCaught 16 = .ok (.istore 4, 2) := by decide +kernel
theorem dX5_casesCaught_18 : decode cX5_casesCaught 18 = .ok (.iload 4, 2) := by decide +kernel
theorem dX5_casesCaught_20 : decode cX5_casesCaught 20 = .ok (.iconst 1, 1) := by decide +kernel
theorem dX5_casesCaught_21 : decode cX5_casesCaught 21 = .ok (.if_icmp .gt 30, 3) := by decide +kernel
theorem dX5_casesCaught_24 : decode cX5_casesCaught 24 = .ok (.iload_n 2, 1) := by decide +kernel
theorem dX5_casesCaught_25 : decode cX5_casesCaught 25 = .ok (.aload_n 0, 1) := by decide +kernel
theorem dX5_casesCaught_26 : decode cX5_casesCaught 26 = .ok (.aload_n 0, 1) := by decide +kernel
theorem dX5_casesCaught_27 : decode cX5_casesCaught 27 = .ok (.iload 4, 2) := by decide +kernel
theorem dX5_casesCaught_29 : decode cX5_casesCaught 29 = .ok (.invokevirtual 101, 3) := by decide +kernel
theorem dX5_casesCaught_32 : decode cX5_casesCaught 32 = .ok (.invokevirtual 104, 3) := by decide +kernel
theorem dX5_casesCaught_35 : decode cX5_casesCaught 35 = .ok (.ifCond .eq 7, 3) := by decide +kernel
theorem dX5_casesCaught_38 : decode cX5_casesCaught 38 = .ok (.iconst 1, 1) := by decide +kernel
theorem dX5_casesCaught_39 : decode cX5_casesCaught 39 = .ok (.goto 4, 3) := by decide +kernel
theorem dX5_casesCaught_42 : decode cX5_casesCaught 42 = .ok (.iconst 0, 1) := by decide +kernel
theorem dX5_casesCaught_43 : decode cX5_casesCaught 43 = .ok (.iadd, 1) := by decide +kernel
theorem dX5_casesCaught_44 : decode cX5_casesCaught 44 = .ok (.istore_n 2, 1) := by decide +kernel
theorem dX5_casesCaught_45 : decode cX5_casesCaught 45 = .ok (.iinc 4 1, 3) := by decide +kernel
theorem dX5_casesCaught_48 : decode cX5_casesCaught 48 = .ok (.goto (-30), 3) := by decide +kernel
theorem dX5_casesCaught_51 : decode cX5_casesCaught 51 = .ok (.iinc 3 1, 3) := by decide +kernel
theorem dX5_casesCaught_54 : decode cX5_casesCaught 54 = .ok (.goto (-50), 3) := by decide +kernel
theorem dX5_casesCaught_57 : decode cX5_casesCaught 57 = .ok (.iload_n 2, 1) := by decide +kernel
theorem dX5_casesCaught_58 : decode cX5_casesCaught 58 = .ok (.ireturn, 1) := by decide +kernel
theorem dX5_surestWait_0 : decode cX5_surestWait 0 = .ok (.iconst 0, 1) := by decide +kernel
theorem dX5_surestWait_1 : decode cX5_surestWait 1 = .ok (.istore_n 2, 1) := by decide +kernel
theorem dX5_surestWait_2 : decode cX5_surestWait 2 = .ok (.iconst (-1), 1) := by decide +kernel
theorem dX5_surestWait_3 : decode cX5_surestWait 3 = .ok (.istore_n 3, 1) := by decide +kernel
theorem dX5_surestWait_4 : decode cX5_surestWait 4 = .ok (.iconst 0, 1) := by decide +kernel
theorem dX5_surestWait_5 : decode cX5_surestWait 5 = .ok (.istore 4, 2) := by decide +kernel
theorem dX5_surestWait_7 : decode cX5_surestWait 7 = .ok (.iload 4, 2) := by decide +kernel
theorem dX5_surestWait_9 : decode cX5_surestWait 9 = .ok (.iload_n 1, 1) := by decide +kernel
theorem dX5_surestWait_10 : decode cX5_surestWait 10 = .ok (.if_icmp .ge 37, 3) := by decide +kernel
theorem dX5_surestWait_13 : decode cX5_surestWait 13 = .ok (.aload_n 0, 1) := by decide +kernel
theorem dX5_surestWait_14 : decode cX5_surestWait 14 = .ok (.aload_n 0, 1) := by decide +kernel
theorem dX5_surestWait_15 : decode cX5_surestWait 15 = .ok (.getfield 32, 3) := by decide +kernel
theorem dX5_surestWait_18 : decode cX5_surestWait 18 = .ok (.getfield 108, 3) := by decide +kernel
theorem dX5_surestWait_21 : decode cX5_surestWait 21 = .ok (.iload 4, 2) := by decide +kernel
theorem dX5_surestWait_23 : decode cX5_surestWait 23 = .ok (.iadd, 1) := by decide +kernel
theorem dX5_surestWait_24 : decode cX5_surestWait 24 = .ok (.invokevirtual 114, 3) := by decide +kernel
theorem dX5_surestWait_27 : decode cX5_surestWait 27 = .ok (.istore 5, 2) := by decide +kernel
theorem dX5_surestWait_29 : decode cX5_surestWait 29 = .ok (.iload 5, 2) := by decide +kernel
theorem dX5_surestWait_31 : decode cX5_surestWait 31 = .ok (.iload_n 3, 1) := by decide +kernel
theorem dX5_surestWait_32 : decode cX5_surestWait 32 = .ok (.if_icmp .le 9, 3) := by decide +kernel
theorem dX5_surestWait_35 : decode cX5_surestWait 35 = .ok (.iload 5, 2) := by decide +kernel
theorem dX5_surestWait_37 : decode cX5_surestWait 37 = .ok (.istore_n 3, 1) := by decide +kernel
theorem dX5_surestWait_38 : decode cX5_surestWait 38 = .ok (.iload 4, 2) := by decide +kernel
theorem dX5_surestWait_40 : decode cX5_surestWait 40 = .ok (.istore_n 2, 1) := by decide +kernel
theorem dX5_surestWait_41 : decode cX5_surestWait 41 = .ok (.iinc 4 1, 3) := by decide +kernel
theorem dX5_surestWait_44 : decode cX5_surestWait 44 = .ok (.goto (-37), 3) := by decide +kernel
theorem dX5_surestWait_47 : decode cX5_surestWait 47 = .ok (.iload_n 2, 1) := by decide +kernel
theorem dX5_surestWait_48 : decode cX5_surestWait 48 = .ok (.ireturn, 1) := by decide +kernel
theorem dX5_leastPumps_0 : decode cX5_leastPumps 0 = .ok (.aload_n 0, 1) := by decide +kernel
theorem dX5_leastPumps_1 : decode cX5_leastPumps 1 = .ok (.getfield 12, 3) := by decide +kernel
theorem dX5_leastPumps_4 : decode cX5_leastPumps 4 = .ok (.getfield 117, 3) := by decide +kernel
theorem dX5_leastPumps_7 : decode cX5_leastPumps 7 = .ok (.istore_n 2, 1) := by decide +kernel
theorem dX5_leastPumps_8 : decode cX5_leastPumps 8 = .ok (.iconst 0, 1) := by decide +kernel
theorem dX5_leastPumps_9 : decode cX5_leastPumps 9 = .ok (.istore_n 3, 1) := by decide +kernel
theorem dX5_leastPumps_10 : decode cX5_leastPumps 10 = .ok (.iload_n 3, 1) := by decide +kernel
theorem dX5_leastPumps_11 : decode cX5_leastPumps 11 = .ok (.bipush 59, 2) := by decide +kernel
theorem dX5_leastPumps_13 : decode cX5_leastPumps 13 = .ok (.if_icmp .gt 37, 3) := by decide +kernel
theorem dX5_leastPumps_16 : decode cX5_leastPumps 16 = .ok (.iload_n 2, 1) := by decide +kernel
theorem dX5_leastPumps_17 : decode cX5_leastPumps 17 = .ok (.iload_n 3, 1) := by decide +kernel
theorem dX5_leastPumps_18 : decode cX5_leastPumps 18 = .ok (.iadd, 1) := by decide +kernel
theorem dX5_leastPumps_19 : decode cX5_leastPumps 19 = .ok (.bipush 60, 2) := by decide +kernel
theorem dX5_leastPumps_21 : decode cX5_leastPumps 21 = .ok (.if_icmp .gt 29, 3) := by decide +kernel
theorem dX5_leastPumps_24 : decode cX5_leastPumps 24 = .ok (.aload_n 0, 1) := by decide +kernel
theorem dX5_leastPumps_25 : decode cX5_leastPumps 25 = .ok (.getfield 12, 3) := by decide +kernel
theorem dX5_leastPumps_28 : decode cX5_leastPumps 28 = .ok (.iload_n 2, 1) := by decide +kernel
theorem dX5_leastPumps_29 : decode cX5_leastPumps 29 = .ok (.iload_n 3, 1) := by decide +kernel
theorem dX5_leastPumps_30 : decode cX5_leastPumps 30 = .ok (.iadd, 1) := by decide +kernel
theorem dX5_leastPumps_31 : decode cX5_leastPumps 31 = .ok (.putfield 117, 3) := by decide +kernel
theorem dX5_leastPumps_34 : decode cX5_leastPumps 34 = .ok (.aload_n 0, 1) := by decide +kernel
theorem dX5_leastPumps_35 : decode cX5_leastPumps 35 = .ok (.iload_n 1, 1) := by decide +kernel
theorem dX5_leastPumps_36 : decode cX5_leastPumps 36 = .ok (.invokevirtual 120, 3) := by decide +kernel
theorem dX5_leastPumps_39 : decode cX5_leastPumps 39 = .ok (.ifCond .lt 5, 3) := by decide +kernel
theorem dX5_leastPumps_42 : decode cX5_leastPumps 42 = .ok (.iload_n 3, 1) := by decide +kernel
theorem dX5_leastPumps_43 : decode cX5_leastPumps 43 = .ok (.ireturn, 1) := by decide +kernel
theorem dX5_leastPumps_44 : decode cX5_leastPumps 44 = .ok (.iinc 3 1, 3) := by decide +kernel
theorem dX5_leastPumps_47 : decode cX5_leastPumps 47 = .ok (.goto (-37), 3) := by decide +kernel
theorem dX5_leastPumps_50 : decode cX5_leastPumps 50 = .ok (.iconst (-1), 1) := by decide +kernel
theorem dX5_leastPumps_51 : decode cX5_leastPumps 51 = .ok (.ireturn, 1) := by decide +kernel
theorem dX5_leastSteps_0 : decode cX5_leastSteps 0 = .ok (.aload_n 0, 1) := by decide +kernel
theorem dX5_leastSteps_1 : decode cX5_leastSteps 1 = .ok (.getfield 18, 3) := by decide +kernel
theorem dX5_leastSteps_4 : decode cX5_leastSteps 4 = .ok (.getfield 123, 3) := by decide +kernel
theorem dX5_leastSteps_7 : decode cX5_leastSteps 7 = .ok (.istore_n 2, 1) := by decide +kernel
theorem dX5_leastSteps_8 : decode cX5_leastSteps 8 = .ok (.iconst 0, 1) := by decide +kernel
theorem dX5_leastSteps_9 : decode cX5_leastSteps 9 = .ok (.istore_n 3, 1) := by decide +kernel
theorem dX5_leastSteps_10 : decode cX5_leastSteps 10 = .ok (.iload_n 3, 1) := by decide +kernel
theorem dX5_leastSteps_11 : decode cX5_leastSteps 11 = .ok (.bipush 40, 2) := by decide +kernel
theorem dX5_leastSteps_13 : decode cX5_leastSteps 13 = .ok (.if_icmp .ge 47, 3) := by decide +kernel
theorem dX5_leastSteps_16 : decode cX5_leastSteps 16 = .ok (.aload_n 0, 1) := by decide +kernel
theorem dX5_leastSteps_17 : decode cX5_leastSteps 17 = .ok (.getfield 18, 3) := by decide +kernel
theorem dX5_leastSteps_20 : decode cX5_leastSteps 20 = .ok (.getfield 126, 3) := by decide +kernel
theorem dX5_leastSteps_23 : decode cX5_leastSteps 23 = .ok (.ifCond .le 37, 3) := by decide +kernel
theorem dX5_leastSteps_26 : decode cX5_leastSteps 26 = .ok (.aload_n 0, 1) := by decide +kernel
theorem dX5_leastSteps_27 : decode cX5_leastSteps 27 = .ok (.getfield 18, 3) := by decide +kernel
theorem dX5_leastSteps_30 : decode cX5_leastSteps 30 = .ok (.iload_n 2, 1) := by decide +kernel
theorem dX5_leastSteps_31 : decode cX5_leastSteps 31 = .ok (.iload_n 3, 1) := by decide +kernel
theorem dX5_leastSteps_32 : decode cX5_leastSteps 32 = .ok (.iadd, 1) := by decide +kernel
theorem dX5_leastSteps_33 : decode cX5_leastSteps 33 = .ok (.aload_n 0, 1) := by decide +kernel
theorem dX5_leastSteps_34 : decode cX5_leastSteps 34 = .ok (.getfield 18, 3) := by decide +kernel
theorem dX5_leastSteps_37 : decode cX5_leastSteps 37 = .ok (.getfield 126, 3) := by decide +kernel
theorem dX5_leastSteps_40 : decode cX5_leastSteps 40 = .ok (.irem, 1) := by decide +kernel
theorem dX5_leastSteps_41 : decode cX5_leastSteps 41 = .ok (.putfield 123, 3) := by decide +kernel
theorem dX5_leastSteps_44 : decode cX5_leastSteps 44 = .ok (.aload_n 0, 1) := by decide +kernel
theorem dX5_leastSteps_45 : decode cX5_leastSteps 45 = .ok (.iload_n 1, 1) := by decide +kernel
theorem dX5_leastSteps_46 : decode cX5_leastSteps 46 = .ok (.invokevirtual 120, 3) := by decide +kernel
theorem dX5_leastSteps_49 : decode cX5_leastSteps 49 = .ok (.ifCond .lt 5, 3) := by decide +kernel
theorem dX5_leastSteps_52 : decode cX5_leastSteps 52 = .ok (.iload_n 3, 1) := by decide +kernel
theorem dX5_leastSteps_53 : decode cX5_leastSteps 53 = .ok (.ireturn, 1) := by decide +kernel
theorem dX5_leastSteps_54 : decode cX5_leastSteps 54 = .ok (.iinc 3 1, 3) := by decide +kernel
theorem dX5_leastSteps_57 : decode cX5_leastSteps 57 = .ok (.goto (-47), 3) := by decide +kernel
theorem dX5_leastSteps_60 : decode cX5_leastSteps 60 = .ok (.iconst (-1), 1) := by decide +kernel
theorem dX5_leastSteps_61 : decode cX5_leastSteps 61 = .ok (.ireturn, 1) := by decide +kernel
theorem dX5_gatherFalls_0 : decode cX5_gatherFalls 0 = .ok (.aload_n 0, 1) := by decide +kernel
theorem dX5_gatherFalls_1 : decode cX5_gatherFalls 1 = .ok (.iconst 0, 1) := by decide +kernel
theorem dX5_gatherFalls_2 : decode cX5_gatherFalls 2 = .ok (.putfield 129, 3) := by decide +kernel
theorem dX5_gatherFalls_5 : decode cX5_gatherFalls 5 = .ok (.iconst 0, 1) := by decide +kernel
theorem dX5_gatherFalls_6 : decode cX5_gatherFalls 6 = .ok (.istore_n 2, 1) := by decide +kernel
theorem dX5_gatherFalls_7 : decode cX5_gatherFalls 7 = .ok (.iload_n 2, 1) := by decide +kernel
theorem dX5_gatherFalls_8 : decode cX5_gatherFalls 8 = .ok (.iload_n 1, 1) := by decide +kernel
theorem dX5_gatherFalls_9 : decode cX5_gatherFalls 9 = .ok (.if_icmp .ge 64, 3) := by decide +kernel
theorem dX5_gatherFalls_12 : decode cX5_gatherFalls 12 = .ok (.aload_n 0, 1) := by decide +kernel
theorem dX5_gatherFalls_13 : decode cX5_gatherFalls 13 = .ok (.getfield 129, 3) := by decide +kernel
theorem dX5_gatherFalls_16 : decode cX5_gatherFalls 16 = .ok (.ifCond .lt 57, 3) := by decide +kernel
theorem dX5_gatherFalls_19 : decode cX5_gatherFalls 19 = .ok (.aload_n 0, 1) := by decide +kernel
theorem dX5_gatherFalls_20 : decode cX5_gatherFalls 20 = .ok (.getfield 129, 3) := by decide +kernel
theorem dX5_gatherFalls_23 : decode cX5_gatherFalls 23 = .ok (.bipush 60, 2) := by decide +kernel
theorem dX5_gatherFalls_25 : decode cX5_gatherFalls 25 = .ok (.if_icmp .ge 48, 3) := by decide +kernel
theorem dX5_gatherFalls_28 : decode cX5_gatherFalls 28 = .ok (.aload_n 0, 1) := by decide +kernel
theorem dX5_gatherFalls_29 : decode cX5_gatherFalls 29 = .ok (.aload_n 0, 1) := by decide +kernel
theorem dX5_gatherFalls_30 : decode cX5_gatherFalls 30 = .ok (.getfield 32, 3) := by decide +kernel
theorem dX5_gatherFalls_33 : decode cX5_gatherFalls 33 = .ok (.getfield 108, 3) := by decide +kernel
theorem dX5_gatherFalls_36 : decode cX5_gatherFalls 36 = .ok (.iload_n 2, 1) := by decide +kernel
theorem dX5_gatherFalls_37 : decode cX5_gatherFalls 37 = .ok (.iadd, 1) := by decide +kernel
theorem dX5_gatherFalls_38 : decode cX5_gatherFalls 38 = .ok (.invokevirtual 111, 3) := by decide +kernel
theorem dX5_gatherFalls_41 : decode cX5_gatherFalls 41 = .ok (.ifCond .ne 26, 3) := by decide +kernel
theorem dX5_gatherFalls_44 : decode cX5_gatherFalls 44 = .ok (.aload_n 0, 1) := by decide +kernel
theorem dX5_gatherFalls_45 : decode cX5_gatherFalls 45 = .ok (.getfield 28, 3) := by decide +kernel
theorem dX5_gatherFalls_48 : decode cX5_gatherFalls 48 = .ok (.aload_n 0, 1) := by decide +kernel
theorem dX5_gatherFalls_49 : decode cX5_gatherFalls 49 = .ok (.getfield 129, 3) := by decide +kernel
theorem dX5_gatherFalls_52 : decode cX5_gatherFalls 52 = .ok (.aload_n 0, 1) := by decide +kernel
theorem dX5_gatherFalls_53 : decode cX5_gatherFalls 53 = .ok (.getfield 80, 3) := by decide +kernel
theorem dX5_gatherFalls_56 : decode cX5_gatherFalls 56 = .ok (.iastore, 1) := by decide +kernel
theorem dX5_gatherFalls_57 : decode cX5_gatherFalls 57 = .ok (.aload_n 0, 1) := by decide +kernel
theorem dX5_gatherFalls_58 : decode cX5_gatherFalls 58 = .ok (.dup, 1) := by decide +kernel
theorem dX5_gatherFalls_59 : decode cX5_gatherFalls 59 = .ok (.getfield 129, 3) := by decide +kernel
theorem dX5_gatherFalls_62 : decode cX5_gatherFalls 62 = .ok (.iconst 1, 1) := by decide +kernel
theorem dX5_gatherFalls_63 : decode cX5_gatherFalls 63 = .ok (.iadd, 1) := by decide +kernel
theorem dX5_gatherFalls_64 : decode cX5_gatherFalls 64 = .ok (.putfield 129, 3) := by decide +kernel
theorem dX5_gatherFalls_67 : decode cX5_gatherFalls 67 = .ok (.iinc 2 1, 3) := by decide +kernel
theorem dX5_gatherFalls_70 : decode cX5_gatherFalls 70 = .ok (.goto (-63), 3) := by decide +kernel
theorem dX5_gatherFalls_73 : decode cX5_gatherFalls 73 = .ok (.aload_n 0, 1) := by decide +kernel
theorem dX5_gatherFalls_74 : decode cX5_gatherFalls 74 = .ok (.getfield 129, 3) := by decide +kernel
theorem dX5_gatherFalls_77 : decode cX5_gatherFalls 77 = .ok (.ireturn, 1) := by decide +kernel
theorem dX5_harmTogether_0 : decode cX5_harmTogether 0 = .ok (.iconst 0, 1) := by decide +kernel
theorem dX5_harmTogether_1 : decode cX5_harmTogether 1 = .ok (.istore_n 2, 1) := by decide +kernel
theorem dX5_harmTogether_2 : decode cX5_harmTogether 2 = .ok (.iconst 0, 1) := by decide +kernel
theorem dX5_harmTogether_3 : decode cX5_harmTogether 3 = .ok (.istore_n 3, 1) := by decide +kernel
theorem dX5_harmTogether_4 : decode cX5_harmTogether 4 = .ok (.iload_n 3, 1) := by decide +kernel
theorem dX5_harmTogether_5 : decode cX5_harmTogether 5 = .ok (.aload_n 0, 1) := by decide +kernel
theorem dX5_harmTogether_6 : decode cX5_harmTogether 6 = .ok (.getfield 129, 3) := by decide +kernel
theorem dX5_harmTogether_9 : decode cX5_harmTogether 9 = .ok (.if_icmp .ge 36, 3) := by decide +kernel
theorem dX5_harmTogether_12 : decode cX5_harmTogether 12 = .ok (.iload_n 3, 1) := by decide +kernel
theorem dX5_harmTogether_13 : decode cX5_harmTogether 13 = .ok (.bipush 60, 2) := by decide +kernel
theorem dX5_harmTogether_15 : decode cX5_harmTogether 15 = .ok (.if_icmp .ge 30, 3) := by decide +kernel
theorem dX5_harmTogether_18 : decode cX5_harmTogether 18 = .ok (.iload_n 2, 1) := by decide +kernel
theorem dX5_harmTogether_19 : decode cX5_harmTogether 19 = .ok (.aload_n 0, 1) := by decide +kernel
theorem dX5_harmTogether_20 : decode cX5_harmTogether 20 = .ok (.getfield 24, 3) := by decide +kernel
theorem dX5_harmTogether_23 : decode cX5_harmTogether 23 = .ok (.aload_n 0, 1) := by decide +kernel
theorem dX5_harmTogether_24 : decode cX5_harmTogether 24 = .ok (.getfield 28, 3) := by decide +kernel
theorem dX5_harmTogether_27 : decode cX5_harmTogether 27 = .ok (.iload_n 3, 1) := by decide +kernel
theorem dX5_harmTogether_28 : decode cX5_harmTogether 28 = .ok (.iaload, 1) := by decide +kernel
theorem dX5_harmTogether_29 : decode cX5_harmTogether 29 = .ok (.iload_n 1, 1) := by decide +kernel
theorem dX5_harmTogether_30 : decode cX5_harmTogether 30 = .ok (.isub, 1) := by decide +kernel
theorem dX5_harmTogether_31 : decode cX5_harmTogether 31 = .ok (.invokestatic 86, 3) := by decide +kernel
theorem dX5_harmTogether_34 : decode cX5_harmTogether 34 = .ok (.invokevirtual 132, 3) := by decide +kernel
theorem dX5_harmTogether_37 : decode cX5_harmTogether 37 = .ok (.iadd, 1) := by decide +kernel
theorem dX5_harmTogether_38 : decode cX5_harmTogether 38 = .ok (.istore_n 2, 1) := by decide +kernel
theorem dX5_harmTogether_39 : decode cX5_harmTogether 39 = .ok (.iinc 3 1, 3) := by decide +kernel
theorem dX5_harmTogether_42 : decode cX5_harmTogether 42 = .ok (.goto (-38), 3) := by decide +kernel
theorem dX5_harmTogether_45 : decode cX5_harmTogether 45 = .ok (.iload_n 2, 1) := by decide +kernel
theorem dX5_harmTogether_46 : decode cX5_harmTogether 46 = .ok (.ireturn, 1) := by decide +kernel
theorem dX5_leastHarmPlace_0 : decode cX5_leastHarmPlace 0 = .ok (.bipush (-99), 2) := by decide +kernel
theorem dX5_leastHarmPlace_2 : decode cX5_leastHarmPlace 2 = .ok (.istore_n 1, 1) := by decide +kernel
theorem dX5_leastHarmPlace_3 : decode cX5_leastHarmPlace 3 = .ok (.aload_n 0, 1) := by decide +kernel
theorem dX5_leastHarmPlace_4 : decode cX5_leastHarmPlace 4 = .ok (.iload_n 1, 1) := by decide +kernel
theorem dX5_leastHarmPlace_5 : decode cX5_leastHarmPlace 5 = .ok (.invokevirtual 135, 3) := by decide +kernel
theorem dX5_leastHarmPlace_8 : decode cX5_leastHarmPlace 8 = .ok (.istore_n 2, 1) := by decide +kernel
theorem dX5_leastHarmPlace_9 : decode cX5_leastHarmPlace 9 = .ok (.bipush (-98), 2) := by decide +kernel
theorem dX5_leastHarmPlace_11 : decode cX5_leastHarmPlace 11 = .ok (.istore_n 3, 1) := by decide +kernel
theorem dX5_leastHarmPlace_12 : decode cX5_leastHarmPlace 12 = .ok (.iload_n 3, 1) := by decide +kernel
theorem dX5_leastHarmPlace_13 : decode cX5_leastHarmPlace 13 = .ok (.sipush 299, 3) := by decide +kernel
theorem dX5_leastHarmPlace_16 : decode cX5_leastHarmPlace 16 = .ok (.if_icmp .gt 27, 3) := by decide +kernel
theorem dX5_leastHarmPlace_19 : decode cX5_leastHarmPlace 19 = .ok (.aload_n 0, 1) := by decide +kernel
theorem dX5_leastHarmPlace_20 : decode cX5_leastHarmPlace 20 = .ok (.iload_n 3, 1) := by decide +kernel
theorem dX5_leastHarmPlace_21 : decode cX5_leastHarmPlace 21 = .ok (.invokevirtual 135, 3) := by decide +kernel
theorem dX5_leastHarmPlace_24 : decode cX5_leastHarmPlace 24 = .ok (.istore 4, 2) := by decide +kernel
theorem dX5_leastHarmPlace_26 : decode cX5_leastHarmPlace 26 = .ok (.iload 4, 2) := by decide +kernel
theorem dX5_leastHarmPlace_28 : decode cX5_leastHarmPlace 28 = .ok (.iload_n 2, 1) := by decide +kernel
theorem dX5_leastHarmPlace_29 : decode cX5_leastHarmPlace 29 = .ok (.if_icmp .ge 8, 3) := by decide +kernel
theorem dX5_leastHarmPlace_32 : decode cX5_leastHarmPlace 32 = .ok (.iload 4, 2) := by decide +kernel
theorem dX5_leastHarmPlace_34 : decode cX5_leastHarmPlace 34 = .ok (.istore_n 2, 1) := by decide +kernel
theorem dX5_leastHarmPlace_35 : decode cX5_leastHarmPlace 35 = .ok (.iload_n 3, 1) := by decide +kernel
theorem dX5_leastHarmPlace_36 : decode cX5_leastHarmPlace 36 = .ok (.istore_n 1, 1) := by decide +kernel
theorem dX5_leastHarmPlace_37 : decode cX5_leastHarmPlace 37 = .ok (.iinc 3 1, 3) := by decide +kernel
theorem dX5_leastHarmPlace_40 : decode cX5_leastHarmPlace 40 = .ok (.goto (-28), 3) := by decide +kernel
theorem dX5_leastHarmPlace_43 : decode cX5_leastHarmPlace 43 = .ok (.iload_n 1, 1) := by decide +kernel
theorem dX5_leastHarmPlace_44 : decode cX5_leastHarmPlace 44 = .ok (.ireturn, 1) := by decide +kernel
theorem dX5_isAsTold_0 : decode cX5_isAsTold 0 = .ok (.iconst 0, 1) := by decide +kernel
theorem dX5_isAsTold_1 : decode cX5_isAsTold 1 = .ok (.istore_n 2, 1) := by decide +kernel
theorem dX5_isAsTold_2 : decode cX5_isAsTold 2 = .ok (.iload_n 2, 1) := by decide +kernel
theorem dX5_isAsTold_3 : decode cX5_isAsTold 3 = .ok (.aload_n 1, 1) := by decide +kernel
theorem dX5_isAsTold_4 : decode cX5_isAsTold 4 = .ok (.getfield 138, 3) := by decide +kernel
theorem dX5_isAsTold_7 : decode cX5_isAsTold 7 = .ok (.if_icmp .ge 38, 3) := by decide +kernel
theorem dX5_isAsTold_10 : decode cX5_isAsTold 10 = .ok (.aload_n 0, 1) := by decide +kernel
theorem dX5_isAsTold_11 : decode cX5_isAsTold 11 = .ok (.aload_n 0, 1) := by decide +kernel
theorem dX5_isAsTold_12 : decode cX5_isAsTold 12 = .ok (.getfield 32, 3) := by decide +kernel
theorem dX5_isAsTold_15 : decode cX5_isAsTold 15 = .ok (.getfield 108, 3) := by decide +kernel
theorem dX5_isAsTold_18 : decode cX5_isAsTold 18 = .ok (.iload_n 2, 1) := by decide +kernel
theorem dX5_isAsTold_19 : decode cX5_isAsTold 19 = .ok (.iadd, 1) := by decide +kernel
theorem dX5_isAsTold_20 : decode cX5_isAsTold 20 = .ok (.iconst 0, 1) := by decide +kernel
theorem dX5_isAsTold_21 : decode cX5_isAsTold 21 = .ok (.invokevirtual 97, 3) := by decide +kernel
theorem dX5_isAsTold_24 : decode cX5_isAsTold 24 = .ok (.aload_n 0, 1) := by decide +kernel
theorem dX5_isAsTold_25 : decode cX5_isAsTold 25 = .ok (.iconst 0, 1) := by decide +kernel
theorem dX5_isAsTold_26 : decode cX5_isAsTold 26 = .ok (.invokevirtual 101, 3) := by decide +kernel
theorem dX5_isAsTold_29 : decode cX5_isAsTold 29 = .ok (.aload_n 1, 1) := by decide +kernel
theorem dX5_isAsTold_30 : decode cX5_isAsTold 30 = .ok (.iload_n 2, 1) := by decide +kernel
theorem dX5_isAsTold_31 : decode cX5_isAsTold 31 = .ok (.invokevirtual 143, 3) := by decide +kernel
theorem dX5_isAsTold_34 : decode cX5_isAsTold 34 = .ok (.if_icmp .eq 5, 3) := by decide +kernel
theorem dX5_isAsTold_37 : decode cX5_isAsTold 37 = .ok (.iconst 0, 1) := by decide +kernel
theorem dX5_isAsTold_38 : decode cX5_isAsTold 38 = .ok (.ireturn, 1) := by decide +kernel
theorem dX5_isAsTold_39 : decode cX5_isAsTold 39 = .ok (.iinc 2 1, 3) := by decide +kernel
theorem dX5_isAsTold_42 : decode cX5_isAsTold 42 = .ok (.goto (-40), 3) := by decide +kernel
theorem dX5_isAsTold_45 : decode cX5_isAsTold 45 = .ok (.iconst 1, 1) := by decide +kernel
theorem dX5_isAsTold_46 : decode cX5_isAsTold 46 = .ok (.ireturn, 1) := by decide +kernel
theorem dX5_firstPhase_0 : decode cX5_firstPhase 0 = .ok (.iload_n 2, 1) := by decide +kernel
theorem dX5_firstPhase_1 : decode cX5_firstPhase 1 = .ok (.istore_n 3, 1) := by decide +kernel
theorem dX5_firstPhase_2 : decode cX5_firstPhase 2 = .ok (.iload_n 3, 1) := by decide +kernel
theorem dX5_firstPhase_3 : decode cX5_firstPhase 3 = .ok (.aload_n 0, 1) := by decide +kernel
theorem dX5_firstPhase_4 : decode cX5_firstPhase 4 = .ok (.getfield 18, 3) := by decide +kernel
theorem dX5_firstPhase_7 : decode cX5_firstPhase 7 = .ok (.getfield 126, 3) := by decide +kernel
theorem dX5_firstPhase_10 : decode cX5_firstPhase 10 = .ok (.if_icmp .ge 27, 3) := by decide +kernel
theorem dX5_firstPhase_13 : decode cX5_firstPhase 13 = .ok (.aload_n 0, 1) := by decide +kernel
theorem dX5_firstPhase_14 : decode cX5_firstPhase 14 = .ok (.getfield 18, 3) := by decide +kernel
theorem dX5_firstPhase_17 : decode cX5_firstPhase 17 = .ok (.iload_n 3, 1) := by decide +kernel
theorem dX5_firstPhase_18 : decode cX5_firstPhase 18 = .ok (.putfield 123, 3) := by decide +kernel
theorem dX5_firstPhase_21 : decode cX5_firstPhase 21 = .ok (.aload_n 0, 1) := by decide +kernel
theorem dX5_firstPhase_22 : decode cX5_firstPhase 22 = .ok (.aload_n 1, 1) := by decide +kernel
theorem dX5_firstPhase_23 : decode cX5_firstPhase 23 = .ok (.invokevirtual 146, 3) := by decide +kernel
theorem dX5_firstPhase_26 : decode cX5_firstPhase 26 = .ok (.ifCond .eq 5, 3) := by decide +kernel
theorem dX5_firstPhase_29 : decode cX5_firstPhase 29 = .ok (.iload_n 3, 1) := by decide +kernel
theorem dX5_firstPhase_30 : decode cX5_firstPhase 30 = .ok (.ireturn, 1) := by decide +kernel
theorem dX5_firstPhase_31 : decode cX5_firstPhase 31 = .ok (.iinc 3 1, 3) := by decide +kernel
theorem dX5_firstPhase_34 : decode cX5_firstPhase 34 = .ok (.goto (-32), 3) := by decide +kernel
theorem dX5_firstPhase_37 : decode cX5_firstPhase 37 = .ok (.iconst (-1), 1) := by decide +kernel
theorem dX5_firstPhase_38 : decode cX5_firstPhase 38 = .ok (.ireturn, 1) := by decide +kernel
theorem dX5_howManyPhases_0 : decode cX5_howManyPhases 0 = .ok (.iconst 0, 1) := by decide +kernel
theorem dX5_howManyPhases_1 : decode cX5_howManyPhases 1 = .ok (.istore_n 2, 1) := by decide +kernel
theorem dX5_howManyPhases_2 : decode cX5_howManyPhases 2 = .ok (.aload_n 0, 1) := by decide +kernel
theorem dX5_howManyPhases_3 : decode cX5_howManyPhases 3 = .ok (.aload_n 1, 1) := by decide +kernel
theorem dX5_howManyPhases_4 : decode cX5_howManyPhases 4 = .ok (.iconst 0, 1) := by decide +kernel
theorem dX5_howManyPhases_5 : decode cX5_howManyPhases 5 = .ok (.invokevirtual 150, 3) := by decide +kernel
theorem dX5_howManyPhases_8 : decode cX5_howManyPhases 8 = .ok (.istore_n 3, 1) := by decide +kernel
theorem dX5_howManyPhases_9 : decode cX5_howManyPhases 9 = .ok (.iconst 0, 1) := by decide +kernel
theorem dX5_howManyPhases_10 : decode cX5_howManyPhases 10 = .ok (.istore 4, 2) := by decide +kernel
theorem dX5_howManyPhases_12 : decode cX5_howManyPhases 12 = .ok (.iload 4, 2) := by decide +kernel
theorem dX5_howManyPhases_14 : decode cX5_howManyPhases 14 = .ok (.bipush 40, 2) := by decide +kernel
theorem dX5_howManyPhases_16 : decode cX5_howManyPhases 16 = .ok (.if_icmp .ge 25, 3) := by decide +kernel
theorem dX5_howManyPhases_19 : decode cX5_howManyPhases 19 = .ok (.iload_n 3, 1) := by decide +kernel
theorem dX5_howManyPhases_20 : decode cX5_howManyPhases 20 = .ok (.ifCond .lt 21, 3) := by decide +kernel
theorem dX5_howManyPhases_23 : decode cX5_howManyPhases 23 = .ok (.iinc 2 1, 3) := by decide +kernel
theorem dX5_howManyPhases_26 : decode cX5_howManyPhases 26 = .ok (.aload_n 0, 1) := by decide +kernel
theorem dX5_howManyPhases_27 : decode cX5_howManyPhases 27 = .ok (.aload_n 1, 1) := by decide +kernel
theorem dX5_howManyPhases_28 : decode cX5_howManyPhases 28 = .ok (.iload_n 3, 1) := by decide +kernel
theorem dX5_howManyPhases_29 : decode cX5_howManyPhases 29 = .ok (.iconst 1, 1) := by decide +kernel
theorem dX5_howManyPhases_30 : decode cX5_howManyPhases 30 = .ok (.iadd, 1) := by decide +kernel
theorem dX5_howManyPhases_31 : decode cX5_howManyPhases 31 = .ok (.invokevirtual 150, 3) := by decide +kernel
theorem dX5_howManyPhases_34 : decode cX5_howManyPhases 34 = .ok (.istore_n 3, 1) := by decide +kernel
theorem dX5_howManyPhases_35 : decode cX5_howManyPhases 35 = .ok (.iinc 4 1, 3) := by decide +kernel
theorem dX5_howManyPhases_38 : decode cX5_howManyPhases 38 = .ok (.goto (-26), 3) := by decide +kernel
theorem dX5_howManyPhases_41 : decode cX5_howManyPhases 41 = .ok (.iload_n 2, 1) := by decide +kernel
theorem dX5_howManyPhases_42 : decode cX5_howManyPhases 42 = .ok (.ireturn, 1) := by decide +kernel
theorem dX5_leastLag_0 : decode cX5_leastLag 0 = .ok (.iconst 0, 1) := by decide +kernel
theorem dX5_leastLag_1 : decode cX5_leastLag 1 = .ok (.istore_n 2, 1) := by decide +kernel
theorem dX5_leastLag_2 : decode cX5_leastLag 2 = .ok (.iload_n 2, 1) := by decide +kernel
theorem dX5_leastLag_3 : decode cX5_leastLag 3 = .ok (.bipush 9, 2) := by decide +kernel
theorem dX5_leastLag_5 : decode cX5_leastLag 5 = .ok (.if_icmp .gt 24, 3) := by decide +kernel
theorem dX5_leastLag_8 : decode cX5_leastLag 8 = .ok (.aload_n 0, 1) := by decide +kernel
theorem dX5_leastLag_9 : decode cX5_leastLag 9 = .ok (.iload_n 2, 1) := by decide +kernel
theorem dX5_leastLag_10 : decode cX5_leastLag 10 = .ok (.putfield 51, 3) := by decide +kernel
theorem dX5_leastLag_13 : decode cX5_leastLag 13 = .ok (.aload_n 0, 1) := by decide +kernel
theorem dX5_leastLag_14 : decode cX5_leastLag 14 = .ok (.aload_n 1, 1) := by decide +kernel
theorem dX5_leastLag_15 : decode cX5_leastLag 15 = .ok (.invokevirtual 146, 3) := by decide +kernel
theorem dX5_leastLag_18 : decode cX5_leastLag 18 = .ok (.ifCond .eq 5, 3) := by decide +kernel
theorem dX5_leastLag_21 : decode cX5_leastLag 21 = .ok (.iload_n 2, 1) := by decide +kernel
theorem dX5_leastLag_22 : decode cX5_leastLag 22 = .ok (.ireturn, 1) := by decide +kernel
theorem dX5_leastLag_23 : decode cX5_leastLag 23 = .ok (.iinc 2 1, 3) := by decide +kernel
theorem dX5_leastLag_26 : decode cX5_leastLag 26 = .ok (.goto (-24), 3) := by decide +kernel
theorem dX5_leastLag_29 : decode cX5_leastLag 29 = .ok (.iconst (-1), 1) := by decide +kernel
theorem dX5_leastLag_30 : decode cX5_leastLag 30 = .ok (.ireturn, 1) := by decide +kernel
theorem dX6_init_0 : decode cX6_init 0 = .ok (.aload_n 0, 1) := by decide +kernel
theorem dX6_init_1 : decode cX6_init 1 = .ok (.invokespecial 3, 3) := by decide +kernel
theorem dX6_init_4 : decode cX6_init 4 = .ok (.aload_n 0, 1) := by decide +kernel
theorem dX6_init_5 : decode cX6_init 5 = .ok (.bipush 40, 2) := by decide +kernel
theorem dX6_init_7 : decode cX6_init 7 = .ok (.newarray .int, 2) := by decide +kernel
theorem dX6_init_9 : decode cX6_init 9 = .ok (.putfield 9, 3) := by decide +kernel
theorem dX6_init_12 : decode cX6_init 12 = .ok (.aload_n 0, 1) := by decide +kernel
theorem dX6_init_13 : decode cX6_init 13 = .ok (.new 15, 3) := by decide +kernel
theorem dX6_init_16 : decode cX6_init 16 = .ok (.dup, 1) := by decide +kernel
theorem dX6_init_17 : decode cX6_init 17 = .ok (.invokespecial 17, 3) := by decide +kernel
theorem dX6_init_20 : decode cX6_init 20 = .ok (.putfield 18, 3) := by decide +kernel
theorem dX6_init_23 : decode cX6_init 23 = .ok (.return_, 1) := by decide +kernel
theorem dX6_speak_0 : decode cX6_speak 0 = .ok (.aload_n 0, 1) := by decide +kernel
theorem dX6_speak_1 : decode cX6_speak 1 = .ok (.iconst 0, 1) := by decide +kernel
theorem dX6_speak_2 : decode cX6_speak 2 = .ok (.putfield 22, 3) := by decide +kernel
theorem dX6_speak_5 : decode cX6_speak 5 = .ok (.aload_n 0, 1) := by decide +kernel
theorem dX6_speak_6 : decode cX6_speak 6 = .ok (.iload_n 1, 1) := by decide +kernel
theorem dX6_speak_7 : decode cX6_speak 7 = .ok (.putfield 26, 3) := by decide +kernel
theorem dX6_speak_10 : decode cX6_speak 10 = .ok (.aload_n 0, 1) := by decide +kernel
theorem dX6_speak_11 : decode cX6_speak 11 = .ok (.getfield 18, 3) := by decide +kernel
theorem dX6_speak_14 : decode cX6_speak 14 = .ok (.aload_n 2, 1) := by decide +kernel
theorem dX6_speak_15 : decode cX6_speak 15 = .ok (.invokevirtual 29, 3) := by decide +kernel
theorem dX6_speak_18 : decode cX6_speak 18 = .ok (.aload_n 0, 1) := by decide +kernel
theorem dX6_speak_19 : decode cX6_speak 19 = .ok (.iload_n 3, 1) := by decide +kernel
theorem dX6_speak_20 : decode cX6_speak 20 = .ok (.aload_n 0, 1) := by decide +kernel
theorem dX6_speak_21 : decode cX6_speak 21 = .ok (.getfield 18, 3) := by decide +kernel
theorem dX6_speak_24 : decode cX6_speak 24 = .ok (.getfield 33, 3) := by decide +kernel
theorem dX6_speak_27 : decode cX6_speak 27 = .ok (.iload 4, 2) := by decide +kernel
theorem dX6_speak_29 : decode cX6_speak 29 = .ok (.iconst 0, 1) := by decide +kernel
theorem dX6_speak_30 : decode cX6_speak 30 = .ok (.invokevirtual 36, 3) := by decide +kernel
theorem dX6_speak_33 : decode cX6_speak 33 = .ok (.ireturn, 1) := by decide +kernel
theorem dX6_bodyAt_0 : decode cX6_bodyAt 0 = .ok (.iload_n 1, 1) := by decide +kernel
theorem dX6_bodyAt_1 : decode cX6_bodyAt 1 = .ok (.ifCond .lt 26, 3) := by decide +kernel
theorem dX6_bodyAt_4 : decode cX6_bodyAt 4 = .ok (.iload_n 1, 1) := by decide +kernel
theorem dX6_bodyAt_5 : decode cX6_bodyAt 5 = .ok (.aload_n 0, 1) := by decide +kernel
theorem dX6_bodyAt_6 : decode cX6_bodyAt 6 = .ok (.getfield 22, 3) := by decide +kernel
theorem dX6_bodyAt_9 : decode cX6_bodyAt 9 = .ok (.if_icmp .ge 18, 3) := by decide +kernel
theorem dX6_bodyAt_12 : decode cX6_bodyAt 12 = .ok (.iload_n 1, 1) := by decide +kernel
theorem dX6_bodyAt_13 : decode cX6_bodyAt 13 = .ok (.bipush 40, 2) := by decide +kernel
theorem dX6_bodyAt_15 : decode cX6_bodyAt 15 = .ok (.if_icmp .ge 12, 3) := by decide +kernel
theorem dX6_bodyAt_18 : decode cX6_bodyAt 18 = .ok (.aload_n 0, 1) := by decide +kernel
theorem dX6_bodyAt_19 : decode cX6_bodyAt 19 = .ok (.getfield 9, 3) := by decide +kernel
theorem dX6_bodyAt_22 : decode cX6_bodyAt 22 = .ok (.iload_n 1, 1) := by decide +kernel
theorem dX6_bodyAt_23 : decode cX6_bodyAt 23 = .ok (.iaload, 1) := by decide +kernel
theorem dX6_bodyAt_24 : decode cX6_bodyAt 24 = .ok (.goto 4, 3) := by decide +kernel
theorem dX6_bodyAt_27 : decode cX6_bodyAt 27 = .ok (.iconst 0, 1) := by decide +kernel
theorem dX6_bodyAt_28 : decode cX6_bodyAt 28 = .ok (.ireturn, 1) := by decide +kernel
theorem dX6_bodyFor_0 : decode cX6_bodyFor 0 = .ok (.iload_n 1, 1) := by decide +kernel
theorem dX6_bodyFor_1 : decode cX6_bodyFor 1 = .ok (.istore_n 2, 1) := by decide +kernel
theorem dX6_bodyFor_2 : decode cX6_bodyFor 2 = .ok (.iconst 0, 1) := by decide +kernel
theorem dX6_bodyFor_3 : decode cX6_bodyFor 3 = .ok (.istore_n 3, 1) := by decide +kernel
theorem dX6_bodyFor_4 : decode cX6_bodyFor 4 = .ok (.iload_n 3, 1) := by decide +kernel
theorem dX6_bodyFor_5 : decode cX6_bodyFor 5 = .ok (.bipush 7, 2) := by decide +kernel
theorem dX6_bodyFor_7 : decode cX6_bodyFor 7 = .ok (.if_icmp .ge 56, 3) := by decide +kernel
theorem dX6_bodyFor_10 : decode cX6_bodyFor 10 = .ok (.iload_n 2, 1) := by decide +kernel
theorem dX6_bodyFor_11 : decode cX6_bodyFor 11 = .ok (.ifCond .lt 52, 3) := by decide +kernel
theorem dX6_bodyFor_14 : decode cX6_bodyFor 14 = .ok (.iload_n 0, 1) := by decide +kernel
theorem dX6_bodyFor_15 : decode cX6_bodyFor 15 = .ok (.bipush 7, 2) := by decide +kernel
theorem dX6_bodyFor_17 : decode cX6_bodyFor 17 = .ok (.imul, 1) := by decide +kernel
theorem dX6_bodyFor_18 : decode cX6_bodyFor 18 = .ok (.iload_n 2, 1) := by decide +kernel
theorem dX6_bodyFor_19 : decode cX6_bodyFor 19 = .ok (.iadd, 1) := by decide +kernel
theorem dX6_bodyFor_20 : decode cX6_bodyFor 20 = .ok (.istore 4, 2) := by decide +kernel
theorem dX6_bodyFor_22 : decode cX6_bodyFor 22 = .ok (.iload 4, 2) := by decide +kernel
theorem dX6_bodyFor_24 : decode cX6_bodyFor 24 = .ok (.ifCond .lt 28, 3) := by decide +kernel
theorem dX6_bodyFor_27 : decode cX6_bodyFor 27 = .ok (.iload 4, 2) := by decide +kernel
theorem dX6_bodyFor_29 : decode cX6_bodyFor 29 = .ok (.getstatic 40, 3) := by decide +kernel
theorem dX6_bodyFor_32 : decode cX6_bodyFor 32 = .ok (.arraylength, 1) := by decide +kernel
theorem dX6_bodyFor_33 : decode cX6_bodyFor 33 = .ok (.if_icmp .ge 19, 3) := by decide +kernel
theorem dX6_bodyFor_36 : decode cX6_bodyFor 36 = .ok (.getstatic 40, 3) := by decide +kernel
theorem dX6_bodyFor_39 : decode cX6_bodyFor 39 = .ok (.iload 4, 2) := by decide +kernel
theorem dX6_bodyFor_41 : decode cX6_bodyFor 41 = .ok (.iaload, 1) := by decide +kernel
theorem dX6_bodyFor_42 : decode cX6_bodyFor 42 = .ok (.ifCond .eq 10, 3) := by decide +kernel
theorem dX6_bodyFor_45 : decode cX6_bodyFor 45 = .ok (.getstatic 40, 3) := by decide +kernel
theorem dX6_bodyFor_48 : decode cX6_bodyFor 48 = .ok (.iload 4, 2) := by decide +kernel
theorem dX6_bodyFor_50 : decode cX6_bodyFor 50 = .ok (.iaload, 1) := by decide +kernel
theorem dX6_bodyFor_51 : decode cX6_bodyFor 51 = .ok (.ireturn, 1) := by decide +kernel
theorem dX6_bodyFor_52 : decode cX6_bodyFor 52 = .ok (.iload_n 2, 1) := by decide +kernel
theorem dX6_bodyFor_53 : decode cX6_bodyFor 53 = .ok (.invokestatic 43, 3) := by decide +kernel
theorem dX6_bodyFor_56 : decode cX6_bodyFor 56 = .ok (.istore_n 2, 1) := by decide +kernel
theorem dX6_bodyFor_57 : decode cX6_bodyFor 57 = .ok (.iinc 3 1, 3) := by decide +kernel
theorem dX6_bodyFor_60 : decode cX6_bodyFor 60 = .ok (.goto (-56), 3) := by decide +kernel
theorem dX6_bodyFor_63 : decode cX6_bodyFor 63 = .ok (.iconst 0, 1) := by decide +kernel
theorem dX6_bodyFor_64 : decode cX6_bodyFor 64 = .ok (.ireturn, 1) := by decide +kernel
theorem dX6_note_0 : decode cX6_note 0 = .ok (.aload_n 0, 1) := by decide +kernel
theorem dX6_note_1 : decode cX6_note 1 = .ok (.getfield 22, 3) := by decide +kernel
theorem dX6_note_4 : decode cX6_note 4 = .ok (.ifCond .lt 32, 3) := by decide +kernel
theorem dX6_note_7 : decode cX6_note 7 = .ok (.aload_n 0, 1) := by decide +kernel
theorem dX6_note_8 : decode cX6_note 8 = .ok (.getfield 22, 3) := by decide +kernel
theorem dX6_note_11 : decode cX6_note 11 = .ok (.bipush 40, 2) := by decide +kernel
theorem dX6_note_13 : decode cX6_note 13 = .ok (.if_icmp .ge 23, 3) := by decide +kernel
theorem dX6_note_16 : decode cX6_note 16 = .ok (.aload_n 0, 1) := by decide +kernel
theorem dX6_note_17 : decode cX6_note 17 = .ok (.getfield 9, 3) := by decide +kernel
theorem dX6_note_20 : decode cX6_note 20 = .ok (.aload_n 0, 1) := by decide +kernel
theorem dX6_note_21 : decode cX6_note 21 = .ok (.getfield 22, 3) := by decide +kernel
theorem dX6_note_24 : decode cX6_note 24 = .ok (.iload_n 1, 1) := by decide +kernel
theorem dX6_note_25 : decode cX6_note 25 = .ok (.iastore, 1) := by decide +kernel
theorem dX6_note_26 : decode cX6_note 26 = .ok (.aload_n 0, 1) := by decide +kernel
theorem dX6_note_27 : decode cX6_note 27 = .ok (.dup, 1) := by decide +kernel
theorem dX6_note_28 : decode cX6_note 28 = .ok (.getfield 22, 3) := by decide +kernel
theorem dX6_note_31 : decode cX6_note 31 = .ok (.iconst 1, 1) := by decide +kernel
theorem dX6_note_32 : decode cX6_note 32 = .ok (.iadd, 1) := by decide +kernel
theorem dX6_note_33 : decode cX6_note 33 = .ok (.putfield 22, 3) := by decide +kernel
theorem dX6_note_36 : decode cX6_note 36 = .ok (.return_, 1) := by decide +kernel
theorem dX6_own_0 : decode cX6_own 0 = .ok (.aload_n 0, 1) := by decide +kernel
theorem dX6_own_1 : decode cX6_own 1 = .ok (.iload_n 1, 1) := by decide +kernel
theorem dX6_own_2 : decode cX6_own 2 = .ok (.aload_n 0, 1) := by decide +kernel
theorem dX6_own_3 : decode cX6_own 3 = .ok (.getfield 18, 3) := by decide +kernel
theorem dX6_own_6 : decode cX6_own 6 = .ok (.getfield 33, 3) := by decide +kernel
theorem dX6_own_9 : decode cX6_own 9 = .ok (.iload_n 2, 1) := by decide +kernel
theorem dX6_own_10 : decode cX6_own 10 = .ok (.iload_n 3, 1) := by decide +kernel
theorem dX6_own_11 : decode cX6_own 11 = .ok (.invokevirtual 36, 3) := by decide +kernel
theorem dX6_own_14 : decode cX6_own 14 = .ok (.ireturn, 1) := by decide +kernel
theorem dX6_say_0 : decode cX6_say 0 = .ok (.iload 4, 2) := by decide +kernel
theorem dX6_say_2 : decode cX6_say 2 = .ok (.bipush 40, 2) := by decide +kernel
theorem dX6_say_4 : decode cX6_say 4 = .ok (.if_icmp .le 5, 3) := by decide +kernel
theorem dX6_say_7 : decode cX6_say 7 = .ok (.iconst 0, 1) := by decide +kernel
theorem dX6_say_8 : decode cX6_say 8 = .ok (.ireturn, 1) := by decide +kernel
theorem dX6_say_9 : decode cX6_say 9 = .ok (.iload_n 1, 1) := by decide +kernel
theorem dX6_say_10 : decode cX6_say 10 = .ok (.iload_n 2, 1) := by decide +kernel
theorem dX6_say_11 : decode cX6_say 11 = .ok (.invokestatic 47, 3) := by decide +kernel
theorem dX6_say_14 : decode cX6_say 14 = .ok (.istore 5, 2) := by decide +kernel
theorem dX6_say_16 : decode cX6_say 16 = .ok (.iload 5, 2) := by decide +kernel
theorem dX6_say_18 : decode cX6_say 18 = .ok (.bipush 10, 2) := by decide +kernel
theorem dX6_say_20 : decode cX6_say 20 = .ok (.idiv, 1) := by decide +kernel
theorem dX6_say_21 : decode cX6_say 21 = .ok (.iconst 1, 1) := by decide +kernel
theorem dX6_say_22 : decode cX6_say 22 = .ok (.isub, 1) := by decide +kernel
theorem dX6_say_23 : decode cX6_say 23 = .ok (.invokestatic 43, 3) := by decide +kernel
theorem dX6_say_26 : decode cX6_say 26 = .ok (.istore 6, 2) := by decide +kernel
theorem dX6_say_28 : decode cX6_say 28 = .ok (.iload 4, 2) := by decide +kernel
theorem dX6_say_30 : decode cX6_say 30 = .ok (.iconst 1, 1) := by decide +kernel
theorem dX6_say_31 : decode cX6_say 31 = .ok (.iadd, 1) := by decide +kernel
theorem dX6_say_32 : decode cX6_say 32 = .ok (.istore 7, 2) := by decide +kernel
theorem dX6_say_34 : decode cX6_say 34 = .ok (.aload_n 0, 1) := by decide +kernel
theorem dX6_say_35 : decode cX6_say 35 = .ok (.iload 5, 2) := by decide +kernel
theorem dX6_say_37 : decode cX6_say 37 = .ok (.invokevirtual 51, 3) := by decide +kernel
theorem dX6_say_40 : decode cX6_say 40 = .ok (.iload 5, 2) := by decide +kernel
theorem dX6_say_42 : decode cX6_say 42 = .ok (.lookupswitch 230 #[(10, 90), (11, 97), (12, 108), (13, 118), (20, 136), (30, 149), (40, 169), (50, 181), (60, 201), (70, 214)], 90) := by decide +kernel
theorem dX6_say_132 : decode cX6_say 132 = .ok (.iload_n 3, 1) := by decide +kernel
theorem dX6_say_133 : decode cX6_say 133 = .ok (.aload_n 0, 1) := by decide +kernel
theorem dX6_say_134 : decode cX6_say 134 = .ok (.getfield 26, 3) := by decide +kernel
theorem dX6_say_137 : decode cX6_say 137 = .ok (.iadd, 1) := by decide +kernel
theorem dX6_say_138 : decode cX6_say 138 = .ok (.ireturn, 1) := by decide +kernel
theorem dX6_say_139 : decode cX6_say 139 = .ok (.aload_n 0, 1) := by decide +kernel
theorem dX6_say_140 : decode cX6_say 140 = .ok (.iconst 0, 1) := by decide +kernel
theorem dX6_say_141 : decode cX6_say 141 = .ok (.iload_n 3, 1) := by decide +kernel
theorem dX6_say_142 : decode cX6_say 142 = .ok (.iload 7, 2) := by decide +kernel
theorem dX6_say_144 : decode cX6_say 144 = .ok (.invokevirtual 55, 3) := by decide +kernel
theorem dX6_say_147 : decode cX6_say 147 = .ok (.iconst 2, 1) := by decide +kernel
theorem dX6_say_148 : decode cX6_say 148 = .ok (.imul, 1) := by decide +kernel
theorem dX6_say_149 : decode cX6_say 149 = .ok (.ireturn, 1) := by decide +kernel
theorem dX6_say_150 : decode cX6_say 150 = .ok (.iload_n 3, 1) := by decide +kernel
theorem dX6_say_151 : decode cX6_say 151 = .ok (.aload_n 0, 1) := by decide +kernel
theorem dX6_say_152 : decode cX6_say 152 = .ok (.getfield 18, 3) := by decide +kernel
theorem dX6_say_155 : decode cX6_say 155 = .ok (.getfield 59, 3) := by decide +kernel
theorem dX6_say_158 : decode cX6_say 158 = .ok (.isub, 1) := by decide +kernel
theorem dX6_say_159 : decode cX6_say 159 = .ok (.ireturn, 1) := by decide +kernel
theorem dX6_say_160 : decode cX6_say 160 = .ok (.aload_n 0, 1) := by decide +kernel
theorem dX6_say_161 : decode cX6_say 161 = .ok (.iconst 1, 1) := by decide +kernel
theorem dX6_say_162 : decode cX6_say 162 = .ok (.iload_n 3, 1) := by decide +kernel
theorem dX6_say_163 : decode cX6_say 163 = .ok (.iload 7, 2) := by decide +kernel
theorem dX6_say_165 : decode cX6_say 165 = .ok (.invokevirtual 55, 3) := by decide +kernel
theorem dX6_say_168 : decode cX6_say 168 = .ok (.aload_n 0, 1) := by decide +kernel
theorem dX6_say_169 : decode cX6_say 169 = .ok (.iconst 2, 1) := by decide +kernel
theorem dX6_say_170 : decode cX6_say 170 = .ok (.iload_n 3, 1) := by decide +kernel
theorem dX6_say_171 : decode cX6_say 171 = .ok (.iload 7, 2) := by decide +kernel
theorem dX6_say_173 : decode cX6_say 173 = .ok (.invokevirtual 55, 3) := by decide +kernel
theorem dX6_say_176 : decode cX6_say 176 = .ok (.ixor, 1) := by decide +kernel
theorem dX6_say_177 : decode cX6_say 177 = .ok (.ireturn, 1) := by decide +kernel
theorem dX6_say_178 : decode cX6_say 178 = .ok (.aload_n 0, 1) := by decide +kernel
theorem dX6_say_179 : decode cX6_say 179 = .ok (.iconst 0, 1) := by decide +kernel
theorem dX6_say_180 : decode cX6_say 180 = .ok (.iload 6, 2) := by decide +kernel
theorem dX6_say_182 : decode cX6_say 182 = .ok (.iload_n 3, 1) := by decide +kernel
theorem dX6_say_183 : decode cX6_say 183 = .ok (.iload 7, 2) := by decide +kernel
theorem dX6_say_185 : decode cX6_say 185 = .ok (.invokevirtual 36, 3) := by decide +kernel
theorem dX6_say_188 : decode cX6_say 188 = .ok (.iconst 3, 1) := by decide +kernel
theorem dX6_say_189 : decode cX6_say 189 = .ok (.imul, 1) := by decide +kernel
theorem dX6_say_190 : decode cX6_say 190 = .ok (.ireturn, 1) := by decide +kernel
theorem dX6_say_191 : decode cX6_say 191 = .ok (.aload_n 0, 1) := by decide +kernel
theorem dX6_say_192 : decode cX6_say 192 = .ok (.iconst 1, 1) := by decide +kernel
theorem dX6_say_193 : decode cX6_say 193 = .ok (.iload 6, 2) := by decide +kernel
theorem dX6_say_195 : decode cX6_say 195 = .ok (.iload_n 3, 1) := by decide +kernel
theorem dX6_say_196 : decode cX6_say 196 = .ok (.iload 7, 2) := by decide +kernel
theorem dX6_say_198 : decode cX6_say 198 = .ok (.invokevirtual 36, 3) := by decide +kernel
theorem dX6_say_201 : decode cX6_say 201 = .ok (.aload_n 0, 1) := by decide +kernel
theorem dX6_say_202 : decode cX6_say 202 = .ok (.iconst 2, 1) := by decide +kernel
theorem dX6_say_203 : decode cX6_say 203 = .ok (.iconst 1, 1) := by decide +kernel
theorem dX6_say_204 : decode cX6_say 204 = .ok (.iload 7, 2) := by decide +kernel
theorem dX6_say_206 : decode cX6_say 206 = .ok (.invokevirtual 55, 3) := by decide +kernel
theorem dX6_say_209 : decode cX6_say 209 = .ok (.isub, 1) := by decide +kernel
theorem dX6_say_210 : decode cX6_say 210 = .ok (.ireturn, 1) := by decide +kernel
theorem dX6_say_211 : decode cX6_say 211 = .ok (.aload_n 0, 1) := by decide +kernel
theorem dX6_say_212 : decode cX6_say 212 = .ok (.iconst 2, 1) := by decide +kernel
theorem dX6_say_213 : decode cX6_say 213 = .ok (.iload 6, 2) := by decide +kernel
theorem dX6_say_215 : decode cX6_say 215 = .ok (.iload_n 3, 1) := by decide +kernel
theorem dX6_say_216 : decode cX6_say 216 = .ok (.iload 7, 2) := by decide +kernel
theorem dX6_say_218 : decode cX6_say 218 = .ok (.invokevirtual 36, 3) := by decide +kernel
theorem dX6_say_221 : decode cX6_say 221 = .ok (.ineg, 1) := by decide +kernel
theorem dX6_say_222 : decode cX6_say 222 = .ok (.ireturn, 1) := by decide +kernel
theorem dX6_say_223 : decode cX6_say 223 = .ok (.aload_n 0, 1) := by decide +kernel
theorem dX6_say_224 : decode cX6_say 224 = .ok (.iconst 3, 1) := by decide +kernel
theorem dX6_say_225 : decode cX6_say 225 = .ok (.iload 6, 2) := by decide +kernel
theorem dX6_say_227 : decode cX6_say 227 = .ok (.iload_n 3, 1) := by decide +kernel
theorem dX6_say_228 : decode cX6_say 228 = .ok (.iload 7, 2) := by decide +kernel
theorem dX6_say_230 : decode cX6_say 230 = .ok (.invokevirtual 36, 3) := by decide +kernel
theorem dX6_say_233 : decode cX6_say 233 = .ok (.aload_n 0, 1) := by decide +kernel
theorem dX6_say_234 : decode cX6_say 234 = .ok (.iconst 0, 1) := by decide +kernel
theorem dX6_say_235 : decode cX6_say 235 = .ok (.iconst 2, 1) := by decide +kernel
theorem dX6_say_236 : decode cX6_say 236 = .ok (.iload 7, 2) := by decide +kernel
theorem dX6_say_238 : decode cX6_say 238 = .ok (.invokevirtual 55, 3) := by decide +kernel
theorem dX6_say_241 : decode cX6_say 241 = .ok (.isub, 1) := by decide +kernel
theorem dX6_say_242 : decode cX6_say 242 = .ok (.ireturn, 1) := by decide +kernel
theorem dX6_say_243 : decode cX6_say 243 = .ok (.aload_n 0, 1) := by decide +kernel
theorem dX6_say_244 : decode cX6_say 244 = .ok (.iconst 1, 1) := by decide +kernel
theorem dX6_say_245 : decode cX6_say 245 = .ok (.iload 6, 2) := by decide +kernel
theorem dX6_say_247 : decode cX6_say 247 = .ok (.iload_n 3, 1) := by decide +kernel
theorem dX6_say_248 : decode cX6_say 248 = .ok (.iconst 1, 1) := by decide +kernel
theorem dX6_say_249 : decode cX6_say 249 = .ok (.iadd, 1) := by decide +kernel
theorem dX6_say_250 : decode cX6_say 250 = .ok (.iload 7, 2) := by decide +kernel
theorem dX6_say_252 : decode cX6_say 252 = .ok (.invokevirtual 36, 3) := by decide +kernel
theorem dX6_say_255 : decode cX6_say 255 = .ok (.ireturn, 1) := by decide +kernel
theorem dX6_say_256 : decode cX6_say 256 = .ok (.aload_n 0, 1) := by decide +kernel
theorem dX6_say_257 : decode cX6_say 257 = .ok (.iconst 2, 1) := by decide +kernel
theorem dX6_say_258 : decode cX6_say 258 = .ok (.iload 6, 2) := by decide +kernel
theorem dX6_say_260 : decode cX6_say 260 = .ok (.iload_n 3, 1) := by decide +kernel
theorem dX6_say_261 : decode cX6_say 261 = .ok (.iload 7, 2) := by decide +kernel
theorem dX6_say_263 : decode cX6_say 263 = .ok (.invokevirtual 36, 3) := by decide +kernel
theorem dX6_say_266 : decode cX6_say 266 = .ok (.aload_n 0, 1) := by decide +kernel
theorem dX6_say_267 : decode cX6_say 267 = .ok (.getfield 26, 3) := by decide +kernel
theorem dX6_say_270 : decode cX6_say 270 = .ok (.ixor, 1) := by decide +kernel
theorem dX6_say_271 : decode cX6_say 271 = .ok (.ireturn, 1) := by decide +kernel
theorem dX6_say_272 : decode cX6_say 272 = .ok (.aload_n 0, 1) := by decide +kernel
theorem dX6_say_273 : decode cX6_say 273 = .ok (.iconst 1, 1) := by decide +kernel
theorem dX6_say_274 : decode cX6_say 274 = .ok (.iload_n 3, 1) := by decide +kernel
theorem dX6_say_275 : decode cX6_say 275 = .ok (.iload 7, 2) := by decide +kernel
theorem dX6_say_277 : decode cX6_say 277 = .ok (.invokevirtual 55, 3) := by decide +kernel
theorem dX6_say_280 : decode cX6_say 280 = .ok (.aload_n 0, 1) := by decide +kernel
theorem dX6_say_281 : decode cX6_say 281 = .ok (.iconst 3, 1) := by decide +kernel
theorem dX6_say_282 : decode cX6_say 282 = .ok (.iload 6, 2) := by decide +kernel
theorem dX6_say_284 : decode cX6_say 284 = .ok (.iload_n 3, 1) := by decide +kernel
theorem dX6_say_285 : decode cX6_say 285 = .ok (.iload 7, 2) := by decide +kernel
theorem dX6_say_287 : decode cX6_say 287 = .ok (.invokevirtual 36, 3) := by decide +kernel
theorem dX6_say_290 : decode cX6_say 290 = .ok (.isub, 1) := by decide +kernel
theorem dX6_say_291 : decode cX6_say 291 = .ok (.ireturn, 1) := by decide +kernel
theorem dX7_init_0 : decode cX7_init 0 = .ok (.aload_n 0, 1) := by decide +kernel
theorem dX7_init_1 : decode cX7_init 1 = .ok (.invokespecial 3, 3) := by decide +kernel
theorem dX7_init_4 : decode cX7_init 4 = .ok (.aload_n 0, 1) := by decide +kernel
theorem dX7_init_5 : decode cX7_init 5 = .ok (.new 9, 3) := by decide +kernel
theorem dX7_init_8 : decode cX7_init 8 = .ok (.dup, 1) := by decide +kernel
theorem dX7_init_9 : decode cX7_init 9 = .ok (.invokespecial 11, 3) := by decide +kernel
theorem dX7_init_12 : decode cX7_init 12 = .ok (.putfield 12, 3) := by decide +kernel
theorem dX7_init_15 : decode cX7_init 15 = .ok (.aload_n 0, 1) := by decide +kernel
theorem dX7_init_16 : decode cX7_init 16 = .ok (.new 9, 3) := by decide +kernel
theorem dX7_init_19 : decode cX7_init 19 = .ok (.dup, 1) := by decide +kernel
theorem dX7_init_20 : decode cX7_init 20 = .ok (.invokespecial 11, 3) := by decide +kernel
theorem dX7_init_23 : decode cX7_init 23 = .ok (.putfield 18, 3) := by decide +kernel
theorem dX7_init_26 : decode cX7_init 26 = .ok (.aload_n 0, 1) := by decide +kernel
theorem dX7_init_27 : decode cX7_init 27 = .ok (.bipush 60, 2) := by decide +kernel
theorem dX7_init_29 : decode cX7_init 29 = .ok (.putfield 21, 3) := by decide +kernel
theorem dX7_init_32 : decode cX7_init 32 = .ok (.aload_n 0, 1) := by decide +kernel
theorem dX7_init_33 : decode cX7_init 33 = .ok (.iconst 5, 1) := by decide +kernel
theorem dX7_init_34 : decode cX7_init 34 = .ok (.putfield 25, 3) := by decide +kernel
theorem dX7_init_37 : decode cX7_init 37 = .ok (.aload_n 0, 1) := by decide +kernel
theorem dX7_init_38 : decode cX7_init 38 = .ok (.bipush 30, 2) := by decide +kernel
theorem dX7_init_40 : decode cX7_init 40 = .ok (.putfield 28, 3) := by decide +kernel
theorem dX7_init_43 : decode cX7_init 43 = .ok (.aload_n 0, 1) := by decide +kernel
theorem dX7_init_44 : decode cX7_init 44 = .ok (.bipush 6, 2) := by decide +kernel
theorem dX7_init_46 : decode cX7_init 46 = .ok (.anewarray 31, 3) := by decide +kernel
theorem dX7_init_49 : decode cX7_init 49 = .ok (.putfield 33, 3) := by decide +kernel
theorem dX7_init_52 : decode cX7_init 52 = .ok (.aload_n 0, 1) := by decide +kernel
theorem dX7_init_53 : decode cX7_init 53 = .ok (.bipush 50, 2) := by decide +kernel
theorem dX7_init_55 : decode cX7_init 55 = .ok (.newarray .int, 2) := by decide +kernel
theorem dX7_init_57 : decode cX7_init 57 = .ok (.putfield 37, 3) := by decide +kernel
theorem dX7_init_60 : decode cX7_init 60 = .ok (.aload_n 0, 1) := by decide +kernel
theorem dX7_init_61 : decode cX7_init 61 = .ok (.new 41, 3) := by decide +kernel
theorem dX7_init_64 : decode cX7_init 64 = .ok (.dup, 1) := by decide +kernel
theorem dX7_init_65 : decode cX7_init 65 = .ok (.iconst 0, 1) := by decide +kernel
theorem dX7_init_66 : decode cX7_init 66 = .ok (.invokespecial 43, 3) := by decide +kernel
theorem dX7_init_69 : decode cX7_init 69 = .ok (.putfield 46, 3) := by decide +kernel
theorem dX7_init_72 : decode cX7_init 72 = .ok (.aload_n 0, 1) := by decide +kernel
theorem dX7_init_73 : decode cX7_init 73 = .ok (.new 41, 3) := by decide +kernel
theorem dX7_init_76 : decode cX7_init 76 = .ok (.dup, 1) := by decide +kernel
theorem dX7_init_77 : decode cX7_init 77 = .ok (.iconst 1, 1) := by decide +kernel
theorem dX7_init_78 : decode cX7_init 78 = .ok (.invokespecial 43, 3) := by decide +kernel
theorem dX7_init_81 : decode cX7_init 81 = .ok (.putfield 50, 3) := by decide +kernel
theorem dX7_init_84 : decode cX7_init 84 = .ok (.aload_n 0, 1) := by decide +kernel
theorem dX7_init_85 : decode cX7_init 85 = .ok (.iconst 1, 1) := by decide +kernel
theorem dX7_init_86 : decode cX7_init 86 = .ok (.putfield 53, 3) := by decide +kernel
theorem dX7_init_89 : decode cX7_init 89 = .ok (.aload_n 0, 1) := by decide +kernel
theorem dX7_init_90 : decode cX7_init 90 = .ok (.bipush 20, 2) := by decide +kernel
theorem dX7_init_92 : decode cX7_init 92 = .ok (.newarray .int, 2) := by decide +kernel
theorem dX7_init_94 : decode cX7_init 94 = .ok (.putfield 56, 3) := by decide +kernel
theorem dX7_init_97 : decode cX7_init 97 = .ok (.iconst 0, 1) := by decide +kernel
theorem dX7_init_98 : decode cX7_init 98 = .ok (.istore_n 1, 1) := by decide +kernel
theorem dX7_init_99 : decode cX7_init 99 = .ok (.iload_n 1, 1) := by decide +kernel
theorem dX7_init_100 : decode cX7_init 100 = .ok (.bipush 6, 2) := by decide +kernel
theorem dX7_init_102 : decode cX7_init 102 = .ok (.if_icmp .ge 22, 3) := by decide +kernel
theorem dX7_init_105 : decode cX7_init 105 = .ok (.aload_n 0, 1) := by decide +kernel
theorem dX7_init_106 : decode cX7_init 106 = .ok (.getfield 33, 3) := by decide +kernel
theorem dX7_init_109 : decode cX7_init 109 = .ok (.iload_n 1, 1) := by decide +kernel
theorem dX7_init_110 : decode cX7_init 110 = .ok (.new 31, 3) := by decide +kernel
theorem dX7_init_113 : decode cX7_init 113 = .ok (.dup, 1) := by decide +kernel
theorem dX7_init_114 : decode cX7_init 114 = .ok (.invokespecial 59, 3) := by decide +kernel
theorem dX7_init_117 : decode cX7_init 117 = .ok (.aastore, 1) := by decide +kernel
theorem dX7_init_118 : decode cX7_init 118 = .ok (.iinc 1 1, 3) := by decide +kernel
theorem dX7_init_121 : decode cX7_init 121 = .ok (.goto (-22), 3) := by decide +kernel
theorem dX7_init_124 : decode cX7_init 124 = .ok (.return_, 1) := by decide +kernel
theorem dX7_swingOf_0 : decode cX7_swingOf 0 = .ok (.iload_n 1, 1) := by decide +kernel
theorem dX7_swingOf_1 : decode cX7_swingOf 1 = .ok (.ifCond .ne 10, 3) := by decide +kernel
theorem dX7_swingOf_4 : decode cX7_swingOf 4 = .ok (.aload_n 0, 1) := by decide +kernel
theorem dX7_swingOf_5 : decode cX7_swingOf 5 = .ok (.getfield 12, 3) := by decide +kernel
theorem dX7_swingOf_8 : decode cX7_swingOf 8 = .ok (.goto 16, 3) := by decide +kernel
theorem dX7_swingOf_11 : decode cX7_swingOf 11 = .ok (.iload_n 1, 1) := by decide +kernel
theorem dX7_swingOf_12 : decode cX7_swingOf 12 = .ok (.iconst 1, 1) := by decide +kernel
theorem dX7_swingOf_13 : decode cX7_swingOf 13 = .ok (.if_icmp .ne 10, 3) := by decide +kernel
theorem dX7_swingOf_16 : decode cX7_swingOf 16 = .ok (.aload_n 0, 1) := by decide +kernel
theorem dX7_swingOf_17 : decode cX7_swingOf 17 = .ok (.getfield 18, 3) := by decide +kernel
theorem dX7_swingOf_20 : decode cX7_swingOf 20 = .ok (.goto 4, 3) := by decide +kernel
theorem dX7_swingOf_23 : decode cX7_swingOf 23 = .ok (.aconst_null, 1) := by decide +kernel
theorem dX7_swingOf_24 : decode cX7_swingOf 24 = .ok (.areturn, 1) := by decide +kernel
theorem dX7_lawOf_0 : decode cX7_lawOf 0 = .ok (.iload_n 1, 1) := by decide +kernel
theorem dX7_lawOf_1 : decode cX7_lawOf 1 = .ok (.ifCond .ne 10, 3) := by decide +kernel
theorem dX7_lawOf_4 : decode cX7_lawOf 4 = .ok (.aload_n 0, 1) := by decide +kernel
theorem dX7_lawOf_5 : decode cX7_lawOf 5 = .ok (.getfield 46, 3) := by decide +kernel
theorem dX7_lawOf_8 : decode cX7_lawOf 8 = .ok (.goto 16, 3) := by decide +kernel
theorem dX7_lawOf_11 : decode cX7_lawOf 11 = .ok (.iload_n 1, 1) := by decide +kernel
theorem dX7_lawOf_12 : decode cX7_lawOf 12 = .ok (.iconst 1, 1) := by decide +kernel
theorem dX7_lawOf_13 : decode cX7_lawOf 13 = .ok (.if_icmp .ne 10, 3) := by decide +kernel
theorem dX7_lawOf_16 : decode cX7_lawOf 16 = .ok (.aload_n 0, 1) := by decide +kernel
theorem dX7_lawOf_17 : decode cX7_lawOf 17 = .ok (.getfield 50, 3) := by decide +kernel
theorem dX7_lawOf_20 : decode cX7_lawOf 20 = .ok (.goto 4, 3) := by decide +kernel
theorem dX7_lawOf_23 : decode cX7_lawOf 23 = .ok (.aconst_null, 1) := by decide +kernel
theorem dX7_lawOf_24 : decode cX7_lawOf 24 = .ok (.areturn, 1) := by decide +kernel
theorem dX7_flyerOf_0 : decode cX7_flyerOf 0 = .ok (.iload_n 1, 1) := by decide +kernel
theorem dX7_flyerOf_1 : decode cX7_flyerOf 1 = .ok (.ifCond .lt 26, 3) := by decide +kernel
theorem dX7_flyerOf_4 : decode cX7_flyerOf 4 = .ok (.iload_n 1, 1) := by decide +kernel
theorem dX7_flyerOf_5 : decode cX7_flyerOf 5 = .ok (.aload_n 0, 1) := by decide +kernel
theorem dX7_flyerOf_6 : decode cX7_flyerOf 6 = .ok (.getfield 60, 3) := by decide +kernel
theorem dX7_flyerOf_9 : decode cX7_flyerOf 9 = .ok (.if_icmp .ge 18, 3) := by decide +kernel
theorem dX7_flyerOf_12 : decode cX7_flyerOf 12 = .ok (.iload_n 1, 1) := by decide +kernel
theorem dX7_flyerOf_13 : decode cX7_flyerOf 13 = .ok (.bipush 6, 2) := by decide +kernel
theorem dX7_flyerOf_15 : decode cX7_flyerOf 15 = .ok (.if_icmp .ge 12, 3) := by decide +kernel
theorem dX7_flyerOf_18 : decode cX7_flyerOf 18 = .ok (.aload_n 0, 1) := by decide +kernel
theorem dX7_flyerOf_19 : decode cX7_flyerOf 19 = .ok (.getfield 33, 3) := by decide +kernel
theorem dX7_flyerOf_22 : decode cX7_flyerOf 22 = .ok (.iload_n 1, 1) := by decide +kernel
theorem dX7_flyerOf_23 : decode cX7_flyerOf 23 = .ok (.aaload, 1) := by decide +kernel
theorem dX7_flyerOf_24 : decode cX7_flyerOf 24 = .ok (.goto 4, 3) := by decide +kernel
theorem dX7_flyerOf_27 : decode cX7_flyerOf 27 = .ok (.aconst_null, 1) := by decide +kernel
theorem dX7_flyerOf_28 : decode cX7_flyerOf 28 = .ok (.areturn, 1) := by decide +kernel
theorem dX7_addByte_0 : decode cX7_addByte 0 = .ok (.aload_n 0, 1) := by decide +kernel
theorem dX7_addByte_1 : decode cX7_addByte 1 = .ok (.getfield 63, 3) := by decide +kernel
theorem dX7_addByte_4 : decode cX7_addByte 4 = .ok (.ifCond .lt 32, 3) := by decide +kernel
theorem dX7_addByte_7 : decode cX7_addByte 7 = .ok (.aload_n 0, 1) := by decide +kernel
theorem dX7_addByte_8 : decode cX7_addByte 8 = .ok (.getfield 63, 3) := by decide +kernel
theorem dX7_addByte_11 : decode cX7_addByte 11 = .ok (.bipush 50, 2) := by decide +kernel
theorem dX7_addByte_13 : decode cX7_addByte 13 = .ok (.if_icmp .ge 23, 3) := by decide +kernel
theorem dX7_addByte_16 : decode cX7_addByte 16 = .ok (.aload_n 0, 1) := by decide +kernel
theorem dX7_addByte_17 : decode cX7_addByte 17 = .ok (.getfield 37, 3) := by decide +kernel
theorem dX7_addByte_20 : decode cX7_addByte 20 = .ok (.aload_n 0, 1) := by decide +kernel
theorem dX7_addByte_21 : decode cX7_addByte 21 = .ok (.getfield 63, 3) := by decide +kernel
theorem dX7_addByte_24 : decode cX7_addByte 24 = .ok (.iload_n 1, 1) := by decide +kernel
theorem dX7_addByte_25 : decode cX7_addByte 25 = .ok (.iastore, 1) := by decide +kernel
theorem dX7_addByte_26 : decode cX7_addByte 26 = .ok (.aload_n 0, 1) := by decide +kernel
theorem dX7_addByte_27 : decode cX7_addByte 27 = .ok (.dup, 1) := by decide +kernel
theorem dX7_addByte_28 : decode cX7_addByte 28 = .ok (.getfield 63, 3) := by decide +kernel
theorem dX7_addByte_31 : decode cX7_addByte 31 = .ok (.iconst 1, 1) := by decide +kernel
theorem dX7_addByte_32 : decode cX7_addByte 32 = .ok (.iadd, 1) := by decide +kernel
theorem dX7_addByte_33 : decode cX7_addByte 33 = .ok (.putfield 63, 3) := by decide +kernel
theorem dX7_addByte_36 : decode cX7_addByte 36 = .ok (.return_, 1) := by decide +kernel
theorem dX7_addWaiting_0 : decode cX7_addWaiting 0 = .ok (.aload_n 0, 1) := by decide +kernel
theorem dX7_addWaiting_1 : decode cX7_addWaiting 1 = .ok (.getfield 66, 3) := by decide +kernel
theorem dX7_addWaiting_4 : decode cX7_addWaiting 4 = .ok (.ifCond .lt 32, 3) := by decide +kernel
theorem dX7_addWaiting_7 : decode cX7_addWaiting 7 = .ok (.aload_n 0, 1) := by decide +kernel
theorem dX7_addWaiting_8 : decode cX7_addWaiting 8 = .ok (.getfield 66, 3) := by decide +kernel
theorem dX7_addWaiting_11 : decode cX7_addWaiting 11 = .ok (.bipush 20, 2) := by decide +kernel
theorem dX7_addWaiting_13 : decode cX7_addWaiting 13 = .ok (.if_icmp .ge 23, 3) := by decide +kernel
theorem dX7_addWaiting_16 : decode cX7_addWaiting 16 = .ok (.aload_n 0, 1) := by decide +kernel
theorem dX7_addWaiting_17 : decode cX7_addWaiting 17 = .ok (.getfield 56, 3) := by decide +kernel
theorem dX7_addWaiting_20 : decode cX7_addWaiting 20 = .ok (.aload_n 0, 1) := by decide +kernel
theorem dX7_addWaiting_21 : decode cX7_addWaiting 21 = .ok (.getfield 66, 3) := by decide +kernel
theorem dX7_addWaiting_24 : decode cX7_addWaiting 24 = .ok (.iload_n 1, 1) := by decide +kernel
theorem dX7_addWaiting_25 : decode cX7_addWaiting 25 = .ok (.iastore, 1) := by decide +kernel
theorem dX7_addWaiting_26 : decode cX7_addWaiting 26 = .ok (.aload_n 0, 1) := by decide +kernel
theorem dX7_addWaiting_27 : decode cX7_addWaiting 27 = .ok (.dup, 1) := by decide +kernel
theorem dX7_addWaiting_28 : decode cX7_addWaiting 28 = .ok (.getfield 66, 3) := by decide +kernel
theorem dX7_addWaiting_31 : decode cX7_addWaiting 31 = .ok (.iconst 1, 1) := by decide +kernel
theorem dX7_addWaiting_32 : decode cX7_addWaiting 32 = .ok (.iadd, 1) := by decide +kernel
theorem dX7_addWaiting_33 : decode cX7_addWaiting 33 = .ok (.putfield 66, 3) := by decide +kernel
theorem dX7_addWaiting_36 : decode cX7_addWaiting 36 = .ok (.return_, 1) := by decide +kernel
theorem dX7_draw_0 : decode cX7_draw 0 = .ok (.aload_n 0, 1) := by decide +kernel
theorem dX7_draw_1 : decode cX7_draw 1 = .ok (.aload_n 0, 1) := by decide +kernel
theorem dX7_draw_2 : decode cX7_draw 2 = .ok (.getfield 53, 3) := by decide +kernel
theorem dX7_draw_5 : decode cX7_draw 5 = .ok (.ldc 69, 2) := by decide +kernel
theorem dX7_draw_7 : decode cX7_draw 7 = .ok (.imul, 1) := by decide +kernel
theorem dX7_draw_8 : decode cX7_draw 8 = .ok (.sipush 12345, 3) := by decide +kernel
theorem dX7_draw_11 : decode cX7_draw 11 = .ok (.iadd, 1) := by decide +kernel
theorem dX7_draw_12 : decode cX7_draw 12 = .ok (.putfield 53, 3) := by decide +kernel
theorem dX7_draw_15 : decode cX7_draw 15 = .ok (.aload_n 0, 1) := by decide +kernel
theorem dX7_draw_16 : decode cX7_draw 16 = .ok (.getfield 53, 3) := by decide +kernel
theorem dX7_draw_19 : decode cX7_draw 19 = .ok (.bipush 8, 2) := by decide +kernel
theorem dX7_draw_21 : decode cX7_draw 21 = .ok (.iushr, 1) := by decide +kernel
theorem dX7_draw_22 : decode cX7_draw 22 = .ok (.ireturn, 1) := by decide +kernel
theorem dX7_copy_0 : decode cX7_copy 0 = .ok (.aload_n 0, 1) := by decide +kernel
theorem dX7_copy_1 : decode cX7_copy 1 = .ok (.getfield 12, 3) := by decide +kernel
theorem dX7_copy_4 : decode cX7_copy 4 = .ok (.aload_n 1, 1) := by decide +kernel
theorem dX7_copy_5 : decode cX7_copy 5 = .ok (.getfield 12, 3) := by decide +kernel
theorem dX7_copy_8 : decode cX7_copy 8 = .ok (.invokevirtual 70, 3) := by decide +kernel
theorem dX7_copy_11 : decode cX7_copy 11 = .ok (.aload_n 0, 1) := by decide +kernel
theorem dX7_copy_12 : decode cX7_copy 12 = .ok (.getfield 18, 3) := by decide +kernel
theorem dX7_copy_15 : decode cX7_copy 15 = .ok (.aload_n 1, 1) := by decide +kernel
theorem dX7_copy_16 : decode cX7_copy 16 = .ok (.getfield 18, 3) := by decide +kernel
theorem dX7_copy_19 : decode cX7_copy 19 = .ok (.invokevirtual 70, 3) := by decide +kernel
theorem dX7_copy_22 : decode cX7_copy 22 = .ok (.aload_n 0, 1) := by decide +kernel
theorem dX7_copy_23 : decode cX7_copy 23 = .ok (.aload_n 1, 1) := by decide +kernel
theorem dX7_copy_24 : decode cX7_copy 24 = .ok (.getfield 21, 3) := by decide +kernel
theorem dX7_copy_27 : decode cX7_copy 27 = .ok (.putfield 21, 3) := by decide +kernel
theorem dX7_copy_30 : decode cX7_copy 30 = .ok (.aload_n 0, 1) := by decide +kernel
theorem dX7_copy_31 : decode cX7_copy 31 = .ok (.aload_n 1, 1) := by decide +kernel
theorem dX7_copy_32 : decode cX7_copy 32 = .ok (.getfield 25, 3) := by decide +kernel
theorem dX7_copy_35 : decode cX7_copy 35 = .ok (.putfield 25, 3) := by decide +kernel
theorem dX7_copy_38 : decode cX7_copy 38 = .ok (.aload_n 0, 1) := by decide +kernel
theorem dX7_copy_39 : decode cX7_copy 39 = .ok (.aload_n 1, 1) := by decide +kernel
theorem dX7_copy_40 : decode cX7_copy 40 = .ok (.getfield 28, 3) := by decide +kernel
theorem dX7_copy_43 : decode cX7_copy 43 = .ok (.putfield 28, 3) := by decide +kernel
theorem dX7_copy_46 : decode cX7_copy 46 = .ok (.aload_n 0, 1) := by decide +kernel
theorem dX7_copy_47 : decode cX7_copy 47 = .ok (.aload_n 1, 1) := by decide +kernel
theorem dX7_copy_48 : decode cX7_copy 48 = .ok (.getfield 74, 3) := by decide +kernel
theorem dX7_copy_51 : decode cX7_copy 51 = .ok (.putfield 74, 3) := by decide +kernel
theorem dX7_copy_54 : decode cX7_copy 54 = .ok (.aload_n 0, 1) := by decide +kernel
theorem dX7_copy_55 : decode cX7_copy 55 = .ok (.aload_n 1, 1) := by decide +kernel
theorem dX7_copy_56 : decode cX7_copy 56 = .ok (.getfield 60, 3) := by decide +kernel
theorem dX7_copy_59 : decode cX7_copy 59 = .ok (.putfield 60, 3) := by decide +kernel
theorem dX7_copy_62 : decode cX7_copy 62 = .ok (.iconst 0, 1) := by decide +kernel
theorem dX7_copy_63 : decode cX7_copy 63 = .ok (.istore_n 2, 1) := by decide +kernel
theorem dX7_copy_64 : decode cX7_copy 64 = .ok (.iload_n 2, 1) := by decide +kernel
theorem dX7_copy_65 : decode cX7_copy 65 = .ok (.bipush 6, 2) := by decide +kernel
theorem dX7_copy_67 : decode cX7_copy 67 = .ok (.if_icmp .ge 39, 3) := by decide +kernel
theorem dX7_copy_70 : decode cX7_copy 70 = .ok (.aload_n 0, 1) := by decide +kernel
theorem dX7_copy_71 : decode cX7_copy 71 = .ok (.getfield 33, 3) := by decide +kernel
theorem dX7_copy_74 : decode cX7_copy 74 = .ok (.iload_n 2, 1) := by decide +kernel
theorem dX7_copy_75 : decode cX7_copy 75 = .ok (.aaload, 1) := by decide +kernel
theorem dX7_copy_76 : decode cX7_copy 76 = .ok (.astore_n 3, 1) := by decide +kernel
theorem dX7_copy_77 : decode cX7_copy 77 = .ok (.aload_n 1, 1) := by decide +kernel
theorem dX7_copy_78 : decode cX7_copy 78 = .ok (.getfield 33, 3) := by decide +kernel
theorem dX7_copy_81 : decode cX7_copy 81 = .ok (.iload_n 2, 1) := by decide +kernel
theorem dX7_copy_82 : decode cX7_copy 82 = .ok (.aaload, 1) := by decide +kernel
theorem dX7_copy_83 : decode cX7_copy 83 = .ok (.astore 4, 2) := by decide +kernel
theorem dX7_copy_85 : decode cX7_copy 85 = .ok (.aload_n 3, 1) := by decide +kernel
theorem dX7_copy_86 : decode cX7_copy 86 = .ok (.ifnull 14, 3) := by decide +kernel
theorem dX7_copy_89 : decode cX7_copy 89 = .ok (.aload 4, 2) := by decide +kernel
theorem dX7_copy_91 : decode cX7_copy 91 = .ok (.ifnull 9, 3) := by decide +kernel
theorem dX7_copy_94 : decode cX7_copy 94 = .ok (.aload_n 3, 1) := by decide +kernel
theorem dX7_copy_95 : decode cX7_copy 95 = .ok (.aload 4, 2) := by decide +kernel
theorem dX7_copy_97 : decode cX7_copy 97 = .ok (.invokevirtual 77, 3) := by decide +kernel
theorem dX7_copy_100 : decode cX7_copy 100 = .ok (.iinc 2 1, 3) := by decide +kernel
theorem dX7_copy_103 : decode cX7_copy 103 = .ok (.goto (-39), 3) := by decide +kernel
theorem dX7_copy_106 : decode cX7_copy 106 = .ok (.aload_n 1, 1) := by decide +kernel
theorem dX7_copy_107 : decode cX7_copy 107 = .ok (.getfield 37, 3) := by decide +kernel
theorem dX7_copy_110 : decode cX7_copy 110 = .ok (.iconst 0, 1) := by decide +kernel
theorem dX7_copy_111 : decode cX7_copy 111 = .ok (.aload_n 0, 1) := by decide +kernel
theorem dX7_copy_112 : decode cX7_copy 112 = .ok (.getfield 37, 3) := by decide +kernel
theorem dX7_copy_115 : decode cX7_copy 115 = .ok (.iconst 0, 1) := by decide +kernel
theorem dX7_copy_116 : decode cX7_copy 116 = .ok (.bipush 50, 2) := by decide +kernel
theorem dX7_copy_118 : decode cX7_copy 118 = .ok (.invokestatic 80, 3) := by decide +kernel
theorem dX7_copy_121 : decode cX7_copy 121 = .ok (.aload_n 0, 1) := by decide +kernel
theorem dX7_copy_122 : decode cX7_copy 122 = .ok (.aload_n 1, 1) := by decide +kernel
theorem dX7_copy_123 : decode cX7_copy 123 = .ok (.getfield 63, 3) := by decide +kernel
theorem dX7_copy_126 : decode cX7_copy 126 = .ok (.putfield 63, 3) := by decide +kernel
theorem dX7_copy_129 : decode cX7_copy 129 = .ok (.aload_n 0, 1) := by decide +kernel
theorem dX7_copy_130 : decode cX7_copy 130 = .ok (.getfield 46, 3) := by decide +kernel
theorem dX7_copy_133 : decode cX7_copy 133 = .ok (.aload_n 1, 1) := by decide +kernel
theorem dX7_copy_134 : decode cX7_copy 134 = .ok (.getfield 46, 3) := by decide +kernel
theorem dX7_copy_137 : decode cX7_copy 137 = .ok (.invokevirtual 86, 3) := by decide +kernel
theorem dX7_copy_140 : decode cX7_copy 140 = .ok (.aload_n 0, 1) := by decide +kernel
theorem dX7_copy_141 : decode cX7_copy 141 = .ok (.getfield 50, 3) := by decide +kernel
theorem dX7_copy_144 : decode cX7_copy 144 = .ok (.aload_n 1, 1) := by decide +kernel
theorem dX7_copy_145 : decode cX7_copy 145 = .ok (.getfield 50, 3) := by decide +kernel
theorem dX7_copy_148 : decode cX7_copy 148 = .ok (.invokevirtual 86, 3) := by decide +kernel
theorem dX7_copy_151 : decode cX7_copy 151 = .ok (.aload_n 0, 1) := by decide +kernel
theorem dX7_copy_152 : decode cX7_copy 152 = .ok (.aload_n 1, 1) := by decide +kernel
theorem dX7_copy_153 : decode cX7_copy 153 = .ok (.getfield 89, 3) := by decide +kernel
theorem dX7_copy_156 : decode cX7_copy 156 = .ok (.putfield 89, 3) := by decide +kernel
theorem dX7_copy_159 : decode cX7_copy 159 = .ok (.aload_n 0, 1) := by decide +kernel
theorem dX7_copy_160 : decode cX7_copy 160 = .ok (.aload_n 1, 1) := by decide +kernel
theorem dX7_copy_161 : decode cX7_copy 161 = .ok (.getfield 92, 3) := by decide +kernel
theorem dX7_copy_164 : decode cX7_copy 164 = .ok (.putfield 92, 3) := by decide +kernel
theorem dX7_copy_167 : decode cX7_copy 167 = .ok (.aload_n 0, 1) := by decide +kernel
theorem dX7_copy_168 : decode cX7_copy 168 = .ok (.aload_n 1, 1) := by decide +kernel
theorem dX7_copy_169 : decode cX7_copy 169 = .ok (.getfield 95, 3) := by decide +kernel
theorem dX7_copy_172 : decode cX7_copy 172 = .ok (.putfield 95, 3) := by decide +kernel
theorem dX7_copy_175 : decode cX7_copy 175 = .ok (.aload_n 0, 1) := by decide +kernel
theorem dX7_copy_176 : decode cX7_copy 176 = .ok (.aload_n 1, 1) := by decide +kernel
theorem dX7_copy_177 : decode cX7_copy 177 = .ok (.getfield 53, 3) := by decide +kernel
theorem dX7_copy_180 : decode cX7_copy 180 = .ok (.putfield 53, 3) := by decide +kernel
theorem dX7_copy_183 : decode cX7_copy 183 = .ok (.aload_n 1, 1) := by decide +kernel
theorem dX7_copy_184 : decode cX7_copy 184 = .ok (.getfield 56, 3) := by decide +kernel
theorem dX7_copy_187 : decode cX7_copy 187 = .ok (.iconst 0, 1) := by decide +kernel
theorem dX7_copy_188 : decode cX7_copy 188 = .ok (.aload_n 0, 1) := by decide +kernel
theorem dX7_copy_189 : decode cX7_copy 189 = .ok (.getfield 56, 3) := by decide +kernel
theorem dX7_copy_192 : decode cX7_copy 192 = .ok (.iconst 0, 1) := by decide +kernel
theorem dX7_copy_193 : decode cX7_copy 193 = .ok (.bipush 20, 2) := by decide +kernel
theorem dX7_copy_195 : decode cX7_copy 195 = .ok (.invokestatic 80, 3) := by decide +kernel
theorem dX7_copy_198 : decode cX7_copy 198 = .ok (.aload_n 0, 1) := by decide +kernel
theorem dX7_copy_199 : decode cX7_copy 199 = .ok (.aload_n 1, 1) := by decide +kernel
theorem dX7_copy_200 : decode cX7_copy 200 = .ok (.getfield 66, 3) := by decide +kernel
theorem dX7_copy_203 : decode cX7_copy 203 = .ok (.putfield 66, 3) := by decide +kernel
theorem dX7_copy_206 : decode cX7_copy 206 = .ok (.return_, 1) := by decide +kernel
theorem dX8_init_0 : decode cX8_init 0 = .ok (.aload_n 0, 1) := by decide +kernel
theorem dX8_init_1 : decode cX8_init 1 = .ok (.invokespecial 1, 3) := by decide +kernel
theorem dX8_init_4 : decode cX8_init 4 = .ok (.aload_n 0, 1) := by decide +kernel
theorem dX8_init_5 : decode cX8_init 5 = .ok (.new 7, 3) := by decide +kernel
theorem dX8_init_8 : decode cX8_init 8 = .ok (.dup, 1) := by decide +kernel
theorem dX8_init_9 : decode cX8_init 9 = .ok (.invokespecial 9, 3) := by decide +kernel
theorem dX8_init_12 : decode cX8_init 12 = .ok (.putfield 10, 3) := by decide +kernel
theorem dX8_init_15 : decode cX8_init 15 = .ok (.aload_n 0, 1) := by decide +kernel
theorem dX8_init_16 : decode cX8_init 16 = .ok (.new 7, 3) := by decide +kernel
theorem dX8_init_19 : decode cX8_init 19 = .ok (.dup, 1) := by decide +kernel
theorem dX8_init_20 : decode cX8_init 20 = .ok (.invokespecial 9, 3) := by decide +kernel
theorem dX8_init_23 : decode cX8_init 23 = .ok (.putfield 16, 3) := by decide +kernel
theorem dX8_init_26 : decode cX8_init 26 = .ok (.aload_n 0, 1) := by decide +kernel
theorem dX8_init_27 : decode cX8_init 27 = .ok (.new 19, 3) := by decide +kernel
theorem dX8_init_30 : decode cX8_init 30 = .ok (.dup, 1) := by decide +kernel
theorem dX8_init_31 : decode cX8_init 31 = .ok (.aload_n 0, 1) := by decide +kernel
theorem dX8_init_32 : decode cX8_init 32 = .ok (.getfield 10, 3) := by decide +kernel
theorem dX8_init_35 : decode cX8_init 35 = .ok (.invokespecial 21, 3) := by decide +kernel
theorem dX8_init_38 : decode cX8_init 38 = .ok (.putfield 24, 3) := by decide +kernel
theorem dX8_init_41 : decode cX8_init 41 = .ok (.aload_n 0, 1) := by decide +kernel
theorem dX8_init_42 : decode cX8_init 42 = .ok (.new 28, 3) := by decide +kernel
theorem dX8_init_45 : decode cX8_init 45 = .ok (.dup, 1) := by decide +kernel
theorem dX8_init_46 : decode cX8_init 46 = .ok (.aload_n 0, 1) := by decide +kernel
theorem dX8_init_47 : decode cX8_init 47 = .ok (.getfield 10, 3) := by decide +kernel
theorem dX8_init_50 : decode cX8_init 50 = .ok (.invokespecial 30, 3) := by decide +kernel
theorem dX8_init_53 : decode cX8_init 53 = .ok (.putfield 31, 3) := by decide +kernel
theorem dX8_init_56 : decode cX8_init 56 = .ok (.aload_n 0, 1) := by decide +kernel
theorem dX8_init_57 : decode cX8_init 57 = .ok (.new 35, 3) := by decide +kernel
theorem dX8_init_60 : decode cX8_init 60 = .ok (.dup, 1) := by decide +kernel
theorem dX8_init_61 : decode cX8_init 61 = .ok (.invokespecial 37, 3) := by decide +kernel
theorem dX8_init_64 : decode cX8_init 64 = .ok (.putfield 38, 3) := by decide +kernel
theorem dX8_init_67 : decode cX8_init 67 = .ok (.aload_n 0, 1) := by decide +kernel
theorem dX8_init_68 : decode cX8_init 68 = .ok (.iconst 4, 1) := by decide +kernel
theorem dX8_init_69 : decode cX8_init 69 = .ok (.anewarray 42, 3) := by decide +kernel
theorem dX8_init_72 : decode cX8_init 72 = .ok (.putfield 44, 3) := by decide +kernel
theorem dX8_init_75 : decode cX8_init 75 = .ok (.aload_n 0, 1) := by decide +kernel
theorem dX8_init_76 : decode cX8_init 76 = .ok (.bipush 6, 2) := by decide +kernel
theorem dX8_init_78 : decode cX8_init 78 = .ok (.newarray .int, 2) := by decide +kernel
theorem dX8_init_80 : decode cX8_init 80 = .ok (.putfield 48, 3) := by decide +kernel
theorem dX8_init_83 : decode cX8_init 83 = .ok (.iconst 0, 1) := by decide +kernel
theorem dX8_init_84 : decode cX8_init 84 = .ok (.istore_n 1, 1) := by decide +kernel
theorem dX8_init_85 : decode cX8_init 85 = .ok (.iload_n 1, 1) := by decide +kernel
theorem dX8_init_86 : decode cX8_init 86 = .ok (.iconst 4, 1) := by decide +kernel
theorem dX8_init_87 : decode cX8_init 87 = .ok (.if_icmp .ge 22, 3) := by decide +kernel
theorem dX8_init_90 : decode cX8_init 90 = .ok (.aload_n 0, 1) := by decide +kernel
theorem dX8_init_91 : decode cX8_init 91 = .ok (.getfield 44, 3) := by decide +kernel
theorem dX8_init_94 : decode cX8_init 94 = .ok (.iload_n 1, 1) := by decide +kernel
theorem dX8_init_95 : decode cX8_init 95 = .ok (.new 42, 3) := by decide +kernel
theorem dX8_init_98 : decode cX8_init 98 = .ok (.dup, 1) := by decide +kernel
theorem dX8_init_99 : decode cX8_init 99 = .ok (.invokespecial 52, 3) := by decide +kernel
theorem dX8_init_102 : decode cX8_init 102 = .ok (.aastore, 1) := by decide +kernel
theorem dX8_init_103 : decode cX8_init 103 = .ok (.iinc 1 1, 3) := by decide +kernel
theorem dX8_init_106 : decode cX8_init 106 = .ok (.goto (-21), 3) := by decide +kernel
theorem dX8_init_109 : decode cX8_init 109 = .ok (.return_, 1) := by decide +kernel
theorem dX8_swing_0 : decode cX8_swing 0 = .ok (.aload_n 0, 1) := by decide +kernel
theorem dX8_swing_1 : decode cX8_swing 1 = .ok (.getfield 10, 3) := by decide +kernel
theorem dX8_swing_4 : decode cX8_swing 4 = .ok (.iload_n 1, 1) := by decide +kernel
theorem dX8_swing_5 : decode cX8_swing 5 = .ok (.invokevirtual 53, 3) := by decide +kernel
theorem dX8_swing_8 : decode cX8_swing 8 = .ok (.astore 4, 2) := by decide +kernel
theorem dX8_swing_10 : decode cX8_swing 10 = .ok (.aload 4, 2) := by decide +kernel
theorem dX8_swing_12 : decode cX8_swing 12 = .ok (.ifnull 13, 3) := by decide +kernel
theorem dX8_swing_15 : decode cX8_swing 15 = .ok (.aload 4, 2) := by decide +kernel
theorem dX8_swing_17 : decode cX8_swing 17 = .ok (.iload_n 2, 1) := by decide +kernel
theorem dX8_swing_18 : decode cX8_swing 18 = .ok (.iload_n 3, 1) := by decide +kernel
theorem dX8_swing_19 : decode cX8_swing 19 = .ok (.invokevirtual 57, 3) := by decide +kernel
theorem dX8_swing_22 : decode cX8_swing 22 = .ok (.ifCond .ne 9, 3) := by decide +kernel
theorem dX8_swing_25 : decode cX8_swing 25 = .ok (.aload_n 0, 1) := by decide +kernel
theorem dX8_swing_26 : decode cX8_swing 26 = .ok (.iconst 1, 1) := by decide +kernel
theorem dX8_swing_27 : decode cX8_swing 27 = .ok (.invokevirtual 63, 3) := by decide +kernel
theorem dX8_swing_30 : decode cX8_swing 30 = .ok (.ireturn, 1) := by decide +kernel
theorem dX8_swing_31 : decode cX8_swing 31 = .ok (.aload 4, 2) := by decide +kernel
theorem dX8_swing_33 : decode cX8_swing 33 = .ok (.iload_n 2, 1) := by decide +kernel
theorem dX8_swing_34 : decode cX8_swing 34 = .ok (.iload_n 3, 1) := by decide +kernel
theorem dX8_swing_35 : decode cX8_swing 35 = .ok (.invokevirtual 67, 3) := by decide +kernel
theorem dX8_swing_38 : decode cX8_swing 38 = .ok (.ireturn, 1) := by decide +kernel
theorem dX8_bar_0 : decode cX8_bar 0 = .ok (.aload_n 0, 1) := by decide +kernel
theorem dX8_bar_1 : decode cX8_bar 1 = .ok (.getfield 10, 3) := by decide +kernel
theorem dX8_bar_4 : decode cX8_bar 4 = .ok (.iload_n 1, 1) := by decide +kernel
theorem dX8_bar_5 : decode cX8_bar 5 = .ok (.invokevirtual 53, 3) := by decide +kernel
theorem dX8_bar_8 : decode cX8_bar 8 = .ok (.astore_n 3, 1) := by decide +kernel
theorem dX8_bar_9 : decode cX8_bar 9 = .ok (.aload_n 3, 1) := by decide +kernel
theorem dX8_bar_10 : decode cX8_bar 10 = .ok (.ifnull 14, 3) := by decide +kernel
theorem dX8_bar_13 : decode cX8_bar 13 = .ok (.iload_n 2, 1) := by decide +kernel
theorem dX8_bar_14 : decode cX8_bar 14 = .ok (.iconst 0, 1) := by decide +kernel
theorem dX8_bar_15 : decode cX8_bar 15 = .ok (.sipush 19999, 3) := by decide +kernel
theorem dX8_bar_18 : decode cX8_bar 18 = .ok (.invokestatic 71, 3) := by decide +kernel
theorem dX8_bar_21 : decode cX8_bar 21 = .ok (.ifCond .ne 9, 3) := by decide +kernel
theorem dX8_bar_24 : decode cX8_bar 24 = .ok (.aload_n 0, 1) := by decide +kernel
theorem dX8_bar_25 : decode cX8_bar 25 = .ok (.iconst 1, 1) := by decide +kernel
theorem dX8_bar_26 : decode cX8_bar 26 = .ok (.invokevirtual 63, 3) := by decide +kernel
theorem dX8_bar_29 : decode cX8_bar 29 = .ok (.ireturn, 1) := by decide +kernel
theorem dX8_bar_30 : decode cX8_bar 30 = .ok (.aload_n 3, 1) := by decide +kernel
theorem dX8_bar_31 : decode cX8_bar 31 = .ok (.iload_n 2, 1) := by decide +kernel
theorem dX8_bar_32 : decode cX8_bar 32 = .ok (.invokevirtual 75, 3) := by decide +kernel
theorem dX8_bar_35 : decode cX8_bar 35 = .ok (.ireturn, 1) := by decide +kernel
theorem dX8_set_0 : decode cX8_set 0 = .ok (.iload_n 1, 1) := by decide +kernel
theorem dX8_set_1 : decode cX8_set 1 = .ok (.ifCond .ne 33, 3) := by decide +kernel
theorem dX8_set_4 : decode cX8_set 4 = .ok (.iload_n 2, 1) := by decide +kernel
theorem dX8_set_5 : decode cX8_set 5 = .ok (.iconst 0, 1) := by decide +kernel
theorem dX8_set_6 : decode cX8_set 6 = .ok (.sipush 200, 3) := by decide +kernel
theorem dX8_set_9 : decode cX8_set 9 = .ok (.invokestatic 71, 3) := by decide +kernel
theorem dX8_set_12 : decode cX8_set 12 = .ok (.ifCond .eq 22, 3) := by decide +kernel
theorem dX8_set_15 : decode cX8_set 15 = .ok (.aload_n 0, 1) := by decide +kernel
theorem dX8_set_16 : decode cX8_set 16 = .ok (.getfield 10, 3) := by decide +kernel
theorem dX8_set_19 : decode cX8_set 19 = .ok (.getfield 78, 3) := by decide +kernel
theorem dX8_set_22 : decode cX8_set 22 = .ok (.istore_n 3, 1) := by decide +kernel
theorem dX8_set_23 : decode cX8_set 23 = .ok (.aload_n 0, 1) := by decide +kernel
theorem dX8_set_24 : decode cX8_set 24 = .ok (.getfield 10, 3) := by decide +kernel
theorem dX8_set_27 : decode cX8_set 27 = .ok (.iload_n 2, 1) := by decide +kernel
theorem dX8_set_28 : decode cX8_set 28 = .ok (.putfield 78, 3) := by decide +kernel
theorem dX8_set_31 : decode cX8_set 31 = .ok (.goto 79, 3) := by decide +kernel
theorem dX8_set_34 : decode cX8_set 34 = .ok (.iload_n 1, 1) := by decide +kernel
theorem dX8_set_35 : decode cX8_set 35 = .ok (.iconst 1, 1) := by decide +kernel
theorem dX8_set_36 : decode cX8_set 36 = .ok (.if_icmp .ne 32, 3) := by decide +kernel
theorem dX8_set_39 : decode cX8_set 39 = .ok (.iload_n 2, 1) := by decide +kernel
theorem dX8_set_40 : decode cX8_set 40 = .ok (.iconst 0, 1) := by decide +kernel
theorem dX8_set_41 : decode cX8_set 41 = .ok (.bipush 30, 2) := by decide +kernel
theorem dX8_set_43 : decode cX8_set 43 = .ok (.invokestatic 71, 3) := by decide +kernel
theorem dX8_set_46 : decode cX8_set 46 = .ok (.ifCond .eq 22, 3) := by decide +kernel
theorem dX8_set_49 : decode cX8_set 49 = .ok (.aload_n 0, 1) := by decide +kernel
theorem dX8_set_50 : decode cX8_set 50 = .ok (.getfield 10, 3) := by decide +kernel
theorem dX8_set_53 : decode cX8_set 53 = .ok (.getfield 82, 3) := by decide +kernel
theorem dX8_set_56 : decode cX8_set 56 = .ok (.istore_n 3, 1) := by decide +kernel
theorem dX8_set_57 : decode cX8_set 57 = .ok (.aload_n 0, 1) := by decide +kernel
theorem dX8_set_58 : decode cX8_set 58 = .ok (.getfield 10, 3) := by decide +kernel
theorem dX8_set_61 : decode cX8_set 61 = .ok (.iload_n 2, 1) := by decide +kernel
theorem dX8_set_62 : decode cX8_set 62 = .ok (.putfield 82, 3) := by decide +kernel
theorem dX8_set_65 : decode cX8_set 65 = .ok (.goto 45, 3) := by decide +kernel
theorem dX8_set_68 : decode cX8_set 68 = .ok (.iload_n 1, 1) := by decide +kernel
theorem dX8_set_69 : decode cX8_set 69 = .ok (.iconst 2, 1) := by decide +kernel
theorem dX8_set_70 : decode cX8_set 70 = .ok (.if_icmp .ne 34, 3) := by decide +kernel
theorem dX8_set_73 : decode cX8_set 73 = .ok (.iload_n 2, 1) := by decide +kernel
theorem dX8_set_74 : decode cX8_set 74 = .ok (.bipush (-99), 2) := by decide +kernel
theorem dX8_set_76 : decode cX8_set 76 = .ok (.sipush 299, 3) := by decide +kernel
theorem dX8_set_79 : decode cX8_set 79 = .ok (.invokestatic 71, 3) := by decide +kernel
theorem dX8_set_82 : decode cX8_set 82 = .ok (.ifCond .eq 22, 3) := by decide +kernel
theorem dX8_set_85 : decode cX8_set 85 = .ok (.aload_n 0, 1) := by decide +kernel
theorem dX8_set_86 : decode cX8_set 86 = .ok (.getfield 10, 3) := by decide +kernel
theorem dX8_set_89 : decode cX8_set 89 = .ok (.getfield 85, 3) := by decide +kernel
theorem dX8_set_92 : decode cX8_set 92 = .ok (.istore_n 3, 1) := by decide +kernel
theorem dX8_set_93 : decode cX8_set 93 = .ok (.aload_n 0, 1) := by decide +kernel
theorem dX8_set_94 : decode cX8_set 94 = .ok (.getfield 10, 3) := by decide +kernel
theorem dX8_set_97 : decode cX8_set 97 = .ok (.iload_n 2, 1) := by decide +kernel
theorem dX8_set_98 : decode cX8_set 98 = .ok (.putfield 85, 3) := by decide +kernel
theorem dX8_set_101 : decode cX8_set 101 = .ok (.goto 9, 3) := by decide +kernel
theorem dX8_set_104 : decode cX8_set 104 = .ok (.aload_n 0, 1) := by decide +kernel
theorem dX8_set_105 : decode cX8_set 105 = .ok (.iconst 1, 1) := by decide +kernel
theorem dX8_set_106 : decode cX8_set 106 = .ok (.invokevirtual 63, 3) := by decide +kernel
theorem dX8_set_109 : decode cX8_set 109 = .ok (.ireturn, 1) := by decide +kernel
theorem dX8_set_110 : decode cX8_set 110 = .ok (.iload_n 3, 1) := by decide +kernel
theorem dX8_set_111 : decode cX8_set 111 = .ok (.ireturn, 1) := by decide +kernel
theorem dX8_flyer_0 : decode cX8_flyer 0 = .ok (.iload_n 1, 1) := by decide +kernel
theorem dX8_flyer_1 : decode cX8_flyer 1 = .ok (.invokestatic 88, 3) := by decide +kernel
theorem dX8_flyer_4 : decode cX8_flyer 4 = .ok (.ifCond .ne 9, 3) := by decide +kernel
theorem dX8_flyer_7 : decode cX8_flyer 7 = .ok (.aload_n 0, 1) := by decide +kernel
theorem dX8_flyer_8 : decode cX8_flyer 8 = .ok (.iconst 1, 1) := by decide +kernel
theorem dX8_flyer_9 : decode cX8_flyer 9 = .ok (.invokevirtual 63, 3) := by decide +kernel
theorem dX8_flyer_12 : decode cX8_flyer 12 = .ok (.ireturn, 1) := by decide +kernel
theorem dX8_flyer_13 : decode cX8_flyer 13 = .ok (.aload_n 0, 1) := by decide +kernel
theorem dX8_flyer_14 : decode cX8_flyer 14 = .ok (.getfield 10, 3) := by decide +kernel
theorem dX8_flyer_17 : decode cX8_flyer 17 = .ok (.getfield 92, 3) := by decide +kernel
theorem dX8_flyer_20 : decode cX8_flyer 20 = .ok (.bipush 6, 2) := by decide +kernel
theorem dX8_flyer_22 : decode cX8_flyer 22 = .ok (.if_icmp .lt 9, 3) := by decide +kernel
theorem dX8_flyer_25 : decode cX8_flyer 25 = .ok (.aload_n 0, 1) := by decide +kernel
theorem dX8_flyer_26 : decode cX8_flyer 26 = .ok (.iconst 4, 1) := by decide +kernel
theorem dX8_flyer_27 : decode cX8_flyer 27 = .ok (.invokevirtual 63, 3) := by decide +kernel
theorem dX8_flyer_30 : decode cX8_flyer 30 = .ok (.ireturn, 1) := by decide +kernel
theorem dX8_flyer_31 : decode cX8_flyer 31 = .ok (.aload_n 0, 1) := by decide +kernel
theorem dX8_flyer_32 : decode cX8_flyer 32 = .ok (.getfield 10, 3) := by decide +kernel
theorem dX8_flyer_35 : decode cX8_flyer 35 = .ok (.dup, 1) := by decide +kernel
theorem dX8_flyer_36 : decode cX8_flyer 36 = .ok (.getfield 92, 3) := by decide +kernel
theorem dX8_flyer_39 : decode cX8_flyer 39 = .ok (.iconst 1, 1) := by decide +kernel
theorem dX8_flyer_40 : decode cX8_flyer 40 = .ok (.iadd, 1) := by decide +kernel
theorem dX8_flyer_41 : decode cX8_flyer 41 = .ok (.putfield 92, 3) := by decide +kernel
theorem dX8_flyer_44 : decode cX8_flyer 44 = .ok (.aload_n 0, 1) := by decide +kernel
theorem dX8_flyer_45 : decode cX8_flyer 45 = .ok (.getfield 10, 3) := by decide +kernel
theorem dX8_flyer_48 : decode cX8_flyer 48 = .ok (.aload_n 0, 1) := by decide +kernel
theorem dX8_flyer_49 : decode cX8_flyer 49 = .ok (.getfield 10, 3) := by decide +kernel
theorem dX8_flyer_52 : decode cX8_flyer 52 = .ok (.getfield 92, 3) := by decide +kernel
theorem dX8_flyer_55 : decode cX8_flyer 55 = .ok (.iconst 1, 1) := by decide +kernel
theorem dX8_flyer_56 : decode cX8_flyer 56 = .ok (.isub, 1) := by decide +kernel
theorem dX8_flyer_57 : decode cX8_flyer 57 = .ok (.invokevirtual 95, 3) := by decide +kernel
theorem dX8_flyer_60 : decode cX8_flyer 60 = .ok (.astore_n 2, 1) := by decide +kernel
theorem dX8_flyer_61 : decode cX8_flyer 61 = .ok (.aload_n 2, 1) := by decide +kernel
theorem dX8_flyer_62 : decode cX8_flyer 62 = .ok (.ifnull 8, 3) := by decide +kernel
theorem dX8_flyer_65 : decode cX8_flyer 65 = .ok (.aload_n 2, 1) := by decide +kernel
theorem dX8_flyer_66 : decode cX8_flyer 66 = .ok (.iload_n 1, 1) := by decide +kernel
theorem dX8_flyer_67 : decode cX8_flyer 67 = .ok (.invokevirtual 99, 3) := by decide +kernel
theorem dX8_flyer_70 : decode cX8_flyer 70 = .ok (.aload_n 0, 1) := by decide +kernel
theorem dX8_flyer_71 : decode cX8_flyer 71 = .ok (.getfield 10, 3) := by decide +kernel
theorem dX8_flyer_74 : decode cX8_flyer 74 = .ok (.getfield 92, 3) := by decide +kernel
theorem dX8_flyer_77 : decode cX8_flyer 77 = .ok (.iconst 1, 1) := by decide +kernel
theorem dX8_flyer_78 : decode cX8_flyer 78 = .ok (.isub, 1) := by decide +kernel
theorem dX8_flyer_79 : decode cX8_flyer 79 = .ok (.ireturn, 1) := by decide +kernel
theorem dX8_ofFlyer_0 : decode cX8_ofFlyer 0 = .ok (.aload_n 0, 1) := by decide +kernel
theorem dX8_ofFlyer_1 : decode cX8_ofFlyer 1 = .ok (.getfield 10, 3) := by decide +kernel
theorem dX8_ofFlyer_4 : decode cX8_ofFlyer 4 = .ok (.iload_n 1, 1) := by decide +kernel
theorem dX8_ofFlyer_5 : decode cX8_ofFlyer 5 = .ok (.invokevirtual 95, 3) := by decide +kernel
theorem dX8_ofFlyer_8 : decode cX8_ofFlyer 8 = .ok (.astore_n 3, 1) := by decide +kernel
theorem dX8_ofFlyer_9 : decode cX8_ofFlyer 9 = .ok (.aload_n 3, 1) := by decide +kernel
theorem dX8_ofFlyer_10 : decode cX8_ofFlyer 10 = .ok (.ifnull 13, 3) := by decide +kernel
theorem dX8_ofFlyer_13 : decode cX8_ofFlyer 13 = .ok (.iload_n 2, 1) := by decide +kernel
theorem dX8_ofFlyer_14 : decode cX8_ofFlyer 14 = .ok (.iconst 0, 1) := by decide +kernel
theorem dX8_ofFlyer_15 : decode cX8_ofFlyer 15 = .ok (.bipush 6, 2) := by decide +kernel
theorem dX8_ofFlyer_17 : decode cX8_ofFlyer 17 = .ok (.invokestatic 71, 3) := by decide +kernel
theorem dX8_ofFlyer_20 : decode cX8_ofFlyer 20 = .ok (.ifCond .ne 9, 3) := by decide +kernel
theorem dX8_ofFlyer_23 : decode cX8_ofFlyer 23 = .ok (.aload_n 0, 1) := by decide +kernel
theorem dX8_ofFlyer_24 : decode cX8_ofFlyer 24 = .ok (.iconst 1, 1) := by decide +kernel
theorem dX8_ofFlyer_25 : decode cX8_ofFlyer 25 = .ok (.invokevirtual 63, 3) := by decide +kernel
theorem dX8_ofFlyer_28 : decode cX8_ofFlyer 28 = .ok (.ireturn, 1) := by decide +kernel
theorem dX8_ofFlyer_29 : decode cX8_ofFlyer 29 = .ok (.iload_n 2, 1) := by decide +kernel
theorem dX8_ofFlyer_30 : decode cX8_ofFlyer 30 = .ok (.tableswitch 75 0 5 #[38, 43, 48, 53, 58, 63], 38) := by decide +kernel
theorem dX8_ofFlyer_68 : decode cX8_ofFlyer 68 = .ok (.aload_n 3, 1) := by decide +kernel
theorem dX8_ofFlyer_69 : decode cX8_ofFlyer 69 = .ok (.getfield 105, 3) := by decide +kernel
theorem dX8_ofFlyer_72 : decode cX8_ofFlyer 72 = .ok (.ireturn, 1) := by decide +kernel
theorem dX8_ofFlyer_73 : decode cX8_ofFlyer 73 = .ok (.aload_n 3, 1) := by decide +kernel
theorem dX8_ofFlyer_74 : decode cX8_ofFlyer 74 = .ok (.getfield 108, 3) := by decide +kernel
theorem dX8_ofFlyer_77 : decode cX8_ofFlyer 77 = .ok (.ireturn, 1) := by decide +kernel
theorem dX8_ofFlyer_78 : decode cX8_ofFlyer 78 = .ok (.aload_n 3, 1) := by decide +kernel
theorem dX8_ofFlyer_79 : decode cX8_ofFlyer 79 = .ok (.getfield 111, 3) := by decide +kernel
theorem dX8_ofFlyer_82 : decode cX8_ofFlyer 82 = .ok (.ireturn, 1) := by decide +kernel
theorem dX8_ofFlyer_83 : decode cX8_ofFlyer 83 = .ok (.aload_n 3, 1) := by decide +kernel
theorem dX8_ofFlyer_84 : decode cX8_ofFlyer 84 = .ok (.getfield 114, 3) := by decide +kernel
theorem dX8_ofFlyer_87 : decode cX8_ofFlyer 87 = .ok (.ireturn, 1) := by decide +kernel
theorem dX8_ofFlyer_88 : decode cX8_ofFlyer 88 = .ok (.aload_n 3, 1) := by decide +kernel
theorem dX8_ofFlyer_89 : decode cX8_ofFlyer 89 = .ok (.invokevirtual 117, 3) := by decide +kernel
theorem dX8_ofFlyer_92 : decode cX8_ofFlyer 92 = .ok (.ireturn, 1) := by decide +kernel
theorem dX8_ofFlyer_93 : decode cX8_ofFlyer 93 = .ok (.aload_n 3, 1) := by decide +kernel
theorem dX8_ofFlyer_94 : decode cX8_ofFlyer 94 = .ok (.aload_n 0, 1) := by decide +kernel
theorem dX8_ofFlyer_95 : decode cX8_ofFlyer 95 = .ok (.getfield 10, 3) := by decide +kernel
theorem dX8_ofFlyer_98 : decode cX8_ofFlyer 98 = .ok (.getfield 82, 3) := by decide +kernel
theorem dX8_ofFlyer_101 : decode cX8_ofFlyer 101 = .ok (.invokevirtual 121, 3) := by decide +kernel
theorem dX8_ofFlyer_104 : decode cX8_ofFlyer 104 = .ok (.ireturn, 1) := by decide +kernel
theorem dX8_ofFlyer_105 : decode cX8_ofFlyer 105 = .ok (.aload_n 3, 1) := by decide +kernel
theorem dX8_ofFlyer_106 : decode cX8_ofFlyer 106 = .ok (.bipush 10, 2) := by decide +kernel
theorem dX8_ofFlyer_108 : decode cX8_ofFlyer 108 = .ok (.invokevirtual 124, 3) := by decide +kernel
theorem dX8_ofFlyer_111 : decode cX8_ofFlyer 111 = .ok (.ireturn, 1) := by decide +kernel
theorem dX8_become_0 : decode cX8_become 0 = .ok (.aload_n 0, 1) := by decide +kernel
theorem dX8_become_1 : decode cX8_become 1 = .ok (.getfield 10, 3) := by decide +kernel
theorem dX8_become_4 : decode cX8_become 4 = .ok (.iload_n 1, 1) := by decide +kernel
theorem dX8_become_5 : decode cX8_become 5 = .ok (.invokevirtual 95, 3) := by decide +kernel
theorem dX8_become_8 : decode cX8_become 8 = .ok (.astore_n 3, 1) := by decide +kernel
theorem dX8_become_9 : decode cX8_become 9 = .ok (.aload_n 3, 1) := by decide +kernel
theorem dX8_become_10 : decode cX8_become 10 = .ok (.ifnull 10, 3) := by decide +kernel
theorem dX8_become_13 : decode cX8_become 13 = .ok (.iload_n 2, 1) := by decide +kernel
theorem dX8_become_14 : decode cX8_become 14 = .ok (.invokestatic 88, 3) := by decide +kernel
theorem dX8_become_17 : decode cX8_become 17 = .ok (.ifCond .ne 9, 3) := by decide +kernel
theorem dX8_become_20 : decode cX8_become 20 = .ok (.aload_n 0, 1) := by decide +kernel
theorem dX8_become_21 : decode cX8_become 21 = .ok (.iconst 1, 1) := by decide +kernel
theorem dX8_become_22 : decode cX8_become 22 = .ok (.invokevirtual 63, 3) := by decide +kernel
theorem dX8_become_25 : decode cX8_become 25 = .ok (.ireturn, 1) := by decide +kernel
theorem dX8_become_26 : decode cX8_become 26 = .ok (.aload_n 3, 1) := by decide +kernel
theorem dX8_become_27 : decode cX8_become 27 = .ok (.getfield 105, 3) := by decide +kernel
theorem dX8_become_30 : decode cX8_become 30 = .ok (.istore 4, 2) := by decide +kernel
theorem dX8_become_32 : decode cX8_become 32 = .ok (.aload_n 3, 1) := by decide +kernel
theorem dX8_become_33 : decode cX8_become 33 = .ok (.iload_n 2, 1) := by decide +kernel
theorem dX8_become_34 : decode cX8_become 34 = .ok (.invokevirtual 127, 3) := by decide +kernel
theorem dX8_become_37 : decode cX8_become 37 = .ok (.iload 4, 2) := by decide +kernel
theorem dX8_become_39 : decode cX8_become 39 = .ok (.ireturn, 1) := by decide +kernel
theorem dX8_as_0 : decode cX8_as 0 = .ok (.aload_n 0, 1) := by decide +kernel
theorem dX8_as_1 : decode cX8_as 1 = .ok (.getfield 10, 3) := by decide +kernel
theorem dX8_as_4 : decode cX8_as 4 = .ok (.iload_n 1, 1) := by decide +kernel
theorem dX8_as_5 : decode cX8_as 5 = .ok (.invokevirtual 95, 3) := by decide +kernel
theorem dX8_as_8 : decode cX8_as 8 = .ok (.astore_n 3, 1) := by decide +kernel
theorem dX8_as_9 : decode cX8_as 9 = .ok (.aload_n 3, 1) := by decide +kernel
theorem dX8_as_10 : decode cX8_as 10 = .ok (.ifnull 13, 3) := by decide +kernel
theorem dX8_as_13 : decode cX8_as 13 = .ok (.iload_n 2, 1) := by decide +kernel
theorem dX8_as_14 : decode cX8_as 14 = .ok (.iconst 0, 1) := by decide +kernel
theorem dX8_as_15 : decode cX8_as 15 = .ok (.bipush 6, 2) := by decide +kernel
theorem dX8_as_17 : decode cX8_as 17 = .ok (.invokestatic 71, 3) := by decide +kernel
theorem dX8_as_20 : decode cX8_as 20 = .ok (.ifCond .ne 9, 3) := by decide +kernel
theorem dX8_as_23 : decode cX8_as 23 = .ok (.aload_n 0, 1) := by decide +kernel
theorem dX8_as_24 : decode cX8_as 24 = .ok (.iconst 1, 1) := by decide +kernel
theorem dX8_as_25 : decode cX8_as 25 = .ok (.invokevirtual 63, 3) := by decide +kernel
theorem dX8_as_28 : decode cX8_as 28 = .ok (.ireturn, 1) := by decide +kernel
theorem dX8_as_29 : decode cX8_as 29 = .ok (.aload_n 3, 1) := by decide +kernel
theorem dX8_as_30 : decode cX8_as 30 = .ok (.iload_n 2, 1) := by decide +kernel
theorem dX8_as_31 : decode cX8_as 31 = .ok (.invokevirtual 130, 3) := by decide +kernel
theorem dX8_as_34 : decode cX8_as 34 = .ok (.ifCond .ne 9, 3) := by decide +kernel
theorem dX8_as_37 : decode cX8_as 37 = .ok (.aload_n 0, 1) := by decide +kernel
theorem dX8_as_38 : decode cX8_as 38 = .ok (.iconst 5, 1) := by decide +kernel
theorem dX8_as_39 : decode cX8_as 39 = .ok (.invokevirtual 63, 3) := by decide +kernel
theorem dX8_as_42 : decode cX8_as 42 = .ok (.ireturn, 1) := by decide +kernel
theorem dX8_as_43 : decode cX8_as 43 = .ok (.aload_n 3, 1) := by decide +kernel
theorem dX8_as_44 : decode cX8_as 44 = .ok (.getfield 108, 3) := by decide +kernel
theorem dX8_as_47 : decode cX8_as 47 = .ok (.ireturn, 1) := by decide +kernel
theorem dX8_turn_0 : decode cX8_turn 0 = .ok (.aload_n 0, 1) := by decide +kernel
theorem dX8_turn_1 : decode cX8_turn 1 = .ok (.getfield 10, 3) := by decide +kernel
theorem dX8_turn_4 : decode cX8_turn 4 = .ok (.iload_n 1, 1) := by decide +kernel
theorem dX8_turn_5 : decode cX8_turn 5 = .ok (.invokevirtual 95, 3) := by decide +kernel
theorem dX8_turn_8 : decode cX8_turn 8 = .ok (.astore_n 3, 1) := by decide +kernel
theorem dX8_turn_9 : decode cX8_turn 9 = .ok (.aload_n 3, 1) := by decide +kernel
theorem dX8_turn_10 : decode cX8_turn 10 = .ok (.ifnull 12, 3) := by decide +kernel
theorem dX8_turn_13 : decode cX8_turn 13 = .ok (.iload_n 2, 1) := by decide +kernel
theorem dX8_turn_14 : decode cX8_turn 14 = .ok (.iconst 1, 1) := by decide +kernel
theorem dX8_turn_15 : decode cX8_turn 15 = .ok (.iconst 3, 1) := by decide +kernel
theorem dX8_turn_16 : decode cX8_turn 16 = .ok (.invokestatic 71, 3) := by decide +kernel
theorem dX8_turn_19 : decode cX8_turn 19 = .ok (.ifCond .ne 9, 3) := by decide +kernel
theorem dX8_turn_22 : decode cX8_turn 22 = .ok (.aload_n 0, 1) := by decide +kernel
theorem dX8_turn_23 : decode cX8_turn 23 = .ok (.iconst 1, 1) := by decide +kernel
theorem dX8_turn_24 : decode cX8_turn 24 = .ok (.invokevirtual 63, 3) := by decide +kernel
theorem dX8_turn_27 : decode cX8_turn 27 = .ok (.ireturn, 1) := by decide +kernel
theorem dX8_turn_28 : decode cX8_turn 28 = .ok (.aload_n 3, 1) := by decide +kernel
theorem dX8_turn_29 : decode cX8_turn 29 = .ok (.getfield 111, 3) := by decide +kernel
theorem dX8_turn_32 : decode cX8_turn 32 = .ok (.istore 4, 2) := by decide +kernel
theorem dX8_turn_34 : decode cX8_turn 34 = .ok (.aload_n 3, 1) := by decide +kernel
theorem dX8_turn_35 : decode cX8_turn 35 = .ok (.iload_n 2, 1) := by decide +kernel
theorem dX8_turn_36 : decode cX8_turn 36 = .ok (.putfield 111, 3) := by decide +kernel
theorem dX8_turn_39 : decode cX8_turn 39 = .ok (.iload 4, 2) := by decide +kernel
theorem dX8_turn_41 : decode cX8_turn 41 = .ok (.ireturn, 1) := by decide +kernel
theorem dX8_feed_0 : decode cX8_feed 0 = .ok (.iload_n 3, 1) := by decide +kernel
theorem dX8_feed_1 : decode cX8_feed 1 = .ok (.iconst 1, 1) := by decide +kernel
theorem dX8_feed_2 : decode cX8_feed 2 = .ok (.bipush 8, 2) := by decide +kernel
theorem dX8_feed_4 : decode cX8_feed 4 = .ok (.invokestatic 71, 3) := by decide +kernel
theorem dX8_feed_7 : decode cX8_feed 7 = .ok (.ifCond .ne 9, 3) := by decide +kernel
theorem dX8_feed_10 : decode cX8_feed 10 = .ok (.aload_n 0, 1) := by decide +kernel
theorem dX8_feed_11 : decode cX8_feed 11 = .ok (.iconst 1, 1) := by decide +kernel
theorem dX8_feed_12 : decode cX8_feed 12 = .ok (.invokevirtual 63, 3) := by decide +kernel
theorem dX8_feed_15 : decode cX8_feed 15 = .ok (.ireturn, 1) := by decide +kernel
theorem dX8_feed_16 : decode cX8_feed 16 = .ok (.aload_n 0, 1) := by decide +kernel
theorem dX8_feed_17 : decode cX8_feed 17 = .ok (.getfield 10, 3) := by decide +kernel
theorem dX8_feed_20 : decode cX8_feed 20 = .ok (.getfield 133, 3) := by decide +kernel
theorem dX8_feed_23 : decode cX8_feed 23 = .ok (.bipush 50, 2) := by decide +kernel
theorem dX8_feed_25 : decode cX8_feed 25 = .ok (.iload_n 3, 1) := by decide +kernel
theorem dX8_feed_26 : decode cX8_feed 26 = .ok (.isub, 1) := by decide +kernel
theorem dX8_feed_27 : decode cX8_feed 27 = .ok (.if_icmp .le 9, 3) := by decide +kernel
theorem dX8_feed_30 : decode cX8_feed 30 = .ok (.aload_n 0, 1) := by decide +kernel
theorem dX8_feed_31 : decode cX8_feed 31 = .ok (.iconst 4, 1) := by decide +kernel
theorem dX8_feed_32 : decode cX8_feed 32 = .ok (.invokevirtual 63, 3) := by decide +kernel
theorem dX8_feed_35 : decode cX8_feed 35 = .ok (.ireturn, 1) := by decide +kernel
theorem dX8_feed_36 : decode cX8_feed 36 = .ok (.iconst 0, 1) := by decide +kernel
theorem dX8_feed_37 : decode cX8_feed 37 = .ok (.istore 4, 2) := by decide +kernel
theorem dX8_feed_39 : decode cX8_feed 39 = .ok (.iload 4, 2) := by decide +kernel
theorem dX8_feed_41 : decode cX8_feed 41 = .ok (.iload_n 3, 1) := by decide +kernel
theorem dX8_feed_42 : decode cX8_feed 42 = .ok (.if_icmp .ge 28, 3) := by decide +kernel
theorem dX8_feed_45 : decode cX8_feed 45 = .ok (.aload_n 0, 1) := by decide +kernel
theorem dX8_feed_46 : decode cX8_feed 46 = .ok (.getfield 10, 3) := by decide +kernel
theorem dX8_feed_49 : decode cX8_feed 49 = .ok (.lload_n 1, 1) := by decide +kernel
theorem dX8_feed_50 : decode cX8_feed 50 = .ok (.bipush 8, 2) := by decide +kernel
theorem dX8_feed_52 : decode cX8_feed 52 = .ok (.iload 4, 2) := by decide +kernel
theorem dX8_feed_54 : decode cX8_feed 54 = .ok (.imul, 1) := by decide +kernel
theorem dX8_feed_55 : decode cX8_feed 55 = .ok (.lushr, 1) := by decide +kernel
theorem dX8_feed_56 : decode cX8_feed 56 = .ok (.l2i, 1) := by decide +kernel
theorem dX8_feed_57 : decode cX8_feed 57 = .ok (.sipush 255, 3) := by decide +kernel
theorem dX8_feed_60 : decode cX8_feed 60 = .ok (.iand, 1) := by decide +kernel
theorem dX8_feed_61 : decode cX8_feed 61 = .ok (.invokevirtual 136, 3) := by decide +kernel
theorem dX8_feed_64 : decode cX8_feed 64 = .ok (.iinc 4 1, 3) := by decide +kernel
theorem dX8_feed_67 : decode cX8_feed 67 = .ok (.goto (-28), 3) := by decide +kernel
theorem dX8_feed_70 : decode cX8_feed 70 = .ok (.aload_n 0, 1) := by decide +kernel
theorem dX8_feed_71 : decode cX8_feed 71 = .ok (.getfield 10, 3) := by decide +kernel
theorem dX8_feed_74 : decode cX8_feed 74 = .ok (.getfield 133, 3) := by decide +kernel
theorem dX8_feed_77 : decode cX8_feed 77 = .ok (.ireturn, 1) := by decide +kernel
theorem dX8_text_0 : decode cX8_text 0 = .ok (.aload_n 0, 1) := by decide +kernel
theorem dX8_text_1 : decode cX8_text 1 = .ok (.getfield 10, 3) := by decide +kernel
theorem dX8_text_4 : decode cX8_text 4 = .ok (.iload_n 1, 1) := by decide +kernel
theorem dX8_text_5 : decode cX8_text 5 = .ok (.invokevirtual 139, 3) := by decide +kernel
theorem dX8_text_8 : decode cX8_text 8 = .ok (.astore_n 2, 1) := by decide +kernel
theorem dX8_text_9 : decode cX8_text 9 = .ok (.aload_n 2, 1) := by decide +kernel
theorem dX8_text_10 : decode cX8_text 10 = .ok (.ifnonnull 9, 3) := by decide +kernel
theorem dX8_text_13 : decode cX8_text 13 = .ok (.aload_n 0, 1) := by decide +kernel
theorem dX8_text_14 : decode cX8_text 14 = .ok (.iconst 1, 1) := by decide +kernel
theorem dX8_text_15 : decode cX8_text 15 = .ok (.invokevirtual 63, 3) := by decide +kernel
theorem dX8_text_18 : decode cX8_text 18 = .ok (.ireturn, 1) := by decide +kernel
theorem dX8_text_19 : decode cX8_text 19 = .ok (.aload_n 0, 1) := by decide +kernel
theorem dX8_text_20 : decode cX8_text 20 = .ok (.getfield 31, 3) := by decide +kernel
theorem dX8_text_23 : decode cX8_text 23 = .ok (.invokevirtual 143, 3) := by decide +kernel
theorem dX8_text_26 : decode cX8_text 26 = .ok (.istore_n 3, 1) := by decide +kernel
theorem dX8_text_27 : decode cX8_text 27 = .ok (.aload_n 0, 1) := by decide +kernel
theorem dX8_text_28 : decode cX8_text 28 = .ok (.getfield 10, 3) := by decide +kernel
theorem dX8_text_31 : decode cX8_text 31 = .ok (.iconst 0, 1) := by decide +kernel
theorem dX8_text_32 : decode cX8_text 32 = .ok (.putfield 133, 3) := by decide +kernel
theorem dX8_text_35 : decode cX8_text 35 = .ok (.iload_n 3, 1) := by decide +kernel
theorem dX8_text_36 : decode cX8_text 36 = .ok (.ifCond .lt 8, 3) := by decide +kernel
theorem dX8_text_39 : decode cX8_text 39 = .ok (.bipush (-10), 2) := by decide +kernel
theorem dX8_text_41 : decode cX8_text 41 = .ok (.iload_n 3, 1) := by decide +kernel
theorem dX8_text_42 : decode cX8_text 42 = .ok (.isub, 1) := by decide +kernel
theorem dX8_text_43 : decode cX8_text 43 = .ok (.ireturn, 1) := by decide +kernel
theorem dX8_text_44 : decode cX8_text 44 = .ok (.aload_n 2, 1) := by decide +kernel
theorem dX8_text_45 : decode cX8_text 45 = .ok (.aload_n 0, 1) := by decide +kernel
theorem dX8_text_46 : decode cX8_text 46 = .ok (.getfield 31, 3) := by decide +kernel
theorem dX8_text_49 : decode cX8_text 49 = .ok (.getfield 146, 3) := by decide +kernel
theorem dX8_text_52 : decode cX8_text 52 = .ok (.aload_n 0, 1) := by decide +kernel
theorem dX8_text_53 : decode cX8_text 53 = .ok (.getfield 31, 3) := by decide +kernel
theorem dX8_text_56 : decode cX8_text 56 = .ok (.getfield 149, 3) := by decide +kernel
theorem dX8_text_59 : decode cX8_text 59 = .ok (.invokevirtual 152, 3) := by decide +kernel
theorem dX8_text_62 : decode cX8_text 62 = .ok (.iconst 1, 1) := by decide +kernel
theorem dX8_text_63 : decode cX8_text 63 = .ok (.ireturn, 1) := by decide +kernel
theorem dX8_law_0 : decode cX8_law 0 = .ok (.aload_n 0, 1) := by decide +kernel
theorem dX8_law_1 : decode cX8_law 1 = .ok (.getfield 10, 3) := by decide +kernel
theorem dX8_law_4 : decode cX8_law 4 = .ok (.iload_n 1, 1) := by decide +kernel
theorem dX8_law_5 : decode cX8_law 5 = .ok (.invokevirtual 139, 3) := by decide +kernel
theorem dX8_law_8 : decode cX8_law 8 = .ok (.astore 5, 2) := by decide +kernel
theorem dX8_law_10 : decode cX8_law 10 = .ok (.aload 5, 2) := by decide +kernel
theorem dX8_law_12 : decode cX8_law 12 = .ok (.ifnonnull 9, 3) := by decide +kernel
theorem dX8_law_15 : decode cX8_law 15 = .ok (.aload_n 0, 1) := by decide +kernel
theorem dX8_law_16 : decode cX8_law 16 = .ok (.iconst 1, 1) := by decide +kernel
theorem dX8_law_17 : decode cX8_law 17 = .ok (.invokevirtual 63, 3) := by decide +kernel
theorem dX8_law_20 : decode cX8_law 20 = .ok (.ireturn, 1) := by decide +kernel
theorem dX8_law_21 : decode cX8_law 21 = .ok (.aload 5, 2) := by decide +kernel
theorem dX8_law_23 : decode cX8_law 23 = .ok (.iload_n 2, 1) := by decide +kernel
theorem dX8_law_24 : decode cX8_law 24 = .ok (.iload_n 3, 1) := by decide +kernel
theorem dX8_law_25 : decode cX8_law 25 = .ok (.iload 4, 2) := by decide +kernel
theorem dX8_law_27 : decode cX8_law 27 = .ok (.invokevirtual 157, 3) := by decide +kernel
theorem dX8_law_30 : decode cX8_law 30 = .ok (.ireturn, 1) := by decide +kernel
theorem dX8_go_0 : decode cX8_go 0 = .ok (.aload_n 0, 1) := by decide +kernel
theorem dX8_go_1 : decode cX8_go 1 = .ok (.getfield 10, 3) := by decide +kernel
theorem dX8_go_4 : decode cX8_go 4 = .ok (.iload_n 1, 1) := by decide +kernel
theorem dX8_go_5 : decode cX8_go 5 = .ok (.invokevirtual 95, 3) := by decide +kernel
theorem dX8_go_8 : decode cX8_go 8 = .ok (.astore_n 2, 1) := by decide +kernel
theorem dX8_go_9 : decode cX8_go 9 = .ok (.aload_n 2, 1) := by decide +kernel
theorem dX8_go_10 : decode cX8_go 10 = .ok (.ifnonnull 9, 3) := by decide +kernel
theorem dX8_go_13 : decode cX8_go 13 = .ok (.aload_n 0, 1) := by decide +kernel
theorem dX8_go_14 : decode cX8_go 14 = .ok (.iconst 1, 1) := by decide +kernel
theorem dX8_go_15 : decode cX8_go 15 = .ok (.invokevirtual 63, 3) := by decide +kernel
theorem dX8_go_18 : decode cX8_go 18 = .ok (.ireturn, 1) := by decide +kernel
theorem dX8_go_19 : decode cX8_go 19 = .ok (.aload_n 0, 1) := by decide +kernel
theorem dX8_go_20 : decode cX8_go 20 = .ok (.aload_n 2, 1) := by decide +kernel
theorem dX8_go_21 : decode cX8_go 21 = .ok (.aload_n 0, 1) := by decide +kernel
theorem dX8_go_22 : decode cX8_go 22 = .ok (.getfield 10, 3) := by decide +kernel
theorem dX8_go_25 : decode cX8_go 25 = .ok (.getfield 161, 3) := by decide +kernel
theorem dX8_go_28 : decode cX8_go 28 = .ok (.invokevirtual 164, 3) := by decide +kernel
theorem dX8_go_31 : decode cX8_go 31 = .ok (.ireturn, 1) := by decide +kernel
theorem dX8_ticks_0 : decode cX8_ticks 0 = .ok (.iload_n 1, 1) := by decide +kernel
theorem dX8_ticks_1 : decode cX8_ticks 1 = .ok (.iconst 1, 1) := by decide +kernel
theorem dX8_ticks_2 : decode cX8_ticks 2 = .ok (.sipush 200, 3) := by decide +kernel
theorem dX8_ticks_5 : decode cX8_ticks 5 = .ok (.invokestatic 71, 3) := by decide +kernel
theorem dX8_ticks_8 : decode cX8_ticks 8 = .ok (.ifCond .ne 9, 3) := by decide +kernel
theorem dX8_ticks_11 : decode cX8_ticks 11 = .ok (.aload_n 0, 1) := by decide +kernel
theorem dX8_ticks_12 : decode cX8_ticks 12 = .ok (.iconst 1, 1) := by decide +kernel
theorem dX8_ticks_13 : decode cX8_ticks 13 = .ok (.invokevirtual 63, 3) := by decide +kernel
theorem dX8_ticks_16 : decode cX8_ticks 16 = .ok (.ireturn, 1) := by decide +kernel
theorem dX8_ticks_17 : decode cX8_ticks 17 = .ok (.aload_n 0, 1) := by decide +kernel
theorem dX8_ticks_18 : decode cX8_ticks 18 = .ok (.getfield 10, 3) := by decide +kernel
theorem dX8_ticks_21 : decode cX8_ticks 21 = .ok (.getfield 161, 3) := by decide +kernel
theorem dX8_ticks_24 : decode cX8_ticks 24 = .ok (.iload_n 1, 1) := by decide +kernel
theorem dX8_ticks_25 : decode cX8_ticks 25 = .ok (.iadd, 1) := by decide +kernel
theorem dX8_ticks_26 : decode cX8_ticks 26 = .ok (.sipush 9999, 3) := by decide +kernel
theorem dX8_ticks_29 : decode cX8_ticks 29 = .ok (.if_icmp .le 9, 3) := by decide +kernel
theorem dX8_ticks_32 : decode cX8_ticks 32 = .ok (.aload_n 0, 1) := by decide +kernel
theorem dX8_ticks_33 : decode cX8_ticks 33 = .ok (.iconst 3, 1) := by decide +kernel
theorem dX8_ticks_34 : decode cX8_ticks 34 = .ok (.invokevirtual 63, 3) := by decide +kernel
theorem dX8_ticks_37 : decode cX8_ticks 37 = .ok (.ireturn, 1) := by decide +kernel
theorem dX8_ticks_38 : decode cX8_ticks 38 = .ok (.aload_n 0, 1) := by decide +kernel
theorem dX8_ticks_39 : decode cX8_ticks 39 = .ok (.getfield 10, 3) := by decide +kernel
theorem dX8_ticks_42 : decode cX8_ticks 42 = .ok (.dup, 1) := by decide +kernel
theorem dX8_ticks_43 : decode cX8_ticks 43 = .ok (.getfield 161, 3) := by decide +kernel
theorem dX8_ticks_46 : decode cX8_ticks 46 = .ok (.iload_n 1, 1) := by decide +kernel
theorem dX8_ticks_47 : decode cX8_ticks 47 = .ok (.iadd, 1) := by decide +kernel
theorem dX8_ticks_48 : decode cX8_ticks 48 = .ok (.putfield 161, 3) := by decide +kernel
theorem dX8_ticks_51 : decode cX8_ticks 51 = .ok (.aload_n 0, 1) := by decide +kernel
theorem dX8_ticks_52 : decode cX8_ticks 52 = .ok (.getfield 10, 3) := by decide +kernel
theorem dX8_ticks_55 : decode cX8_ticks 55 = .ok (.getfield 161, 3) := by decide +kernel
theorem dX8_ticks_58 : decode cX8_ticks 58 = .ok (.ireturn, 1) := by decide +kernel
theorem dX8_evenings_0 : decode cX8_evenings 0 = .ok (.iload_n 1, 1) := by decide +kernel
theorem dX8_evenings_1 : decode cX8_evenings 1 = .ok (.iconst 1, 1) := by decide +kernel
theorem dX8_evenings_2 : decode cX8_evenings 2 = .ok (.bipush 40, 2) := by decide +kernel
theorem dX8_evenings_4 : decode cX8_evenings 4 = .ok (.invokestatic 71, 3) := by decide +kernel
theorem dX8_evenings_7 : decode cX8_evenings 7 = .ok (.ifCond .ne 9, 3) := by decide +kernel
theorem dX8_evenings_10 : decode cX8_evenings 10 = .ok (.aload_n 0, 1) := by decide +kernel
theorem dX8_evenings_11 : decode cX8_evenings 11 = .ok (.iconst 1, 1) := by decide +kernel
theorem dX8_evenings_12 : decode cX8_evenings 12 = .ok (.invokevirtual 63, 3) := by decide +kernel
theorem dX8_evenings_15 : decode cX8_evenings 15 = .ok (.ireturn, 1) := by decide +kernel
theorem dX8_evenings_16 : decode cX8_evenings 16 = .ok (.aload_n 0, 1) := by decide +kernel
theorem dX8_evenings_17 : decode cX8_evenings 17 = .ok (.getfield 10, 3) := by decide +kernel
theorem dX8_evenings_20 : decode cX8_evenings 20 = .ok (.getfield 161, 3) := by decide +kernel
theorem dX8_evenings_23 : decode cX8_evenings 23 = .ok (.iload_n 1, 1) := by decide +kernel
theorem dX8_evenings_24 : decode cX8_evenings 24 = .ok (.bipush 12, 2) := by decide +kernel
theorem dX8_evenings_26 : decode cX8_evenings 26 = .ok (.imul, 1) := by decide +kernel
theorem dX8_evenings_27 : decode cX8_evenings 27 = .ok (.iadd, 1) := by decide +kernel
theorem dX8_evenings_28 : decode cX8_evenings 28 = .ok (.sipush 9999, 3) := by decide +kernel
theorem dX8_evenings_31 : decode cX8_evenings 31 = .ok (.if_icmp .le 9, 3) := by decide +kernel
theorem dX8_evenings_34 : decode cX8_evenings 34 = .ok (.aload_n 0, 1) := by decide +kernel
theorem dX8_evenings_35 : decode cX8_evenings 35 = .ok (.iconst 3, 1) := by decide +kernel
theorem dX8_evenings_36 : decode cX8_evenings 36 = .ok (.invokevirtual 63, 3) := by decide +kernel
theorem dX8_evenings_39 : decode cX8_evenings 39 = .ok (.ireturn, 1) := by decide +kernel
theorem dX8_evenings_40 : decode cX8_evenings 40 = .ok (.iconst 0, 1) := by decide +kernel
theorem dX8_evenings_41 : decode cX8_evenings 41 = .ok (.istore_n 2, 1) := by decide +kernel
theorem dX8_evenings_42 : decode cX8_evenings 42 = .ok (.iload_n 2, 1) := by decide +kernel
theorem dX8_evenings_43 : decode cX8_evenings 43 = .ok (.iload_n 1, 1) := by decide +kernel
theorem dX8_evenings_44 : decode cX8_evenings 44 = .ok (.if_icmp .ge 13, 3) := by decide +kernel
theorem dX8_evenings_47 : decode cX8_evenings 47 = .ok (.aload_n 0, 1) := by decide +kernel
theorem dX8_evenings_48 : decode cX8_evenings 48 = .ok (.invokevirtual 168, 3) := by decide +kernel
theorem dX8_evenings_51 : decode cX8_evenings 51 = .ok (.iinc 2 1, 3) := by decide +kernel
theorem dX8_evenings_54 : decode cX8_evenings 54 = .ok (.goto (-12), 3) := by decide +kernel
theorem dX8_evenings_57 : decode cX8_evenings 57 = .ok (.aload_n 0, 1) := by decide +kernel
theorem dX8_evenings_58 : decode cX8_evenings 58 = .ok (.getfield 10, 3) := by decide +kernel
theorem dX8_evenings_61 : decode cX8_evenings 61 = .ok (.getfield 171, 3) := by decide +kernel
theorem dX8_evenings_64 : decode cX8_evenings 64 = .ok (.ireturn, 1) := by decide +kernel
theorem dX8_rest_0 : decode cX8_rest 0 = .ok (.iconst 0, 1) := by decide +kernel
theorem dX8_rest_1 : decode cX8_rest 1 = .ok (.istore_n 1, 1) := by decide +kernel
theorem dX8_rest_2 : decode cX8_rest 2 = .ok (.iconst 0, 1) := by decide +kernel
theorem dX8_rest_3 : decode cX8_rest 3 = .ok (.istore_n 2, 1) := by decide +kernel
theorem dX8_rest_4 : decode cX8_rest 4 = .ok (.iload_n 2, 1) := by decide +kernel
theorem dX8_rest_5 : decode cX8_rest 5 = .ok (.aload_n 0, 1) := by decide +kernel
theorem dX8_rest_6 : decode cX8_rest 6 = .ok (.getfield 10, 3) := by decide +kernel
theorem dX8_rest_9 : decode cX8_rest 9 = .ok (.getfield 92, 3) := by decide +kernel
theorem dX8_rest_12 : decode cX8_rest 12 = .ok (.if_icmp .ge 34, 3) := by decide +kernel
theorem dX8_rest_15 : decode cX8_rest 15 = .ok (.aload_n 0, 1) := by decide +kernel
theorem dX8_rest_16 : decode cX8_rest 16 = .ok (.getfield 10, 3) := by decide +kernel
theorem dX8_rest_19 : decode cX8_rest 19 = .ok (.iload_n 2, 1) := by decide +kernel
theorem dX8_rest_20 : decode cX8_rest 20 = .ok (.invokevirtual 95, 3) := by decide +kernel
theorem dX8_rest_23 : decode cX8_rest 23 = .ok (.astore_n 3, 1) := by decide +kernel
theorem dX8_rest_24 : decode cX8_rest 24 = .ok (.aload_n 3, 1) := by decide +kernel
theorem dX8_rest_25 : decode cX8_rest 25 = .ok (.ifnull 15, 3) := by decide +kernel
theorem dX8_rest_28 : decode cX8_rest 28 = .ok (.iload_n 1, 1) := by decide +kernel
theorem dX8_rest_29 : decode cX8_rest 29 = .ok (.aload_n 3, 1) := by decide +kernel
theorem dX8_rest_30 : decode cX8_rest 30 = .ok (.getfield 114, 3) := by decide +kernel
theorem dX8_rest_33 : decode cX8_rest 33 = .ok (.iadd, 1) := by decide +kernel
theorem dX8_rest_34 : decode cX8_rest 34 = .ok (.istore_n 1, 1) := by decide +kernel
theorem dX8_rest_35 : decode cX8_rest 35 = .ok (.aload_n 3, 1) := by decide +kernel
theorem dX8_rest_36 : decode cX8_rest 36 = .ok (.iconst 0, 1) := by decide +kernel
theorem dX8_rest_37 : decode cX8_rest 37 = .ok (.putfield 114, 3) := by decide +kernel
theorem dX8_rest_40 : decode cX8_rest 40 = .ok (.iinc 2 1, 3) := by decide +kernel
theorem dX8_rest_43 : decode cX8_rest 43 = .ok (.goto (-39), 3) := by decide +kernel
theorem dX8_rest_46 : decode cX8_rest 46 = .ok (.iload_n 1, 1) := by decide +kernel
theorem dX8_rest_47 : decode cX8_rest 47 = .ok (.ireturn, 1) := by decide +kernel
theorem dX8_then_0 : decode cX8_then 0 = .ok (.aload_n 0, 1) := by decide +kernel
theorem dX8_then_1 : decode cX8_then 1 = .ok (.getfield 10, 3) := by decide +kernel
theorem dX8_then_4 : decode cX8_then 4 = .ok (.iload_n 1, 1) := by decide +kernel
theorem dX8_then_5 : decode cX8_then 5 = .ok (.invokevirtual 95, 3) := by decide +kernel
theorem dX8_then_8 : decode cX8_then 8 = .ok (.astore 4, 2) := by decide +kernel
theorem dX8_then_10 : decode cX8_then 10 = .ok (.aload 4, 2) := by decide +kernel
theorem dX8_then_12 : decode cX8_then 12 = .ok (.ifnull 22, 3) := by decide +kernel
theorem dX8_then_15 : decode cX8_then 15 = .ok (.iload_n 2, 1) := by decide +kernel
theorem dX8_then_16 : decode cX8_then 16 = .ok (.iconst 0, 1) := by decide +kernel
theorem dX8_then_17 : decode cX8_then 17 = .ok (.bipush 60, 2) := by decide +kernel
theorem dX8_then_19 : decode cX8_then 19 = .ok (.invokestatic 71, 3) := by decide +kernel
theorem dX8_then_22 : decode cX8_then 22 = .ok (.ifCond .eq 12, 3) := by decide +kernel
theorem dX8_then_25 : decode cX8_then 25 = .ok (.iload_n 3, 1) := by decide +kernel
theorem dX8_then_26 : decode cX8_then 26 = .ok (.iconst 0, 1) := by decide +kernel
theorem dX8_then_27 : decode cX8_then 27 = .ok (.iconst 4, 1) := by decide +kernel
theorem dX8_then_28 : decode cX8_then 28 = .ok (.invokestatic 71, 3) := by decide +kernel
theorem dX8_then_31 : decode cX8_then 31 = .ok (.ifCond .ne 9, 3) := by decide +kernel
theorem dX8_then_34 : decode cX8_then 34 = .ok (.aload_n 0, 1) := by decide +kernel
theorem dX8_then_35 : decode cX8_then 35 = .ok (.iconst 1, 1) := by decide +kernel
theorem dX8_then_36 : decode cX8_then 36 = .ok (.invokevirtual 63, 3) := by decide +kernel
theorem dX8_then_39 : decode cX8_then 39 = .ok (.ireturn, 1) := by decide +kernel
theorem dX8_then_40 : decode cX8_then 40 = .ok (.aload_n 0, 1) := by decide +kernel
theorem dX8_then_41 : decode cX8_then 41 = .ok (.getfield 24, 3) := by decide +kernel
theorem dX8_then_44 : decode cX8_then 44 = .ok (.aload 4, 2) := by decide +kernel
theorem dX8_then_46 : decode cX8_then 46 = .ok (.invokevirtual 174, 3) := by decide +kernel
theorem dX8_then_49 : decode cX8_then 49 = .ok (.aload_n 0, 1) := by decide +kernel
theorem dX8_then_50 : decode cX8_then 50 = .ok (.getfield 24, 3) := by decide +kernel
theorem dX8_then_53 : decode cX8_then 53 = .ok (.aload_n 0, 1) := by decide +kernel
theorem dX8_then_54 : decode cX8_then 54 = .ok (.getfield 10, 3) := by decide +kernel
theorem dX8_then_57 : decode cX8_then 57 = .ok (.getfield 161, 3) := by decide +kernel
theorem dX8_then_60 : decode cX8_then 60 = .ok (.iload_n 2, 1) := by decide +kernel
theorem dX8_then_61 : decode cX8_then 61 = .ok (.iadd, 1) := by decide +kernel
theorem dX8_then_62 : decode cX8_then 62 = .ok (.invokevirtual 178, 3) := by decide +kernel
theorem dX8_then_65 : decode cX8_then 65 = .ok (.istore 5, 2) := by decide +kernel
theorem dX8_then_67 : decode cX8_then 67 = .ok (.iload_n 3, 1) := by decide +kernel
theorem dX8_then_68 : decode cX8_then 68 = .ok (.tableswitch 68 0 3 #[32, 41, 52, 60], 32) := by decide +kernel
theorem dX8_then_100 : decode cX8_then 100 = .ok (.aload_n 0, 1) := by decide +kernel
theorem dX8_then_101 : decode cX8_then 101 = .ok (.getfield 24, 3) := by decide +kernel
theorem dX8_then_104 : decode cX8_then 104 = .ok (.iconst 0, 1) := by decide +kernel
theorem dX8_then_105 : decode cX8_then 105 = .ok (.invokevirtual 181, 3) := by decide +kernel
theorem dX8_then_108 : decode cX8_then 108 = .ok (.ireturn, 1) := by decide +kernel
theorem dX8_then_109 : decode cX8_then 109 = .ok (.iload 5, 2) := by decide +kernel
theorem dX8_then_111 : decode cX8_then 111 = .ok (.ifCond .eq 7, 3) := by decide +kernel
theorem dX8_then_114 : decode cX8_then 114 = .ok (.iconst 1, 1) := by decide +kernel
theorem dX8_then_115 : decode cX8_then 115 = .ok (.goto 4, 3) := by decide +kernel
theorem dX8_then_118 : decode cX8_then 118 = .ok (.iconst 0, 1) := by decide +kernel
theorem dX8_then_119 : decode cX8_then 119 = .ok (.ireturn, 1) := by decide +kernel
theorem dX8_then_120 : decode cX8_then 120 = .ok (.aload_n 0, 1) := by decide +kernel
theorem dX8_then_121 : decode cX8_then 121 = .ok (.getfield 24, 3) := by decide +kernel
theorem dX8_then_124 : decode cX8_then 124 = .ok (.getfield 184, 3) := by decide +kernel
theorem dX8_then_127 : decode cX8_then 127 = .ok (.ireturn, 1) := by decide +kernel
theorem dX8_then_128 : decode cX8_then 128 = .ok (.aload_n 0, 1) := by decide +kernel
theorem dX8_then_129 : decode cX8_then 129 = .ok (.getfield 24, 3) := by decide +kernel
theorem dX8_then_132 : decode cX8_then 132 = .ok (.getfield 187, 3) := by decide +kernel
theorem dX8_then_135 : decode cX8_then 135 = .ok (.ireturn, 1) := by decide +kernel
theorem dX8_then_136 : decode cX8_then 136 = .ok (.aload 4, 2) := by decide +kernel
theorem dX8_then_138 : decode cX8_then 138 = .ok (.aload_n 0, 1) := by decide +kernel
theorem dX8_then_139 : decode cX8_then 139 = .ok (.getfield 24, 3) := by decide +kernel
theorem dX8_then_142 : decode cX8_then 142 = .ok (.getfield 187, 3) := by decide +kernel
theorem dX8_then_145 : decode cX8_then 145 = .ok (.aload_n 0, 1) := by decide +kernel
theorem dX8_then_146 : decode cX8_then 146 = .ok (.getfield 10, 3) := by decide +kernel
theorem dX8_then_149 : decode cX8_then 149 = .ok (.getfield 85, 3) := by decide +kernel
theorem dX8_then_152 : decode cX8_then 152 = .ok (.isub, 1) := by decide +kernel
theorem dX8_then_153 : decode cX8_then 153 = .ok (.invokestatic 190, 3) := by decide +kernel
theorem dX8_then_156 : decode cX8_then 156 = .ok (.invokevirtual 124, 3) := by decide +kernel
theorem dX8_then_159 : decode cX8_then 159 = .ok (.ireturn, 1) := by decide +kernel
theorem dX8_can_0 : decode cX8_can 0 = .ok (.aload_n 0, 1) := by decide +kernel
theorem dX8_can_1 : decode cX8_can 1 = .ok (.getfield 10, 3) := by decide +kernel
theorem dX8_can_4 : decode cX8_can 4 = .ok (.iload_n 1, 1) := by decide +kernel
theorem dX8_can_5 : decode cX8_can 5 = .ok (.invokevirtual 95, 3) := by decide +kernel
theorem dX8_can_8 : decode cX8_can 8 = .ok (.astore 4, 2) := by decide +kernel
theorem dX8_can_10 : decode cX8_can 10 = .ok (.aload 4, 2) := by decide +kernel
theorem dX8_can_12 : decode cX8_can 12 = .ok (.ifnull 19, 3) := by decide +kernel
theorem dX8_can_15 : decode cX8_can 15 = .ok (.iload_n 2, 1) := by decide +kernel
theorem dX8_can_16 : decode cX8_can 16 = .ok (.invokestatic 195, 3) := by decide +kernel
theorem dX8_can_19 : decode cX8_can 19 = .ok (.ifCond .eq 12, 3) := by decide +kernel
theorem dX8_can_22 : decode cX8_can 22 = .ok (.iload_n 3, 1) := by decide +kernel
theorem dX8_can_23 : decode cX8_can 23 = .ok (.iconst 0, 1) := by decide +kernel
theorem dX8_can_24 : decode cX8_can 24 = .ok (.iconst 1, 1) := by decide +kernel
theorem dX8_can_25 : decode cX8_can 25 = .ok (.invokestatic 71, 3) := by decide +kernel
theorem dX8_can_28 : decode cX8_can 28 = .ok (.ifCond .ne 9, 3) := by decide +kernel
theorem dX8_can_31 : decode cX8_can 31 = .ok (.aload_n 0, 1) := by decide +kernel
theorem dX8_can_32 : decode cX8_can 32 = .ok (.iconst 1, 1) := by decide +kernel
theorem dX8_can_33 : decode cX8_can 33 = .ok (.invokevirtual 63, 3) := by decide +kernel
theorem dX8_can_36 : decode cX8_can 36 = .ok (.ireturn, 1) := by decide +kernel
theorem dX8_can_37 : decode cX8_can 37 = .ok (.aload_n 0, 1) := by decide +kernel
theorem dX8_can_38 : decode cX8_can 38 = .ok (.getfield 24, 3) := by decide +kernel
theorem dX8_can_41 : decode cX8_can 41 = .ok (.aload 4, 2) := by decide +kernel
theorem dX8_can_43 : decode cX8_can 43 = .ok (.invokevirtual 174, 3) := by decide +kernel
theorem dX8_can_46 : decode cX8_can 46 = .ok (.iload_n 3, 1) := by decide +kernel
theorem dX8_can_47 : decode cX8_can 47 = .ok (.ifCond .ne 12, 3) := by decide +kernel
theorem dX8_can_50 : decode cX8_can 50 = .ok (.aload_n 0, 1) := by decide +kernel
theorem dX8_can_51 : decode cX8_can 51 = .ok (.getfield 24, 3) := by decide +kernel
theorem dX8_can_54 : decode cX8_can 54 = .ok (.iload_n 2, 1) := by decide +kernel
theorem dX8_can_55 : decode cX8_can 55 = .ok (.invokevirtual 198, 3) := by decide +kernel
theorem dX8_can_58 : decode cX8_can 58 = .ok (.ireturn, 1) := by decide +kernel
theorem dX8_can_59 : decode cX8_can 59 = .ok (.aload_n 0, 1) := by decide +kernel
theorem dX8_can_60 : decode cX8_can 60 = .ok (.aload_n 0, 1) := by decide +kernel
theorem dX8_can_61 : decode cX8_can 61 = .ok (.getfield 24, 3) := by decide +kernel
theorem dX8_can_64 : decode cX8_can 64 = .ok (.iload_n 2, 1) := by decide +kernel
theorem dX8_can_65 : decode cX8_can 65 = .ok (.invokevirtual 201, 3) := by decide +kernel
theorem dX8_can_68 : decode cX8_can 68 = .ok (.invokevirtual 204, 3) := by decide +kernel
theorem dX8_can_71 : decode cX8_can 71 = .ok (.ireturn, 1) := by decide +kernel
theorem dX8_surest_0 : decode cX8_surest 0 = .ok (.aload_n 0, 1) := by decide +kernel
theorem dX8_surest_1 : decode cX8_surest 1 = .ok (.getfield 10, 3) := by decide +kernel
theorem dX8_surest_4 : decode cX8_surest 4 = .ok (.iload_n 1, 1) := by decide +kernel
theorem dX8_surest_5 : decode cX8_surest 5 = .ok (.invokevirtual 95, 3) := by decide +kernel
theorem dX8_surest_8 : decode cX8_surest 8 = .ok (.astore_n 3, 1) := by decide +kernel
theorem dX8_surest_9 : decode cX8_surest 9 = .ok (.aload_n 3, 1) := by decide +kernel
theorem dX8_surest_10 : decode cX8_surest 10 = .ok (.ifnull 10, 3) := by decide +kernel
theorem dX8_surest_13 : decode cX8_surest 13 = .ok (.iload_n 2, 1) := by decide +kernel
theorem dX8_surest_14 : decode cX8_surest 14 = .ok (.invokestatic 195, 3) := by decide +kernel
theorem dX8_surest_17 : decode cX8_surest 17 = .ok (.ifCond .ne 9, 3) := by decide +kernel
theorem dX8_surest_20 : decode cX8_surest 20 = .ok (.aload_n 0, 1) := by decide +kernel
theorem dX8_surest_21 : decode cX8_surest 21 = .ok (.iconst 1, 1) := by decide +kernel
theorem dX8_surest_22 : decode cX8_surest 22 = .ok (.invokevirtual 63, 3) := by decide +kernel
theorem dX8_surest_25 : decode cX8_surest 25 = .ok (.ireturn, 1) := by decide +kernel
theorem dX8_surest_26 : decode cX8_surest 26 = .ok (.aload_n 0, 1) := by decide +kernel
theorem dX8_surest_27 : decode cX8_surest 27 = .ok (.getfield 24, 3) := by decide +kernel
theorem dX8_surest_30 : decode cX8_surest 30 = .ok (.aload_n 3, 1) := by decide +kernel
theorem dX8_surest_31 : decode cX8_surest 31 = .ok (.invokevirtual 174, 3) := by decide +kernel
theorem dX8_surest_34 : decode cX8_surest 34 = .ok (.aload_n 0, 1) := by decide +kernel
theorem dX8_surest_35 : decode cX8_surest 35 = .ok (.getfield 24, 3) := by decide +kernel
theorem dX8_surest_38 : decode cX8_surest 38 = .ok (.iload_n 2, 1) := by decide +kernel
theorem dX8_surest_39 : decode cX8_surest 39 = .ok (.invokevirtual 207, 3) := by decide +kernel
theorem dX8_surest_42 : decode cX8_surest 42 = .ok (.ireturn, 1) := by decide +kernel
theorem dX8_odds_0 : decode cX8_odds 0 = .ok (.aload_n 0, 1) := by decide +kernel
theorem dX8_odds_1 : decode cX8_odds 1 = .ok (.getfield 10, 3) := by decide +kernel
theorem dX8_odds_4 : decode cX8_odds 4 = .ok (.iload_n 1, 1) := by decide +kernel
theorem dX8_odds_5 : decode cX8_odds 5 = .ok (.invokevirtual 95, 3) := by decide +kernel
theorem dX8_odds_8 : decode cX8_odds 8 = .ok (.astore 4, 2) := by decide +kernel
theorem dX8_odds_10 : decode cX8_odds 10 = .ok (.aload 4, 2) := by decide +kernel
theorem dX8_odds_12 : decode cX8_odds 12 = .ok (.ifnull 22, 3) := by decide +kernel
theorem dX8_odds_15 : decode cX8_odds 15 = .ok (.iload_n 2, 1) := by decide +kernel
theorem dX8_odds_16 : decode cX8_odds 16 = .ok (.iconst 0, 1) := by decide +kernel
theorem dX8_odds_17 : decode cX8_odds 17 = .ok (.bipush 60, 2) := by decide +kernel
theorem dX8_odds_19 : decode cX8_odds 19 = .ok (.invokestatic 71, 3) := by decide +kernel
theorem dX8_odds_22 : decode cX8_odds 22 = .ok (.ifCond .eq 12, 3) := by decide +kernel
theorem dX8_odds_25 : decode cX8_odds 25 = .ok (.iload_n 3, 1) := by decide +kernel
theorem dX8_odds_26 : decode cX8_odds 26 = .ok (.iconst 0, 1) := by decide +kernel
theorem dX8_odds_27 : decode cX8_odds 27 = .ok (.iconst 1, 1) := by decide +kernel
theorem dX8_odds_28 : decode cX8_odds 28 = .ok (.invokestatic 71, 3) := by decide +kernel
theorem dX8_odds_31 : decode cX8_odds 31 = .ok (.ifCond .ne 9, 3) := by decide +kernel
theorem dX8_odds_34 : decode cX8_odds 34 = .ok (.aload_n 0, 1) := by decide +kernel
theorem dX8_odds_35 : decode cX8_odds 35 = .ok (.iconst 1, 1) := by decide +kernel
theorem dX8_odds_36 : decode cX8_odds 36 = .ok (.invokevirtual 63, 3) := by decide +kernel
theorem dX8_odds_39 : decode cX8_odds 39 = .ok (.ireturn, 1) := by decide +kernel
theorem dX8_odds_40 : decode cX8_odds 40 = .ok (.aload_n 0, 1) := by decide +kernel
theorem dX8_odds_41 : decode cX8_odds 41 = .ok (.getfield 24, 3) := by decide +kernel
theorem dX8_odds_44 : decode cX8_odds 44 = .ok (.aload 4, 2) := by decide +kernel
theorem dX8_odds_46 : decode cX8_odds 46 = .ok (.invokevirtual 174, 3) := by decide +kernel
theorem dX8_odds_49 : decode cX8_odds 49 = .ok (.aload_n 0, 1) := by decide +kernel
theorem dX8_odds_50 : decode cX8_odds 50 = .ok (.getfield 24, 3) := by decide +kernel
theorem dX8_odds_53 : decode cX8_odds 53 = .ok (.aload_n 0, 1) := by decide +kernel
theorem dX8_odds_54 : decode cX8_odds 54 = .ok (.getfield 10, 3) := by decide +kernel
theorem dX8_odds_57 : decode cX8_odds 57 = .ok (.getfield 161, 3) := by decide +kernel
theorem dX8_odds_60 : decode cX8_odds 60 = .ok (.iload_n 2, 1) := by decide +kernel
theorem dX8_odds_61 : decode cX8_odds 61 = .ok (.iadd, 1) := by decide +kernel
theorem dX8_odds_62 : decode cX8_odds 62 = .ok (.invokevirtual 210, 3) := by decide +kernel
theorem dX8_odds_65 : decode cX8_odds 65 = .ok (.bipush 9, 2) := by decide +kernel
theorem dX8_odds_67 : decode cX8_odds 67 = .ok (.iload_n 3, 1) := by decide +kernel
theorem dX8_odds_68 : decode cX8_odds 68 = .ok (.invokestatic 213, 3) := by decide +kernel
theorem dX8_odds_71 : decode cX8_odds 71 = .ok (.ireturn, 1) := by decide +kernel
theorem dX8_pumped_0 : decode cX8_pumped 0 = .ok (.aload_n 0, 1) := by decide +kernel
theorem dX8_pumped_1 : decode cX8_pumped 1 = .ok (.getfield 10, 3) := by decide +kernel
theorem dX8_pumped_4 : decode cX8_pumped 4 = .ok (.iload_n 1, 1) := by decide +kernel
theorem dX8_pumped_5 : decode cX8_pumped 5 = .ok (.invokevirtual 95, 3) := by decide +kernel
theorem dX8_pumped_8 : decode cX8_pumped 8 = .ok (.astore_n 3, 1) := by decide +kernel
theorem dX8_pumped_9 : decode cX8_pumped 9 = .ok (.aload_n 3, 1) := by decide +kernel
theorem dX8_pumped_10 : decode cX8_pumped 10 = .ok (.ifnull 10, 3) := by decide +kernel
theorem dX8_pumped_13 : decode cX8_pumped 13 = .ok (.iload_n 2, 1) := by decide +kernel
theorem dX8_pumped_14 : decode cX8_pumped 14 = .ok (.invokestatic 195, 3) := by decide +kernel
theorem dX8_pumped_17 : decode cX8_pumped 17 = .ok (.ifCond .ne 9, 3) := by decide +kernel
theorem dX8_pumped_20 : decode cX8_pumped 20 = .ok (.aload_n 0, 1) := by decide +kernel
theorem dX8_pumped_21 : decode cX8_pumped 21 = .ok (.iconst 1, 1) := by decide +kernel
theorem dX8_pumped_22 : decode cX8_pumped 22 = .ok (.invokevirtual 63, 3) := by decide +kernel
theorem dX8_pumped_25 : decode cX8_pumped 25 = .ok (.ireturn, 1) := by decide +kernel
theorem dX8_pumped_26 : decode cX8_pumped 26 = .ok (.aload_n 0, 1) := by decide +kernel
theorem dX8_pumped_27 : decode cX8_pumped 27 = .ok (.getfield 24, 3) := by decide +kernel
theorem dX8_pumped_30 : decode cX8_pumped 30 = .ok (.aload_n 3, 1) := by decide +kernel
theorem dX8_pumped_31 : decode cX8_pumped 31 = .ok (.invokevirtual 174, 3) := by decide +kernel
theorem dX8_pumped_34 : decode cX8_pumped 34 = .ok (.aload_n 0, 1) := by decide +kernel
theorem dX8_pumped_35 : decode cX8_pumped 35 = .ok (.aload_n 0, 1) := by decide +kernel
theorem dX8_pumped_36 : decode cX8_pumped 36 = .ok (.getfield 24, 3) := by decide +kernel
theorem dX8_pumped_39 : decode cX8_pumped 39 = .ok (.iload_n 2, 1) := by decide +kernel
theorem dX8_pumped_40 : decode cX8_pumped 40 = .ok (.invokevirtual 216, 3) := by decide +kernel
theorem dX8_pumped_43 : decode cX8_pumped 43 = .ok (.invokevirtual 204, 3) := by decide +kernel
theorem dX8_pumped_46 : decode cX8_pumped 46 = .ok (.ireturn, 1) := by decide +kernel
theorem dX8_inStep_0 : decode cX8_inStep 0 = .ok (.aload_n 0, 1) := by decide +kernel
theorem dX8_inStep_1 : decode cX8_inStep 1 = .ok (.getfield 10, 3) := by decide +kernel
theorem dX8_inStep_4 : decode cX8_inStep 4 = .ok (.iload_n 1, 1) := by decide +kernel
theorem dX8_inStep_5 : decode cX8_inStep 5 = .ok (.invokevirtual 95, 3) := by decide +kernel
theorem dX8_inStep_8 : decode cX8_inStep 8 = .ok (.astore_n 3, 1) := by decide +kernel
theorem dX8_inStep_9 : decode cX8_inStep 9 = .ok (.aload_n 3, 1) := by decide +kernel
theorem dX8_inStep_10 : decode cX8_inStep 10 = .ok (.ifnull 10, 3) := by decide +kernel
theorem dX8_inStep_13 : decode cX8_inStep 13 = .ok (.iload_n 2, 1) := by decide +kernel
theorem dX8_inStep_14 : decode cX8_inStep 14 = .ok (.invokestatic 195, 3) := by decide +kernel
theorem dX8_inStep_17 : decode cX8_inStep 17 = .ok (.ifCond .ne 9, 3) := by decide +kernel
theorem dX8_inStep_20 : decode cX8_inStep 20 = .ok (.aload_n 0, 1) := by decide +kernel
theorem dX8_inStep_21 : decode cX8_inStep 21 = .ok (.iconst 1, 1) := by decide +kernel
theorem dX8_inStep_22 : decode cX8_inStep 22 = .ok (.invokevirtual 63, 3) := by decide +kernel
theorem dX8_inStep_25 : decode cX8_inStep 25 = .ok (.ireturn, 1) := by decide +kernel
theorem dX8_inStep_26 : decode cX8_inStep 26 = .ok (.aload_n 0, 1) := by decide +kernel
theorem dX8_inStep_27 : decode cX8_inStep 27 = .ok (.getfield 24, 3) := by decide +kernel
theorem dX8_inStep_30 : decode cX8_inStep 30 = .ok (.aload_n 3, 1) := by decide +kernel
theorem dX8_inStep_31 : decode cX8_inStep 31 = .ok (.invokevirtual 174, 3) := by decide +kernel
theorem dX8_inStep_34 : decode cX8_inStep 34 = .ok (.aload_n 0, 1) := by decide +kernel
theorem dX8_inStep_35 : decode cX8_inStep 35 = .ok (.aload_n 0, 1) := by decide +kernel
theorem dX8_inStep_36 : decode cX8_inStep 36 = .ok (.getfield 24, 3) := by decide +kernel
theorem dX8_inStep_39 : decode cX8_inStep 39 = .ok (.iload_n 2, 1) := by decide +kernel
theorem dX8_inStep_40 : decode cX8_inStep 40 = .ok (.invokevirtual 219, 3) := by decide +kernel
theorem dX8_inStep_43 : decode cX8_inStep 43 = .ok (.invokevirtual 204, 3) := by decide +kernel
theorem dX8_inStep_46 : decode cX8_inStep 46 = .ok (.ireturn, 1) := by decide +kernel
theorem dX8_mend_0 : decode cX8_mend 0 = .ok (.aload_n 0, 1) := by decide +kernel
theorem dX8_mend_1 : decode cX8_mend 1 = .ok (.getfield 10, 3) := by decide +kernel
theorem dX8_mend_4 : decode cX8_mend 4 = .ok (.iload_n 1, 1) := by decide +kernel
theorem dX8_mend_5 : decode cX8_mend 5 = .ok (.invokevirtual 95, 3) := by decide +kernel
theorem dX8_mend_8 : decode cX8_mend 8 = .ok (.astore 5, 2) := by decide +kernel
theorem dX8_mend_10 : decode cX8_mend 10 = .ok (.aload 5, 2) := by decide +kernel
theorem dX8_mend_12 : decode cX8_mend 12 = .ok (.ifnull 34, 3) := by decide +kernel
theorem dX8_mend_15 : decode cX8_mend 15 = .ok (.iload_n 2, 1) := by decide +kernel
theorem dX8_mend_16 : decode cX8_mend 16 = .ok (.iconst 0, 1) := by decide +kernel
theorem dX8_mend_17 : decode cX8_mend 17 = .ok (.bipush 60, 2) := by decide +kernel
theorem dX8_mend_19 : decode cX8_mend 19 = .ok (.invokestatic 71, 3) := by decide +kernel
theorem dX8_mend_22 : decode cX8_mend 22 = .ok (.ifCond .eq 24, 3) := by decide +kernel
theorem dX8_mend_25 : decode cX8_mend 25 = .ok (.iload_n 3, 1) := by decide +kernel
theorem dX8_mend_26 : decode cX8_mend 26 = .ok (.iconst 0, 1) := by decide +kernel
theorem dX8_mend_27 : decode cX8_mend 27 = .ok (.bipush 9, 2) := by decide +kernel
theorem dX8_mend_29 : decode cX8_mend 29 = .ok (.invokestatic 71, 3) := by decide +kernel
theorem dX8_mend_32 : decode cX8_mend 32 = .ok (.ifCond .eq 14, 3) := by decide +kernel
theorem dX8_mend_35 : decode cX8_mend 35 = .ok (.iload 4, 2) := by decide +kernel
theorem dX8_mend_37 : decode cX8_mend 37 = .ok (.iconst 0, 1) := by decide +kernel
theorem dX8_mend_38 : decode cX8_mend 38 = .ok (.bipush 9, 2) := by decide +kernel
theorem dX8_mend_40 : decode cX8_mend 40 = .ok (.invokestatic 71, 3) := by decide +kernel
theorem dX8_mend_43 : decode cX8_mend 43 = .ok (.ifCond .ne 9, 3) := by decide +kernel
theorem dX8_mend_46 : decode cX8_mend 46 = .ok (.aload_n 0, 1) := by decide +kernel
theorem dX8_mend_47 : decode cX8_mend 47 = .ok (.iconst 1, 1) := by decide +kernel
theorem dX8_mend_48 : decode cX8_mend 48 = .ok (.invokevirtual 63, 3) := by decide +kernel
theorem dX8_mend_51 : decode cX8_mend 51 = .ok (.ireturn, 1) := by decide +kernel
theorem dX8_mend_52 : decode cX8_mend 52 = .ok (.aload_n 0, 1) := by decide +kernel
theorem dX8_mend_53 : decode cX8_mend 53 = .ok (.getfield 24, 3) := by decide +kernel
theorem dX8_mend_56 : decode cX8_mend 56 = .ok (.aload 5, 2) := by decide +kernel
theorem dX8_mend_58 : decode cX8_mend 58 = .ok (.invokevirtual 174, 3) := by decide +kernel
theorem dX8_mend_61 : decode cX8_mend 61 = .ok (.aload_n 0, 1) := by decide +kernel
theorem dX8_mend_62 : decode cX8_mend 62 = .ok (.getfield 24, 3) := by decide +kernel
theorem dX8_mend_65 : decode cX8_mend 65 = .ok (.aload_n 0, 1) := by decide +kernel
theorem dX8_mend_66 : decode cX8_mend 66 = .ok (.getfield 10, 3) := by decide +kernel
theorem dX8_mend_69 : decode cX8_mend 69 = .ok (.getfield 161, 3) := by decide +kernel
theorem dX8_mend_72 : decode cX8_mend 72 = .ok (.iload_n 2, 1) := by decide +kernel
theorem dX8_mend_73 : decode cX8_mend 73 = .ok (.iadd, 1) := by decide +kernel
theorem dX8_mend_74 : decode cX8_mend 74 = .ok (.iconst 0, 1) := by decide +kernel
theorem dX8_mend_75 : decode cX8_mend 75 = .ok (.invokevirtual 222, 3) := by decide +kernel
theorem dX8_mend_78 : decode cX8_mend 78 = .ok (.aload_n 0, 1) := by decide +kernel
theorem dX8_mend_79 : decode cX8_mend 79 = .ok (.getfield 24, 3) := by decide +kernel
theorem dX8_mend_82 : decode cX8_mend 82 = .ok (.iconst 0, 1) := by decide +kernel
theorem dX8_mend_83 : decode cX8_mend 83 = .ok (.invokevirtual 181, 3) := by decide +kernel
theorem dX8_mend_86 : decode cX8_mend 86 = .ok (.istore 6, 2) := by decide +kernel
theorem dX8_mend_88 : decode cX8_mend 88 = .ok (.iload 6, 2) := by decide +kernel
theorem dX8_mend_90 : decode cX8_mend 90 = .ok (.iload 6, 2) := by decide +kernel
theorem dX8_mend_92 : decode cX8_mend 92 = .ok (.iload_n 3, 1) := by decide +kernel
theorem dX8_mend_93 : decode cX8_mend 93 = .ok (.imul, 1) := by decide +kernel
theorem dX8_mend_94 : decode cX8_mend 94 = .ok (.bipush 10, 2) := by decide +kernel
theorem dX8_mend_96 : decode cX8_mend 96 = .ok (.idiv, 1) := by decide +kernel
theorem dX8_mend_97 : decode cX8_mend 97 = .ok (.isub, 1) := by decide +kernel
theorem dX8_mend_98 : decode cX8_mend 98 = .ok (.iload 6, 2) := by decide +kernel
theorem dX8_mend_100 : decode cX8_mend 100 = .ok (.iload 4, 2) := by decide +kernel
theorem dX8_mend_102 : decode cX8_mend 102 = .ok (.imul, 1) := by decide +kernel
theorem dX8_mend_103 : decode cX8_mend 103 = .ok (.bipush 10, 2) := by decide +kernel
theorem dX8_mend_105 : decode cX8_mend 105 = .ok (.idiv, 1) := by decide +kernel
theorem dX8_mend_106 : decode cX8_mend 106 = .ok (.isub, 1) := by decide +kernel
theorem dX8_mend_107 : decode cX8_mend 107 = .ok (.ireturn, 1) := by decide +kernel
theorem dX8_again_0 : decode cX8_again 0 = .ok (.aload_n 0, 1) := by decide +kernel
theorem dX8_again_1 : decode cX8_again 1 = .ok (.getfield 10, 3) := by decide +kernel
theorem dX8_again_4 : decode cX8_again 4 = .ok (.iload_n 1, 1) := by decide +kernel
theorem dX8_again_5 : decode cX8_again 5 = .ok (.invokevirtual 95, 3) := by decide +kernel
theorem dX8_again_8 : decode cX8_again 8 = .ok (.astore 6, 2) := by decide +kernel
theorem dX8_again_10 : decode cX8_again 10 = .ok (.iload_n 2, 1) := by decide +kernel
theorem dX8_again_11 : decode cX8_again 11 = .ok (.invokestatic 195, 3) := by decide +kernel
theorem dX8_again_14 : decode cX8_again 14 = .ok (.ifCond .eq 38, 3) := by decide +kernel
theorem dX8_again_17 : decode cX8_again 17 = .ok (.iload_n 3, 1) := by decide +kernel
theorem dX8_again_18 : decode cX8_again 18 = .ok (.iconst 0, 1) := by decide +kernel
theorem dX8_again_19 : decode cX8_again 19 = .ok (.bipush 99, 2) := by decide +kernel
theorem dX8_again_21 : decode cX8_again 21 = .ok (.invokestatic 71, 3) := by decide +kernel
theorem dX8_again_24 : decode cX8_again 24 = .ok (.ifCond .eq 28, 3) := by decide +kernel
theorem dX8_again_27 : decode cX8_again 27 = .ok (.iload 4, 2) := by decide +kernel
theorem dX8_again_29 : decode cX8_again 29 = .ok (.iconst 0, 1) := by decide +kernel
theorem dX8_again_30 : decode cX8_again 30 = .ok (.bipush 99, 2) := by decide +kernel
theorem dX8_again_32 : decode cX8_again 32 = .ok (.invokestatic 71, 3) := by decide +kernel
theorem dX8_again_35 : decode cX8_again 35 = .ok (.ifCond .eq 17, 3) := by decide +kernel
theorem dX8_again_38 : decode cX8_again 38 = .ok (.iload 5, 2) := by decide +kernel
theorem dX8_again_40 : decode cX8_again 40 = .ok (.iconst 0, 1) := by decide +kernel
theorem dX8_again_41 : decode cX8_again 41 = .ok (.iconst 1, 1) := by decide +kernel
theorem dX8_again_42 : decode cX8_again 42 = .ok (.invokestatic 71, 3) := by decide +kernel
theorem dX8_again_45 : decode cX8_again 45 = .ok (.ifCond .eq 7, 3) := by decide +kernel
theorem dX8_again_48 : decode cX8_again 48 = .ok (.iconst 1, 1) := by decide +kernel
theorem dX8_again_49 : decode cX8_again 49 = .ok (.goto 4, 3) := by decide +kernel
theorem dX8_again_52 : decode cX8_again 52 = .ok (.iconst 0, 1) := by decide +kernel
theorem dX8_again_53 : decode cX8_again 53 = .ok (.istore 7, 2) := by decide +kernel
theorem dX8_again_55 : decode cX8_again 55 = .ok (.aload 6, 2) := by decide +kernel
theorem dX8_again_57 : decode cX8_again 57 = .ok (.ifnull 8, 3) := by decide +kernel
theorem dX8_again_60 : decode cX8_again 60 = .ok (.iload 7, 2) := by decide +kernel
theorem dX8_again_62 : decode cX8_again 62 = .ok (.ifCond .ne 10, 3) := by decide +kernel
theorem dX8_again_65 : decode cX8_again 65 = .ok (.aload_n 0, 1) := by decide +kernel
theorem dX8_again_66 : decode cX8_again 66 = .ok (.iconst 1, 1) := by decide +kernel
theorem dX8_again_67 : decode cX8_again 67 = .ok (.invokevirtual 63, 3) := by decide +kernel
theorem dX8_again_70 : decode cX8_again 70 = .ok (.i2l, 1) := by decide +kernel
theorem dX8_again_71 : decode cX8_again 71 = .ok (.lreturn, 1) := by decide +kernel
theorem dX8_again_72 : decode cX8_again 72 = .ok (.aload_n 0, 1) := by decide +kernel
theorem dX8_again_73 : decode cX8_again 73 = .ok (.getfield 24, 3) := by decide +kernel
theorem dX8_again_76 : decode cX8_again 76 = .ok (.aload 6, 2) := by decide +kernel
theorem dX8_again_78 : decode cX8_again 78 = .ok (.invokevirtual 174, 3) := by decide +kernel
theorem dX8_again_81 : decode cX8_again 81 = .ok (.aload_n 0, 1) := by decide +kernel
theorem dX8_again_82 : decode cX8_again 82 = .ok (.getfield 24, 3) := by decide +kernel
theorem dX8_again_85 : decode cX8_again 85 = .ok (.aload_n 0, 1) := by decide +kernel
theorem dX8_again_86 : decode cX8_again 86 = .ok (.getfield 10, 3) := by decide +kernel
theorem dX8_again_89 : decode cX8_again 89 = .ok (.getfield 161, 3) := by decide +kernel
theorem dX8_again_92 : decode cX8_again 92 = .ok (.aload_n 0, 1) := by decide +kernel
theorem dX8_again_93 : decode cX8_again 93 = .ok (.getfield 24, 3) := by decide +kernel
theorem dX8_again_96 : decode cX8_again 96 = .ok (.iload_n 2, 1) := by decide +kernel
theorem dX8_again_97 : decode cX8_again 97 = .ok (.invokevirtual 207, 3) := by decide +kernel
theorem dX8_again_100 : decode cX8_again 100 = .ok (.iadd, 1) := by decide +kernel
theorem dX8_again_101 : decode cX8_again 101 = .ok (.invokevirtual 210, 3) := by decide +kernel
theorem dX8_again_104 : decode cX8_again 104 = .ok (.istore 8, 2) := by decide +kernel
theorem dX8_again_106 : decode cX8_again 106 = .ok (.bipush 9, 2) := by decide +kernel
theorem dX8_again_108 : decode cX8_again 108 = .ok (.iload 8, 2) := by decide +kernel
theorem dX8_again_110 : decode cX8_again 110 = .ok (.isub, 1) := by decide +kernel
theorem dX8_again_111 : decode cX8_again 111 = .ok (.istore 9, 2) := by decide +kernel
theorem dX8_again_113 : decode cX8_again 113 = .ok (.iload 8, 2) := by decide +kernel
theorem dX8_again_115 : decode cX8_again 115 = .ok (.iload_n 3, 1) := by decide +kernel
theorem dX8_again_116 : decode cX8_again 116 = .ok (.imul, 1) := by decide +kernel
theorem dX8_again_117 : decode cX8_again 117 = .ok (.iload 9, 2) := by decide +kernel
theorem dX8_again_119 : decode cX8_again 119 = .ok (.iload 4, 2) := by decide +kernel
theorem dX8_again_121 : decode cX8_again 121 = .ok (.imul, 1) := by decide +kernel
theorem dX8_again_122 : decode cX8_again 122 = .ok (.isub, 1) := by decide +kernel
theorem dX8_again_123 : decode cX8_again 123 = .ok (.istore 10, 2) := by decide +kernel
theorem dX8_again_125 : decode cX8_again 125 = .ok (.bipush 9, 2) := by decide +kernel
theorem dX8_again_127 : decode cX8_again 127 = .ok (.iload 8, 2) := by decide +kernel
theorem dX8_again_129 : decode cX8_again 129 = .ok (.imul, 1) := by decide +kernel
theorem dX8_again_130 : decode cX8_again 130 = .ok (.iload_n 3, 1) := by decide +kernel
theorem dX8_again_131 : decode cX8_again 131 = .ok (.imul, 1) := by decide +kernel
theorem dX8_again_132 : decode cX8_again 132 = .ok (.iload 9, 2) := by decide +kernel
theorem dX8_again_134 : decode cX8_again 134 = .ok (.iconst 0, 1) := by decide +kernel
theorem dX8_again_135 : decode cX8_again 135 = .ok (.iload 10, 2) := by decide +kernel
theorem dX8_again_137 : decode cX8_again 137 = .ok (.invokestatic 226, 3) := by decide +kernel
theorem dX8_again_140 : decode cX8_again 140 = .ok (.bipush 9, 2) := by decide +kernel
theorem dX8_again_142 : decode cX8_again 142 = .ok (.iload 4, 2) := by decide +kernel
theorem dX8_again_144 : decode cX8_again 144 = .ok (.imul, 1) := by decide +kernel
theorem dX8_again_145 : decode cX8_again 145 = .ok (.isub, 1) := by decide +kernel
theorem dX8_again_146 : decode cX8_again 146 = .ok (.imul, 1) := by decide +kernel
theorem dX8_again_147 : decode cX8_again 147 = .ok (.iadd, 1) := by decide +kernel
theorem dX8_again_148 : decode cX8_again 148 = .ok (.istore 11, 2) := by decide +kernel
theorem dX8_again_150 : decode cX8_again 150 = .ok (.iload 11, 2) := by decide +kernel
theorem dX8_again_152 : decode cX8_again 152 = .ok (.bipush 81, 2) := by decide +kernel
theorem dX8_again_154 : decode cX8_again 154 = .ok (.iload 5, 2) := by decide +kernel
theorem dX8_again_156 : decode cX8_again 156 = .ok (.invokestatic 213, 3) := by decide +kernel
theorem dX8_again_159 : decode cX8_again 159 = .ok (.i2l, 1) := by decide +kernel
theorem dX8_again_160 : decode cX8_again 160 = .ok (.lreturn, 1) := by decide +kernel
theorem dX8_net_0 : decode cX8_net 0 = .ok (.aload_n 0, 1) := by decide +kernel
theorem dX8_net_1 : decode cX8_net 1 = .ok (.getfield 10, 3) := by decide +kernel
theorem dX8_net_4 : decode cX8_net 4 = .ok (.iload_n 1, 1) := by decide +kernel
theorem dX8_net_5 : decode cX8_net 5 = .ok (.invokevirtual 95, 3) := by decide +kernel
theorem dX8_net_8 : decode cX8_net 8 = .ok (.astore 4, 2) := by decide +kernel
theorem dX8_net_10 : decode cX8_net 10 = .ok (.aload 4, 2) := by decide +kernel
theorem dX8_net_12 : decode cX8_net 12 = .ok (.ifnull 19, 3) := by decide +kernel
theorem dX8_net_15 : decode cX8_net 15 = .ok (.iload_n 2, 1) := by decide +kernel
theorem dX8_net_16 : decode cX8_net 16 = .ok (.invokestatic 195, 3) := by decide +kernel
theorem dX8_net_19 : decode cX8_net 19 = .ok (.ifCond .eq 12, 3) := by decide +kernel
theorem dX8_net_22 : decode cX8_net 22 = .ok (.iload_n 3, 1) := by decide +kernel
theorem dX8_net_23 : decode cX8_net 23 = .ok (.iconst 0, 1) := by decide +kernel
theorem dX8_net_24 : decode cX8_net 24 = .ok (.iconst 1, 1) := by decide +kernel
theorem dX8_net_25 : decode cX8_net 25 = .ok (.invokestatic 71, 3) := by decide +kernel
theorem dX8_net_28 : decode cX8_net 28 = .ok (.ifCond .ne 9, 3) := by decide +kernel
theorem dX8_net_31 : decode cX8_net 31 = .ok (.aload_n 0, 1) := by decide +kernel
theorem dX8_net_32 : decode cX8_net 32 = .ok (.iconst 1, 1) := by decide +kernel
theorem dX8_net_33 : decode cX8_net 33 = .ok (.invokevirtual 63, 3) := by decide +kernel
theorem dX8_net_36 : decode cX8_net 36 = .ok (.ireturn, 1) := by decide +kernel
theorem dX8_net_37 : decode cX8_net 37 = .ok (.aload_n 0, 1) := by decide +kernel
theorem dX8_net_38 : decode cX8_net 38 = .ok (.getfield 24, 3) := by decide +kernel
theorem dX8_net_41 : decode cX8_net 41 = .ok (.aload 4, 2) := by decide +kernel
theorem dX8_net_43 : decode cX8_net 43 = .ok (.invokevirtual 174, 3) := by decide +kernel
theorem dX8_net_46 : decode cX8_net 46 = .ok (.aload_n 0, 1) := by decide +kernel
theorem dX8_net_47 : decode cX8_net 47 = .ok (.getfield 24, 3) := by decide +kernel
theorem dX8_net_50 : decode cX8_net 50 = .ok (.iload_n 2, 1) := by decide +kernel
theorem dX8_net_51 : decode cX8_net 51 = .ok (.invokevirtual 229, 3) := by decide +kernel
theorem dX8_net_54 : decode cX8_net 54 = .ok (.ifCond .ne 9, 3) := by decide +kernel
theorem dX8_net_57 : decode cX8_net 57 = .ok (.aload_n 0, 1) := by decide +kernel
theorem dX8_net_58 : decode cX8_net 58 = .ok (.iconst 2, 1) := by decide +kernel
theorem dX8_net_59 : decode cX8_net 59 = .ok (.invokevirtual 63, 3) := by decide +kernel
theorem dX8_net_62 : decode cX8_net 62 = .ok (.ireturn, 1) := by decide +kernel
theorem dX8_net_63 : decode cX8_net 63 = .ok (.aload_n 0, 1) := by decide +kernel
theorem dX8_net_64 : decode cX8_net 64 = .ok (.getfield 24, 3) := by decide +kernel
theorem dX8_net_67 : decode cX8_net 67 = .ok (.invokevirtual 232, 3) := by decide +kernel
theorem dX8_net_70 : decode cX8_net 70 = .ok (.istore 5, 2) := by decide +kernel
theorem dX8_net_72 : decode cX8_net 72 = .ok (.iload_n 3, 1) := by decide +kernel
theorem dX8_net_73 : decode cX8_net 73 = .ok (.ifCond .ne 8, 3) := by decide +kernel
theorem dX8_net_76 : decode cX8_net 76 = .ok (.iload 5, 2) := by decide +kernel
theorem dX8_net_78 : decode cX8_net 78 = .ok (.goto 12, 3) := by decide +kernel
theorem dX8_net_81 : decode cX8_net 81 = .ok (.aload_n 0, 1) := by decide +kernel
theorem dX8_net_82 : decode cX8_net 82 = .ok (.getfield 24, 3) := by decide +kernel
theorem dX8_net_85 : decode cX8_net 85 = .ok (.iload 5, 2) := by decide +kernel
theorem dX8_net_87 : decode cX8_net 87 = .ok (.invokevirtual 235, 3) := by decide +kernel
theorem dX8_net_90 : decode cX8_net 90 = .ok (.ireturn, 1) := by decide +kernel
theorem dX8_phases_0 : decode cX8_phases 0 = .ok (.aload_n 0, 1) := by decide +kernel
theorem dX8_phases_1 : decode cX8_phases 1 = .ok (.getfield 10, 3) := by decide +kernel
theorem dX8_phases_4 : decode cX8_phases 4 = .ok (.iload_n 1, 1) := by decide +kernel
theorem dX8_phases_5 : decode cX8_phases 5 = .ok (.invokevirtual 95, 3) := by decide +kernel
theorem dX8_phases_8 : decode cX8_phases 8 = .ok (.astore 4, 2) := by decide +kernel
theorem dX8_phases_10 : decode cX8_phases 10 = .ok (.aload_n 0, 1) := by decide +kernel
theorem dX8_phases_11 : decode cX8_phases 11 = .ok (.iload_n 2, 1) := by decide +kernel
theorem dX8_phases_12 : decode cX8_phases 12 = .ok (.invokevirtual 238, 3) := by decide +kernel
theorem dX8_phases_15 : decode cX8_phases 15 = .ok (.astore 5, 2) := by decide +kernel
theorem dX8_phases_17 : decode cX8_phases 17 = .ok (.aload 4, 2) := by decide +kernel
theorem dX8_phases_19 : decode cX8_phases 19 = .ok (.ifnull 17, 3) := by decide +kernel
theorem dX8_phases_22 : decode cX8_phases 22 = .ok (.aload 5, 2) := by decide +kernel
theorem dX8_phases_24 : decode cX8_phases 24 = .ok (.ifnull 12, 3) := by decide +kernel
theorem dX8_phases_27 : decode cX8_phases 27 = .ok (.iload_n 3, 1) := by decide +kernel
theorem dX8_phases_28 : decode cX8_phases 28 = .ok (.iconst 0, 1) := by decide +kernel
theorem dX8_phases_29 : decode cX8_phases 29 = .ok (.iconst 1, 1) := by decide +kernel
theorem dX8_phases_30 : decode cX8_phases 30 = .ok (.invokestatic 71, 3) := by decide +kernel
theorem dX8_phases_33 : decode cX8_phases 33 = .ok (.ifCond .ne 9, 3) := by decide +kernel
theorem dX8_phases_36 : decode cX8_phases 36 = .ok (.aload_n 0, 1) := by decide +kernel
theorem dX8_phases_37 : decode cX8_phases 37 = .ok (.iconst 1, 1) := by decide +kernel
theorem dX8_phases_38 : decode cX8_phases 38 = .ok (.invokevirtual 63, 3) := by decide +kernel
theorem dX8_phases_41 : decode cX8_phases 41 = .ok (.ireturn, 1) := by decide +kernel
theorem dX8_phases_42 : decode cX8_phases 42 = .ok (.aload 5, 2) := by decide +kernel
theorem dX8_phases_44 : decode cX8_phases 44 = .ok (.invokevirtual 242, 3) := by decide +kernel
theorem dX8_phases_47 : decode cX8_phases 47 = .ok (.ifCond .eq 9, 3) := by decide +kernel
theorem dX8_phases_50 : decode cX8_phases 50 = .ok (.aload_n 0, 1) := by decide +kernel
theorem dX8_phases_51 : decode cX8_phases 51 = .ok (.iconst 2, 1) := by decide +kernel
theorem dX8_phases_52 : decode cX8_phases 52 = .ok (.invokevirtual 63, 3) := by decide +kernel
theorem dX8_phases_55 : decode cX8_phases 55 = .ok (.ireturn, 1) := by decide +kernel
theorem dX8_phases_56 : decode cX8_phases 56 = .ok (.aload_n 0, 1) := by decide +kernel
theorem dX8_phases_57 : decode cX8_phases 57 = .ok (.getfield 24, 3) := by decide +kernel
theorem dX8_phases_60 : decode cX8_phases 60 = .ok (.aload 4, 2) := by decide +kernel
theorem dX8_phases_62 : decode cX8_phases 62 = .ok (.invokevirtual 174, 3) := by decide +kernel
theorem dX8_phases_65 : decode cX8_phases 65 = .ok (.aload_n 0, 1) := by decide +kernel
theorem dX8_phases_66 : decode cX8_phases 66 = .ok (.getfield 24, 3) := by decide +kernel
theorem dX8_phases_69 : decode cX8_phases 69 = .ok (.aload 5, 2) := by decide +kernel
theorem dX8_phases_71 : decode cX8_phases 71 = .ok (.iconst 0, 1) := by decide +kernel
theorem dX8_phases_72 : decode cX8_phases 72 = .ok (.invokevirtual 246, 3) := by decide +kernel
theorem dX8_phases_75 : decode cX8_phases 75 = .ok (.istore 6, 2) := by decide +kernel
theorem dX8_phases_77 : decode cX8_phases 77 = .ok (.iload_n 3, 1) := by decide +kernel
theorem dX8_phases_78 : decode cX8_phases 78 = .ok (.ifCond .eq 8, 3) := by decide +kernel
theorem dX8_phases_81 : decode cX8_phases 81 = .ok (.iload 6, 2) := by decide +kernel
theorem dX8_phases_83 : decode cX8_phases 83 = .ok (.ifCond .ge 12, 3) := by decide +kernel
theorem dX8_phases_86 : decode cX8_phases 86 = .ok (.aload_n 0, 1) := by decide +kernel
theorem dX8_phases_87 : decode cX8_phases 87 = .ok (.iload 6, 2) := by decide +kernel
theorem dX8_phases_89 : decode cX8_phases 89 = .ok (.invokevirtual 204, 3) := by decide +kernel
theorem dX8_phases_92 : decode cX8_phases 92 = .ok (.goto 12, 3) := by decide +kernel
theorem dX8_phases_95 : decode cX8_phases 95 = .ok (.aload_n 0, 1) := by decide +kernel
theorem dX8_phases_96 : decode cX8_phases 96 = .ok (.getfield 24, 3) := by decide +kernel
theorem dX8_phases_99 : decode cX8_phases 99 = .ok (.aload 5, 2) := by decide +kernel
theorem dX8_phases_101 : decode cX8_phases 101 = .ok (.invokevirtual 250, 3) := by decide +kernel
theorem dX8_phases_104 : decode cX8_phases 104 = .ok (.ireturn, 1) := by decide +kernel
theorem dX8_late_0 : decode cX8_late 0 = .ok (.aload_n 0, 1) := by decide +kernel
theorem dX8_late_1 : decode cX8_late 1 = .ok (.getfield 10, 3) := by decide +kernel
theorem dX8_late_4 : decode cX8_late 4 = .ok (.iload_n 1, 1) := by decide +kernel
theorem dX8_late_5 : decode cX8_late 5 = .ok (.invokevirtual 95, 3) := by decide +kernel
theorem dX8_late_8 : decode cX8_late 8 = .ok (.astore_n 3, 1) := by decide +kernel
theorem dX8_late_9 : decode cX8_late 9 = .ok (.aload_n 0, 1) := by decide +kernel
theorem dX8_late_10 : decode cX8_late 10 = .ok (.iload_n 2, 1) := by decide +kernel
theorem dX8_late_11 : decode cX8_late 11 = .ok (.invokevirtual 238, 3) := by decide +kernel
theorem dX8_late_14 : decode cX8_late 14 = .ok (.astore 4, 2) := by decide +kernel
theorem dX8_late_16 : decode cX8_late 16 = .ok (.aload_n 3, 1) := by decide +kernel
theorem dX8_late_17 : decode cX8_late 17 = .ok (.ifnull 8, 3) := by decide +kernel
theorem dX8_late_20 : decode cX8_late 20 = .ok (.aload 4, 2) := by decide +kernel
theorem dX8_late_22 : decode cX8_late 22 = .ok (.ifnonnull 9, 3) := by decide +kernel
theorem dX8_late_25 : decode cX8_late 25 = .ok (.aload_n 0, 1) := by decide +kernel
theorem dX8_late_26 : decode cX8_late 26 = .ok (.iconst 1, 1) := by decide +kernel
theorem dX8_late_27 : decode cX8_late 27 = .ok (.invokevirtual 63, 3) := by decide +kernel
theorem dX8_late_30 : decode cX8_late 30 = .ok (.ireturn, 1) := by decide +kernel
theorem dX8_late_31 : decode cX8_late 31 = .ok (.aload 4, 2) := by decide +kernel
theorem dX8_late_33 : decode cX8_late 33 = .ok (.invokevirtual 242, 3) := by decide +kernel
theorem dX8_late_36 : decode cX8_late 36 = .ok (.ifCond .eq 9, 3) := by decide +kernel
theorem dX8_late_39 : decode cX8_late 39 = .ok (.aload_n 0, 1) := by decide +kernel
theorem dX8_late_40 : decode cX8_late 40 = .ok (.iconst 2, 1) := by decide +kernel
theorem dX8_late_41 : decode cX8_late 41 = .ok (.invokevirtual 63, 3) := by decide +kernel
theorem dX8_late_44 : decode cX8_late 44 = .ok (.ireturn, 1) := by decide +kernel
theorem dX8_late_45 : decode cX8_late 45 = .ok (.aload_n 0, 1) := by decide +kernel
theorem dX8_late_46 : decode cX8_late 46 = .ok (.getfield 24, 3) := by decide +kernel
theorem dX8_late_49 : decode cX8_late 49 = .ok (.aload_n 3, 1) := by decide +kernel
theorem dX8_late_50 : decode cX8_late 50 = .ok (.invokevirtual 174, 3) := by decide +kernel
theorem dX8_late_53 : decode cX8_late 53 = .ok (.aload_n 0, 1) := by decide +kernel
theorem dX8_late_54 : decode cX8_late 54 = .ok (.aload_n 0, 1) := by decide +kernel
theorem dX8_late_55 : decode cX8_late 55 = .ok (.getfield 24, 3) := by decide +kernel
theorem dX8_late_58 : decode cX8_late 58 = .ok (.aload 4, 2) := by decide +kernel
theorem dX8_late_60 : decode cX8_late 60 = .ok (.invokevirtual 254, 3) := by decide +kernel
theorem dX8_late_63 : decode cX8_late 63 = .ok (.invokevirtual 204, 3) := by decide +kernel
theorem dX8_late_66 : decode cX8_late 66 = .ok (.ireturn, 1) := by decide +kernel
theorem dX8_seed_0 : decode cX8_seed 0 = .ok (.aload_n 0, 1) := by decide +kernel
theorem dX8_seed_1 : decode cX8_seed 1 = .ok (.getfield 10, 3) := by decide +kernel
theorem dX8_seed_4 : decode cX8_seed 4 = .ok (.getfield 257, 3) := by decide +kernel
theorem dX8_seed_7 : decode cX8_seed 7 = .ok (.istore_n 2, 1) := by decide +kernel
theorem dX8_seed_8 : decode cX8_seed 8 = .ok (.aload_n 0, 1) := by decide +kernel
theorem dX8_seed_9 : decode cX8_seed 9 = .ok (.getfield 10, 3) := by decide +kernel
theorem dX8_seed_12 : decode cX8_seed 12 = .ok (.iload_n 1, 1) := by decide +kernel
theorem dX8_seed_13 : decode cX8_seed 13 = .ok (.putfield 257, 3) := by decide +kernel
theorem dX8_seed_16 : decode cX8_seed 16 = .ok (.iload_n 2, 1) := by decide +kernel
theorem dX8_seed_17 : decode cX8_seed 17 = .ok (.ireturn, 1) := by decide +kernel
theorem dX8_voice_0 : decode cX8_voice 0 = .ok (.aload_n 0, 1) := by decide +kernel
theorem dX8_voice_1 : decode cX8_voice 1 = .ok (.getfield 10, 3) := by decide +kernel
theorem dX8_voice_4 : decode cX8_voice 4 = .ok (.iload_n 1, 1) := by decide +kernel
theorem dX8_voice_5 : decode cX8_voice 5 = .ok (.invokevirtual 95, 3) := by decide +kernel
theorem dX8_voice_8 : decode cX8_voice 8 = .ok (.astore 4, 2) := by decide +kernel
theorem dX8_voice_10 : decode cX8_voice 10 = .ok (.aload 4, 2) := by decide +kernel
theorem dX8_voice_12 : decode cX8_voice 12 = .ok (.ifnull 12, 3) := by decide +kernel
theorem dX8_voice_15 : decode cX8_voice 15 = .ok (.iload_n 2, 1) := by decide +kernel
theorem dX8_voice_16 : decode cX8_voice 16 = .ok (.iconst 0, 1) := by decide +kernel
theorem dX8_voice_17 : decode cX8_voice 17 = .ok (.iconst 3, 1) := by decide +kernel
theorem dX8_voice_18 : decode cX8_voice 18 = .ok (.invokestatic 71, 3) := by decide +kernel
theorem dX8_voice_21 : decode cX8_voice 21 = .ok (.ifCond .ne 9, 3) := by decide +kernel
theorem dX8_voice_24 : decode cX8_voice 24 = .ok (.aload_n 0, 1) := by decide +kernel
theorem dX8_voice_25 : decode cX8_voice 25 = .ok (.iconst 1, 1) := by decide +kernel
theorem dX8_voice_26 : decode cX8_voice 26 = .ok (.invokevirtual 63, 3) := by decide +kernel
theorem dX8_voice_29 : decode cX8_voice 29 = .ok (.ireturn, 1) := by decide +kernel
theorem dX8_voice_30 : decode cX8_voice 30 = .ok (.aload_n 0, 1) := by decide +kernel
theorem dX8_voice_31 : decode cX8_voice 31 = .ok (.getfield 38, 3) := by decide +kernel
theorem dX8_voice_34 : decode cX8_voice 34 = .ok (.iload_n 1, 1) := by decide +kernel
theorem dX8_voice_35 : decode cX8_voice 35 = .ok (.aload 4, 2) := by decide +kernel
theorem dX8_voice_37 : decode cX8_voice 37 = .ok (.iload_n 2, 1) := by decide +kernel
theorem dX8_voice_38 : decode cX8_voice 38 = .ok (.iload_n 3, 1) := by decide +kernel
theorem dX8_voice_39 : decode cX8_voice 39 = .ok (.invokevirtual 260, 3) := by decide +kernel
theorem dX8_voice_42 : decode cX8_voice 42 = .ok (.ireturn, 1) := by decide +kernel
theorem dX8_trace_0 : decode cX8_trace 0 = .ok (.iload_n 1, 1) := by decide +kernel
theorem dX8_trace_1 : decode cX8_trace 1 = .ok (.iconst 0, 1) := by decide +kernel
theorem dX8_trace_2 : decode cX8_trace 2 = .ok (.aload_n 0, 1) := by decide +kernel
theorem dX8_trace_3 : decode cX8_trace 3 = .ok (.getfield 38, 3) := by decide +kernel
theorem dX8_trace_6 : decode cX8_trace 6 = .ok (.getfield 264, 3) := by decide +kernel
theorem dX8_trace_9 : decode cX8_trace 9 = .ok (.iconst 1, 1) := by decide +kernel
theorem dX8_trace_10 : decode cX8_trace 10 = .ok (.isub, 1) := by decide +kernel
theorem dX8_trace_11 : decode cX8_trace 11 = .ok (.invokestatic 71, 3) := by decide +kernel
theorem dX8_trace_14 : decode cX8_trace 14 = .ok (.ifCond .ne 9, 3) := by decide +kernel
theorem dX8_trace_17 : decode cX8_trace 17 = .ok (.aload_n 0, 1) := by decide +kernel
theorem dX8_trace_18 : decode cX8_trace 18 = .ok (.iconst 2, 1) := by decide +kernel
theorem dX8_trace_19 : decode cX8_trace 19 = .ok (.invokevirtual 63, 3) := by decide +kernel
theorem dX8_trace_22 : decode cX8_trace 22 = .ok (.ireturn, 1) := by decide +kernel
theorem dX8_trace_23 : decode cX8_trace 23 = .ok (.aload_n 0, 1) := by decide +kernel
theorem dX8_trace_24 : decode cX8_trace 24 = .ok (.getfield 38, 3) := by decide +kernel
theorem dX8_trace_27 : decode cX8_trace 27 = .ok (.iload_n 1, 1) := by decide +kernel
theorem dX8_trace_28 : decode cX8_trace 28 = .ok (.invokevirtual 267, 3) := by decide +kernel
theorem dX8_trace_31 : decode cX8_trace 31 = .ok (.ireturn, 1) := by decide +kernel
theorem dX8_sheet_0 : decode cX8_sheet 0 = .ok (.aload_n 0, 1) := by decide +kernel
theorem dX8_sheet_1 : decode cX8_sheet 1 = .ok (.iload_n 1, 1) := by decide +kernel
theorem dX8_sheet_2 : decode cX8_sheet 2 = .ok (.invokevirtual 238, 3) := by decide +kernel
theorem dX8_sheet_5 : decode cX8_sheet 5 = .ok (.astore 4, 2) := by decide +kernel
theorem dX8_sheet_7 : decode cX8_sheet 7 = .ok (.aload 4, 2) := by decide +kernel
theorem dX8_sheet_9 : decode cX8_sheet 9 = .ok (.ifnull 25, 3) := by decide +kernel
theorem dX8_sheet_12 : decode cX8_sheet 12 = .ok (.iload_n 2, 1) := by decide +kernel
theorem dX8_sheet_13 : decode cX8_sheet 13 = .ok (.ifCond .eq 27, 3) := by decide +kernel
theorem dX8_sheet_16 : decode cX8_sheet 16 = .ok (.iload_n 2, 1) := by decide +kernel
theorem dX8_sheet_17 : decode cX8_sheet 17 = .ok (.bipush 8, 2) := by decide +kernel
theorem dX8_sheet_19 : decode cX8_sheet 19 = .ok (.if_icmp .eq 21, 3) := by decide +kernel
theorem dX8_sheet_22 : decode cX8_sheet 22 = .ok (.iload_n 2, 1) := by decide +kernel
theorem dX8_sheet_23 : decode cX8_sheet 23 = .ok (.bipush 16, 2) := by decide +kernel
theorem dX8_sheet_25 : decode cX8_sheet 25 = .ok (.if_icmp .eq 15, 3) := by decide +kernel
theorem dX8_sheet_28 : decode cX8_sheet 28 = .ok (.iload_n 2, 1) := by decide +kernel
theorem dX8_sheet_29 : decode cX8_sheet 29 = .ok (.bipush 32, 2) := by decide +kernel
theorem dX8_sheet_31 : decode cX8_sheet 31 = .ok (.if_icmp .eq 9, 3) := by decide +kernel
theorem dX8_sheet_34 : decode cX8_sheet 34 = .ok (.aload_n 0, 1) := by decide +kernel
theorem dX8_sheet_35 : decode cX8_sheet 35 = .ok (.iconst 1, 1) := by decide +kernel
theorem dX8_sheet_36 : decode cX8_sheet 36 = .ok (.invokevirtual 63, 3) := by decide +kernel
theorem dX8_sheet_39 : decode cX8_sheet 39 = .ok (.ireturn, 1) := by decide +kernel
theorem dX8_sheet_40 : decode cX8_sheet 40 = .ok (.iload_n 2, 1) := by decide +kernel
theorem dX8_sheet_41 : decode cX8_sheet 41 = .ok (.ifCond .eq 13, 3) := by decide +kernel
theorem dX8_sheet_44 : decode cX8_sheet 44 = .ok (.iload_n 3, 1) := by decide +kernel
theorem dX8_sheet_45 : decode cX8_sheet 45 = .ok (.ifCond .ge 9, 3) := by decide +kernel
theorem dX8_sheet_48 : decode cX8_sheet 48 = .ok (.aload_n 0, 1) := by decide +kernel
theorem dX8_sheet_49 : decode cX8_sheet 49 = .ok (.iconst 3, 1) := by decide +kernel
theorem dX8_sheet_50 : decode cX8_sheet 50 = .ok (.invokevirtual 63, 3) := by decide +kernel
theorem dX8_sheet_53 : decode cX8_sheet 53 = .ok (.ireturn, 1) := by decide +kernel
theorem dX8_sheet_54 : decode cX8_sheet 54 = .ok (.iload_n 2, 1) := by decide +kernel
theorem dX8_sheet_55 : decode cX8_sheet 55 = .ok (.ifCond .eq 15, 3) := by decide +kernel
theorem dX8_sheet_58 : decode cX8_sheet 58 = .ok (.iload_n 3, 1) := by decide +kernel
theorem dX8_sheet_59 : decode cX8_sheet 59 = .ok (.bipush 40, 2) := by decide +kernel
theorem dX8_sheet_61 : decode cX8_sheet 61 = .ok (.if_icmp .le 9, 3) := by decide +kernel
theorem dX8_sheet_64 : decode cX8_sheet 64 = .ok (.aload_n 0, 1) := by decide +kernel
theorem dX8_sheet_65 : decode cX8_sheet 65 = .ok (.iconst 1, 1) := by decide +kernel
theorem dX8_sheet_66 : decode cX8_sheet 66 = .ok (.invokevirtual 63, 3) := by decide +kernel
theorem dX8_sheet_69 : decode cX8_sheet 69 = .ok (.ireturn, 1) := by decide +kernel
theorem dX8_sheet_70 : decode cX8_sheet 70 = .ok (.aload 4, 2) := by decide +kernel
theorem dX8_sheet_72 : decode cX8_sheet 72 = .ok (.iload_n 2, 1) := by decide +kernel
theorem dX8_sheet_73 : decode cX8_sheet 73 = .ok (.iload_n 3, 1) := by decide +kernel
theorem dX8_sheet_74 : decode cX8_sheet 74 = .ok (.invokevirtual 270, 3) := by decide +kernel
theorem dX8_sheet_77 : decode cX8_sheet 77 = .ok (.iconst 1, 1) := by decide +kernel
theorem dX8_sheet_78 : decode cX8_sheet 78 = .ok (.ireturn, 1) := by decide +kernel
theorem dX8_put_0 : decode cX8_put 0 = .ok (.aload_n 0, 1) := by decide +kernel
theorem dX8_put_1 : decode cX8_put 1 = .ok (.iload_n 1, 1) := by decide +kernel
theorem dX8_put_2 : decode cX8_put 2 = .ok (.invokevirtual 238, 3) := by decide +kernel
theorem dX8_put_5 : decode cX8_put 5 = .ok (.astore 4, 2) := by decide +kernel
theorem dX8_put_7 : decode cX8_put 7 = .ok (.aload 4, 2) := by decide +kernel
theorem dX8_put_9 : decode cX8_put 9 = .ok (.ifnonnull 9, 3) := by decide +kernel
theorem dX8_put_12 : decode cX8_put 12 = .ok (.aload_n 0, 1) := by decide +kernel
theorem dX8_put_13 : decode cX8_put 13 = .ok (.iconst 1, 1) := by decide +kernel
theorem dX8_put_14 : decode cX8_put 14 = .ok (.invokevirtual 63, 3) := by decide +kernel
theorem dX8_put_17 : decode cX8_put 17 = .ok (.ireturn, 1) := by decide +kernel
theorem dX8_put_18 : decode cX8_put 18 = .ok (.aload 4, 2) := by decide +kernel
theorem dX8_put_20 : decode cX8_put 20 = .ok (.invokevirtual 242, 3) := by decide +kernel
theorem dX8_put_23 : decode cX8_put 23 = .ok (.ifCond .eq 9, 3) := by decide +kernel
theorem dX8_put_26 : decode cX8_put 26 = .ok (.aload_n 0, 1) := by decide +kernel
theorem dX8_put_27 : decode cX8_put 27 = .ok (.iconst 2, 1) := by decide +kernel
theorem dX8_put_28 : decode cX8_put 28 = .ok (.invokevirtual 63, 3) := by decide +kernel
theorem dX8_put_31 : decode cX8_put 31 = .ok (.ireturn, 1) := by decide +kernel
theorem dX8_put_32 : decode cX8_put 32 = .ok (.iload_n 2, 1) := by decide +kernel
theorem dX8_put_33 : decode cX8_put 33 = .ok (.iconst 0, 1) := by decide +kernel
theorem dX8_put_34 : decode cX8_put 34 = .ok (.aload 4, 2) := by decide +kernel
theorem dX8_put_36 : decode cX8_put 36 = .ok (.getfield 272, 3) := by decide +kernel
theorem dX8_put_39 : decode cX8_put 39 = .ok (.iconst 1, 1) := by decide +kernel
theorem dX8_put_40 : decode cX8_put 40 = .ok (.isub, 1) := by decide +kernel
theorem dX8_put_41 : decode cX8_put 41 = .ok (.invokestatic 71, 3) := by decide +kernel
theorem dX8_put_44 : decode cX8_put 44 = .ok (.ifCond .ne 9, 3) := by decide +kernel
theorem dX8_put_47 : decode cX8_put 47 = .ok (.aload_n 0, 1) := by decide +kernel
theorem dX8_put_48 : decode cX8_put 48 = .ok (.iconst 1, 1) := by decide +kernel
theorem dX8_put_49 : decode cX8_put 49 = .ok (.invokevirtual 63, 3) := by decide +kernel
theorem dX8_put_52 : decode cX8_put 52 = .ok (.ireturn, 1) := by decide +kernel
theorem dX8_put_53 : decode cX8_put 53 = .ok (.aload 4, 2) := by decide +kernel
theorem dX8_put_55 : decode cX8_put 55 = .ok (.iload_n 2, 1) := by decide +kernel
theorem dX8_put_56 : decode cX8_put 56 = .ok (.iload_n 3, 1) := by decide +kernel
theorem dX8_put_57 : decode cX8_put 57 = .ok (.invokevirtual 275, 3) := by decide +kernel
theorem dX8_put_60 : decode cX8_put 60 = .ok (.iconst 1, 1) := by decide +kernel
theorem dX8_put_61 : decode cX8_put 61 = .ok (.ireturn, 1) := by decide +kernel
theorem dX8_move_0 : decode cX8_move 0 = .ok (.aload_n 0, 1) := by decide +kernel
theorem dX8_move_1 : decode cX8_move 1 = .ok (.iload_n 1, 1) := by decide +kernel
theorem dX8_move_2 : decode cX8_move 2 = .ok (.invokevirtual 238, 3) := by decide +kernel
theorem dX8_move_5 : decode cX8_move 5 = .ok (.astore 6, 2) := by decide +kernel
theorem dX8_move_7 : decode cX8_move 7 = .ok (.aload_n 0, 1) := by decide +kernel
theorem dX8_move_8 : decode cX8_move 8 = .ok (.iload_n 3, 1) := by decide +kernel
theorem dX8_move_9 : decode cX8_move 9 = .ok (.invokevirtual 238, 3) := by decide +kernel
theorem dX8_move_12 : decode cX8_move 12 = .ok (.astore 7, 2) := by decide +kernel
theorem dX8_move_14 : decode cX8_move 14 = .ok (.aload 6, 2) := by decide +kernel
theorem dX8_move_16 : decode cX8_move 16 = .ok (.ifnull 8, 3) := by decide +kernel
theorem dX8_move_19 : decode cX8_move 19 = .ok (.aload 7, 2) := by decide +kernel
theorem dX8_move_21 : decode cX8_move 21 = .ok (.ifnonnull 9, 3) := by decide +kernel
theorem dX8_move_24 : decode cX8_move 24 = .ok (.aload_n 0, 1) := by decide +kernel
theorem dX8_move_25 : decode cX8_move 25 = .ok (.iconst 1, 1) := by decide +kernel
theorem dX8_move_26 : decode cX8_move 26 = .ok (.invokevirtual 63, 3) := by decide +kernel
theorem dX8_move_29 : decode cX8_move 29 = .ok (.ireturn, 1) := by decide +kernel
theorem dX8_move_30 : decode cX8_move 30 = .ok (.aload 6, 2) := by decide +kernel
theorem dX8_move_32 : decode cX8_move 32 = .ok (.invokevirtual 242, 3) := by decide +kernel
theorem dX8_move_35 : decode cX8_move 35 = .ok (.ifCond .ne 11, 3) := by decide +kernel
theorem dX8_move_38 : decode cX8_move 38 = .ok (.aload 7, 2) := by decide +kernel
theorem dX8_move_40 : decode cX8_move 40 = .ok (.invokevirtual 242, 3) := by decide +kernel
theorem dX8_move_43 : decode cX8_move 43 = .ok (.ifCond .eq 9, 3) := by decide +kernel
theorem dX8_move_46 : decode cX8_move 46 = .ok (.aload_n 0, 1) := by decide +kernel
theorem dX8_move_47 : decode cX8_move 47 = .ok (.iconst 2, 1) := by decide +kernel
theorem dX8_move_48 : decode cX8_move 48 = .ok (.invokevirtual 63, 3) := by decide +kernel
theorem dX8_move_51 : decode cX8_move 51 = .ok (.ireturn, 1) := by decide +kernel
theorem dX8_move_52 : decode cX8_move 52 = .ok (.aload 6, 2) := by decide +kernel
theorem dX8_move_54 : decode cX8_move 54 = .ok (.getfield 278, 3) := by decide +kernel
theorem dX8_move_57 : decode cX8_move 57 = .ok (.aload 7, 2) := by decide +kernel
theorem dX8_move_59 : decode cX8_move 59 = .ok (.getfield 278, 3) := by decide +kernel
theorem dX8_move_62 : decode cX8_move 62 = .ok (.if_icmp .eq 9, 3) := by decide +kernel
theorem dX8_move_65 : decode cX8_move 65 = .ok (.aload_n 0, 1) := by decide +kernel
theorem dX8_move_66 : decode cX8_move 66 = .ok (.iconst 5, 1) := by decide +kernel
theorem dX8_move_67 : decode cX8_move 67 = .ok (.invokevirtual 63, 3) := by decide +kernel
theorem dX8_move_70 : decode cX8_move 70 = .ok (.ireturn, 1) := by decide +kernel
theorem dX8_move_71 : decode cX8_move 71 = .ok (.aload 6, 2) := by decide +kernel
theorem dX8_move_73 : decode cX8_move 73 = .ok (.iload_n 2, 1) := by decide +kernel
theorem dX8_move_74 : decode cX8_move 74 = .ok (.iload 5, 2) := by decide +kernel
theorem dX8_move_76 : decode cX8_move 76 = .ok (.invokevirtual 281, 3) := by decide +kernel
theorem dX8_move_79 : decode cX8_move 79 = .ok (.ifCond .eq 15, 3) := by decide +kernel
theorem dX8_move_82 : decode cX8_move 82 = .ok (.aload 7, 2) := by decide +kernel
theorem dX8_move_84 : decode cX8_move 84 = .ok (.iload 4, 2) := by decide +kernel
theorem dX8_move_86 : decode cX8_move 86 = .ok (.iload 5, 2) := by decide +kernel
theorem dX8_move_88 : decode cX8_move 88 = .ok (.invokevirtual 281, 3) := by decide +kernel
theorem dX8_move_91 : decode cX8_move 91 = .ok (.ifCond .ne 9, 3) := by decide +kernel
theorem dX8_move_94 : decode cX8_move 94 = .ok (.aload_n 0, 1) := by decide +kernel
theorem dX8_move_95 : decode cX8_move 95 = .ok (.iconst 1, 1) := by decide +kernel
theorem dX8_move_96 : decode cX8_move 96 = .ok (.invokevirtual 63, 3) := by decide +kernel
theorem dX8_move_99 : decode cX8_move 99 = .ok (.ireturn, 1) := by decide +kernel
theorem dX8_move_100 : decode cX8_move 100 = .ok (.aload 6, 2) := by decide +kernel
theorem dX8_move_102 : decode cX8_move 102 = .ok (.getfield 284, 3) := by decide +kernel
theorem dX8_move_105 : decode cX8_move 105 = .ok (.iload_n 2, 1) := by decide +kernel
theorem dX8_move_106 : decode cX8_move 106 = .ok (.aload 7, 2) := by decide +kernel
theorem dX8_move_108 : decode cX8_move 108 = .ok (.getfield 284, 3) := by decide +kernel
theorem dX8_move_111 : decode cX8_move 111 = .ok (.iload 4, 2) := by decide +kernel
theorem dX8_move_113 : decode cX8_move 113 = .ok (.iload 5, 2) := by decide +kernel
theorem dX8_move_115 : decode cX8_move 115 = .ok (.invokestatic 287, 3) := by decide +kernel
theorem dX8_move_118 : decode cX8_move 118 = .ok (.iload 5, 2) := by decide +kernel
theorem dX8_move_120 : decode cX8_move 120 = .ok (.ireturn, 1) := by decide +kernel
theorem dX8_turns_0 : decode cX8_turns 0 = .ok (.aload_n 0, 1) := by decide +kernel
theorem dX8_turns_1 : decode cX8_turns 1 = .ok (.iload_n 1, 1) := by decide +kernel
theorem dX8_turns_2 : decode cX8_turns 2 = .ok (.invokevirtual 238, 3) := by decide +kernel
theorem dX8_turns_5 : decode cX8_turns 5 = .ok (.astore_n 2, 1) := by decide +kernel
theorem dX8_turns_6 : decode cX8_turns 6 = .ok (.aload_n 2, 1) := by decide +kernel
theorem dX8_turns_7 : decode cX8_turns 7 = .ok (.ifnonnull 9, 3) := by decide +kernel
theorem dX8_turns_10 : decode cX8_turns 10 = .ok (.aload_n 0, 1) := by decide +kernel
theorem dX8_turns_11 : decode cX8_turns 11 = .ok (.iconst 1, 1) := by decide +kernel
theorem dX8_turns_12 : decode cX8_turns 12 = .ok (.invokevirtual 63, 3) := by decide +kernel
theorem dX8_turns_15 : decode cX8_turns 15 = .ok (.ireturn, 1) := by decide +kernel
theorem dX8_turns_16 : decode cX8_turns 16 = .ok (.aload_n 2, 1) := by decide +kernel
theorem dX8_turns_17 : decode cX8_turns 17 = .ok (.invokevirtual 242, 3) := by decide +kernel
theorem dX8_turns_20 : decode cX8_turns 20 = .ok (.ifCond .eq 9, 3) := by decide +kernel
theorem dX8_turns_23 : decode cX8_turns 23 = .ok (.aload_n 0, 1) := by decide +kernel
theorem dX8_turns_24 : decode cX8_turns 24 = .ok (.iconst 2, 1) := by decide +kernel
theorem dX8_turns_25 : decode cX8_turns 25 = .ok (.invokevirtual 63, 3) := by decide +kernel
theorem dX8_turns_28 : decode cX8_turns 28 = .ok (.ireturn, 1) := by decide +kernel
theorem dX8_turns_29 : decode cX8_turns 29 = .ok (.iconst 0, 1) := by decide +kernel
theorem dX8_turns_30 : decode cX8_turns 30 = .ok (.istore_n 3, 1) := by decide +kernel
theorem dX8_turns_31 : decode cX8_turns 31 = .ok (.iload_n 3, 1) := by decide +kernel
theorem dX8_turns_32 : decode cX8_turns 32 = .ok (.aload_n 2, 1) := by decide +kernel
theorem dX8_turns_33 : decode cX8_turns 33 = .ok (.getfield 272, 3) := by decide +kernel
theorem dX8_turns_36 : decode cX8_turns 36 = .ok (.if_icmp .ge 49, 3) := by decide +kernel
theorem dX8_turns_39 : decode cX8_turns 39 = .ok (.aload_n 0, 1) := by decide +kernel
theorem dX8_turns_40 : decode cX8_turns 40 = .ok (.getfield 10, 3) := by decide +kernel
theorem dX8_turns_43 : decode cX8_turns 43 = .ok (.iload_n 3, 1) := by decide +kernel
theorem dX8_turns_44 : decode cX8_turns 44 = .ok (.invokevirtual 95, 3) := by decide +kernel
theorem dX8_turns_47 : decode cX8_turns 47 = .ok (.astore 4, 2) := by decide +kernel
theorem dX8_turns_49 : decode cX8_turns 49 = .ok (.aload 4, 2) := by decide +kernel
theorem dX8_turns_51 : decode cX8_turns 51 = .ok (.ifnull 16, 3) := by decide +kernel
theorem dX8_turns_54 : decode cX8_turns 54 = .ok (.aload_n 2, 1) := by decide +kernel
theorem dX8_turns_55 : decode cX8_turns 55 = .ok (.iload_n 3, 1) := by decide +kernel
theorem dX8_turns_56 : decode cX8_turns 56 = .ok (.invokevirtual 293, 3) := by decide +kernel
theorem dX8_turns_59 : decode cX8_turns 59 = .ok (.iconst 1, 1) := by decide +kernel
theorem dX8_turns_60 : decode cX8_turns 60 = .ok (.iconst 3, 1) := by decide +kernel
theorem dX8_turns_61 : decode cX8_turns 61 = .ok (.invokestatic 71, 3) := by decide +kernel
theorem dX8_turns_64 : decode cX8_turns 64 = .ok (.ifCond .ne 5, 3) := by decide +kernel
theorem dX8_turns_67 : decode cX8_turns 67 = .ok (.iload_n 3, 1) := by decide +kernel
theorem dX8_turns_68 : decode cX8_turns 68 = .ok (.ireturn, 1) := by decide +kernel
theorem dX8_turns_69 : decode cX8_turns 69 = .ok (.aload 4, 2) := by decide +kernel
theorem dX8_turns_71 : decode cX8_turns 71 = .ok (.aload_n 2, 1) := by decide +kernel
theorem dX8_turns_72 : decode cX8_turns 72 = .ok (.iload_n 3, 1) := by decide +kernel
theorem dX8_turns_73 : decode cX8_turns 73 = .ok (.invokevirtual 293, 3) := by decide +kernel
theorem dX8_turns_76 : decode cX8_turns 76 = .ok (.putfield 111, 3) := by decide +kernel
theorem dX8_turns_79 : decode cX8_turns 79 = .ok (.iinc 3 1, 3) := by decide +kernel
theorem dX8_turns_82 : decode cX8_turns 82 = .ok (.goto (-51), 3) := by decide +kernel
theorem dX8_turns_85 : decode cX8_turns 85 = .ok (.aload_n 2, 1) := by decide +kernel
theorem dX8_turns_86 : decode cX8_turns 86 = .ok (.getfield 272, 3) := by decide +kernel
theorem dX8_turns_89 : decode cX8_turns 89 = .ok (.ireturn, 1) := by decide +kernel
theorem dX8_judge_0 : decode cX8_judge 0 = .ok (.aload_n 0, 1) := by decide +kernel
theorem dX8_judge_1 : decode cX8_judge 1 = .ok (.iload_n 1, 1) := by decide +kernel
theorem dX8_judge_2 : decode cX8_judge 2 = .ok (.invokevirtual 238, 3) := by decide +kernel
theorem dX8_judge_5 : decode cX8_judge 5 = .ok (.astore_n 2, 1) := by decide +kernel
theorem dX8_judge_6 : decode cX8_judge 6 = .ok (.aload_n 2, 1) := by decide +kernel
theorem dX8_judge_7 : decode cX8_judge 7 = .ok (.ifnonnull 9, 3) := by decide +kernel
theorem dX8_judge_10 : decode cX8_judge 10 = .ok (.aload_n 0, 1) := by decide +kernel
theorem dX8_judge_11 : decode cX8_judge 11 = .ok (.iconst 1, 1) := by decide +kernel
theorem dX8_judge_12 : decode cX8_judge 12 = .ok (.invokevirtual 63, 3) := by decide +kernel
theorem dX8_judge_15 : decode cX8_judge 15 = .ok (.ireturn, 1) := by decide +kernel
theorem dX8_judge_16 : decode cX8_judge 16 = .ok (.aload_n 2, 1) := by decide +kernel
theorem dX8_judge_17 : decode cX8_judge 17 = .ok (.invokevirtual 242, 3) := by decide +kernel
theorem dX8_judge_20 : decode cX8_judge 20 = .ok (.ifCond .eq 9, 3) := by decide +kernel
theorem dX8_judge_23 : decode cX8_judge 23 = .ok (.aload_n 0, 1) := by decide +kernel
theorem dX8_judge_24 : decode cX8_judge 24 = .ok (.iconst 2, 1) := by decide +kernel
theorem dX8_judge_25 : decode cX8_judge 25 = .ok (.invokevirtual 63, 3) := by decide +kernel
theorem dX8_judge_28 : decode cX8_judge 28 = .ok (.ireturn, 1) := by decide +kernel
theorem dX8_judge_29 : decode cX8_judge 29 = .ok (.iconst 0, 1) := by decide +kernel
theorem dX8_judge_30 : decode cX8_judge 30 = .ok (.istore_n 3, 1) := by decide +kernel
theorem dX8_judge_31 : decode cX8_judge 31 = .ok (.iload_n 3, 1) := by decide +kernel
theorem dX8_judge_32 : decode cX8_judge 32 = .ok (.aload_n 2, 1) := by decide +kernel
theorem dX8_judge_33 : decode cX8_judge 33 = .ok (.getfield 272, 3) := by decide +kernel
theorem dX8_judge_36 : decode cX8_judge 36 = .ok (.if_icmp .ge 39, 3) := by decide +kernel
theorem dX8_judge_39 : decode cX8_judge 39 = .ok (.aload_n 0, 1) := by decide +kernel
theorem dX8_judge_40 : decode cX8_judge 40 = .ok (.getfield 10, 3) := by decide +kernel
theorem dX8_judge_43 : decode cX8_judge 43 = .ok (.iload_n 3, 1) := by decide +kernel
theorem dX8_judge_44 : decode cX8_judge 44 = .ok (.invokevirtual 95, 3) := by decide +kernel
theorem dX8_judge_47 : decode cX8_judge 47 = .ok (.astore 4, 2) := by decide +kernel
theorem dX8_judge_49 : decode cX8_judge 49 = .ok (.aload 4, 2) := by decide +kernel
theorem dX8_judge_51 : decode cX8_judge 51 = .ok (.ifnull 16, 3) := by decide +kernel
theorem dX8_judge_54 : decode cX8_judge 54 = .ok (.aload_n 2, 1) := by decide +kernel
theorem dX8_judge_55 : decode cX8_judge 55 = .ok (.iload_n 3, 1) := by decide +kernel
theorem dX8_judge_56 : decode cX8_judge 56 = .ok (.invokevirtual 293, 3) := by decide +kernel
theorem dX8_judge_59 : decode cX8_judge 59 = .ok (.aload 4, 2) := by decide +kernel
theorem dX8_judge_61 : decode cX8_judge 61 = .ok (.getfield 114, 3) := by decide +kernel
theorem dX8_judge_64 : decode cX8_judge 64 = .ok (.if_icmp .eq 5, 3) := by decide +kernel
theorem dX8_judge_67 : decode cX8_judge 67 = .ok (.iload_n 3, 1) := by decide +kernel
theorem dX8_judge_68 : decode cX8_judge 68 = .ok (.ireturn, 1) := by decide +kernel
theorem dX8_judge_69 : decode cX8_judge 69 = .ok (.iinc 3 1, 3) := by decide +kernel
theorem dX8_judge_72 : decode cX8_judge 72 = .ok (.goto (-41), 3) := by decide +kernel
theorem dX8_judge_75 : decode cX8_judge 75 = .ok (.aload_n 2, 1) := by decide +kernel
theorem dX8_judge_76 : decode cX8_judge 76 = .ok (.getfield 272, 3) := by decide +kernel
theorem dX8_judge_79 : decode cX8_judge 79 = .ok (.aload_n 0, 1) := by decide +kernel
theorem dX8_judge_80 : decode cX8_judge 80 = .ok (.getfield 10, 3) := by decide +kernel
theorem dX8_judge_83 : decode cX8_judge 83 = .ok (.getfield 92, 3) := by decide +kernel
theorem dX8_judge_86 : decode cX8_judge 86 = .ok (.if_icmp .ge 10, 3) := by decide +kernel
theorem dX8_judge_89 : decode cX8_judge 89 = .ok (.aload_n 2, 1) := by decide +kernel
theorem dX8_judge_90 : decode cX8_judge 90 = .ok (.getfield 272, 3) := by decide +kernel
theorem dX8_judge_93 : decode cX8_judge 93 = .ok (.goto 4, 3) := by decide +kernel
theorem dX8_judge_96 : decode cX8_judge 96 = .ok (.iconst (-1), 1) := by decide +kernel
theorem dX8_judge_97 : decode cX8_judge 97 = .ok (.ireturn, 1) := by decide +kernel
theorem dX8_image_0 : decode cX8_image 0 = .ok (.aload_n 0, 1) := by decide +kernel
theorem dX8_image_1 : decode cX8_image 1 = .ok (.getfield 16, 3) := by decide +kernel
theorem dX8_image_4 : decode cX8_image 4 = .ok (.aload_n 0, 1) := by decide +kernel
theorem dX8_image_5 : decode cX8_image 5 = .ok (.getfield 10, 3) := by decide +kernel
theorem dX8_image_8 : decode cX8_image 8 = .ok (.invokevirtual 296, 3) := by decide +kernel
theorem dX8_image_11 : decode cX8_image 11 = .ok (.aload_n 0, 1) := by decide +kernel
theorem dX8_image_12 : decode cX8_image 12 = .ok (.dup, 1) := by decide +kernel
theorem dX8_image_13 : decode cX8_image 13 = .ok (.getfield 299, 3) := by decide +kernel
theorem dX8_image_16 : decode cX8_image 16 = .ok (.iconst 1, 1) := by decide +kernel
theorem dX8_image_17 : decode cX8_image 17 = .ok (.iadd, 1) := by decide +kernel
theorem dX8_image_18 : decode cX8_image 18 = .ok (.putfield 299, 3) := by decide +kernel
theorem dX8_image_21 : decode cX8_image 21 = .ok (.aload_n 0, 1) := by decide +kernel
theorem dX8_image_22 : decode cX8_image 22 = .ok (.getfield 299, 3) := by decide +kernel
theorem dX8_image_25 : decode cX8_image 25 = .ok (.ireturn, 1) := by decide +kernel
theorem dX8_restore_0 : decode cX8_restore 0 = .ok (.aload_n 0, 1) := by decide +kernel
theorem dX8_restore_1 : decode cX8_restore 1 = .ok (.getfield 299, 3) := by decide +kernel
theorem dX8_restore_4 : decode cX8_restore 4 = .ok (.ifCond .ne 9, 3) := by decide +kernel
theorem dX8_restore_7 : decode cX8_restore 7 = .ok (.aload_n 0, 1) := by decide +kernel
theorem dX8_restore_8 : decode cX8_restore 8 = .ok (.iconst 2, 1) := by decide +kernel
theorem dX8_restore_9 : decode cX8_restore 9 = .ok (.invokevirtual 63, 3) := by decide +kernel
theorem dX8_restore_12 : decode cX8_restore 12 = .ok (.ireturn, 1) := by decide +kernel
theorem dX8_restore_13 : decode cX8_restore 13 = .ok (.aload_n 0, 1) := by decide +kernel
theorem dX8_restore_14 : decode cX8_restore 14 = .ok (.getfield 10, 3) := by decide +kernel
theorem dX8_restore_17 : decode cX8_restore 17 = .ok (.aload_n 0, 1) := by decide +kernel
theorem dX8_restore_18 : decode cX8_restore 18 = .ok (.getfield 16, 3) := by decide +kernel
theorem dX8_restore_21 : decode cX8_restore 21 = .ok (.invokevirtual 296, 3) := by decide +kernel
theorem dX8_restore_24 : decode cX8_restore 24 = .ok (.aload_n 0, 1) := by decide +kernel
theorem dX8_restore_25 : decode cX8_restore 25 = .ok (.getfield 10, 3) := by decide +kernel
theorem dX8_restore_28 : decode cX8_restore 28 = .ok (.getfield 161, 3) := by decide +kernel
theorem dX8_restore_31 : decode cX8_restore 31 = .ok (.ireturn, 1) := by decide +kernel
theorem dX8_tell_0 : decode cX8_tell 0 = .ok (.aload_n 0, 1) := by decide +kernel
theorem dX8_tell_1 : decode cX8_tell 1 = .ok (.getfield 10, 3) := by decide +kernel
theorem dX8_tell_4 : decode cX8_tell 4 = .ok (.getfield 302, 3) := by decide +kernel
theorem dX8_tell_7 : decode cX8_tell 7 = .ok (.bipush 20, 2) := by decide +kernel
theorem dX8_tell_9 : decode cX8_tell 9 = .ok (.if_icmp .lt 9, 3) := by decide +kernel
theorem dX8_tell_12 : decode cX8_tell 12 = .ok (.aload_n 0, 1) := by decide +kernel
theorem dX8_tell_13 : decode cX8_tell 13 = .ok (.iconst 4, 1) := by decide +kernel
theorem dX8_tell_14 : decode cX8_tell 14 = .ok (.invokevirtual 63, 3) := by decide +kernel
theorem dX8_tell_17 : decode cX8_tell 17 = .ok (.ireturn, 1) := by decide +kernel
theorem dX8_tell_18 : decode cX8_tell 18 = .ok (.aload_n 0, 1) := by decide +kernel
theorem dX8_tell_19 : decode cX8_tell 19 = .ok (.getfield 10, 3) := by decide +kernel
theorem dX8_tell_22 : decode cX8_tell 22 = .ok (.iload_n 1, 1) := by decide +kernel
theorem dX8_tell_23 : decode cX8_tell 23 = .ok (.invokevirtual 305, 3) := by decide +kernel
theorem dX8_tell_26 : decode cX8_tell 26 = .ok (.aload_n 0, 1) := by decide +kernel
theorem dX8_tell_27 : decode cX8_tell 27 = .ok (.getfield 10, 3) := by decide +kernel
theorem dX8_tell_30 : decode cX8_tell 30 = .ok (.getfield 302, 3) := by decide +kernel
theorem dX8_tell_33 : decode cX8_tell 33 = .ok (.ireturn, 1) := by decide +kernel
theorem dX8_check_0 : decode cX8_check 0 = .ok (.aload_n 0, 1) := by decide +kernel
theorem dX8_check_1 : decode cX8_check 1 = .ok (.getfield 10, 3) := by decide +kernel
theorem dX8_check_4 : decode cX8_check 4 = .ok (.getfield 302, 3) := by decide +kernel
theorem dX8_check_7 : decode cX8_check 7 = .ok (.istore_n 1, 1) := by decide +kernel
theorem dX8_check_8 : decode cX8_check 8 = .ok (.aload_n 0, 1) := by decide +kernel
theorem dX8_check_9 : decode cX8_check 9 = .ok (.getfield 10, 3) := by decide +kernel
theorem dX8_check_12 : decode cX8_check 12 = .ok (.iconst 0, 1) := by decide +kernel
theorem dX8_check_13 : decode cX8_check 13 = .ok (.putfield 302, 3) := by decide +kernel
theorem dX8_check_16 : decode cX8_check 16 = .ok (.iconst 0, 1) := by decide +kernel
theorem dX8_check_17 : decode cX8_check 17 = .ok (.istore_n 2, 1) := by decide +kernel
theorem dX8_check_18 : decode cX8_check 18 = .ok (.iload_n 2, 1) := by decide +kernel
theorem dX8_check_19 : decode cX8_check 19 = .ok (.iload_n 1, 1) := by decide +kernel
theorem dX8_check_20 : decode cX8_check 20 = .ok (.if_icmp .ge 50, 3) := by decide +kernel
theorem dX8_check_23 : decode cX8_check 23 = .ok (.iload_n 2, 1) := by decide +kernel
theorem dX8_check_24 : decode cX8_check 24 = .ok (.bipush 20, 2) := by decide +kernel
theorem dX8_check_26 : decode cX8_check 26 = .ok (.if_icmp .ge 44, 3) := by decide +kernel
theorem dX8_check_29 : decode cX8_check 29 = .ok (.aload_n 0, 1) := by decide +kernel
theorem dX8_check_30 : decode cX8_check 30 = .ok (.getfield 10, 3) := by decide +kernel
theorem dX8_check_33 : decode cX8_check 33 = .ok (.getfield 308, 3) := by decide +kernel
theorem dX8_check_36 : decode cX8_check 36 = .ok (.iload_n 2, 1) := by decide +kernel
theorem dX8_check_37 : decode cX8_check 37 = .ok (.iaload, 1) := by decide +kernel
theorem dX8_check_38 : decode cX8_check 38 = .ok (.aload_n 0, 1) := by decide +kernel
theorem dX8_check_39 : decode cX8_check 39 = .ok (.getfield 10, 3) := by decide +kernel
theorem dX8_check_42 : decode cX8_check 42 = .ok (.getfield 311, 3) := by decide +kernel
theorem dX8_check_45 : decode cX8_check 45 = .ok (.aload_n 0, 1) := by decide +kernel
theorem dX8_check_46 : decode cX8_check 46 = .ok (.getfield 10, 3) := by decide +kernel
theorem dX8_check_49 : decode cX8_check 49 = .ok (.getfield 161, 3) := by decide +kernel
theorem dX8_check_52 : decode cX8_check 52 = .ok (.iload_n 2, 1) := by decide +kernel
theorem dX8_check_53 : decode cX8_check 53 = .ok (.iadd, 1) := by decide +kernel
theorem dX8_check_54 : decode cX8_check 54 = .ok (.invokevirtual 75, 3) := by decide +kernel
theorem dX8_check_57 : decode cX8_check 57 = .ok (.if_icmp .eq 7, 3) := by decide +kernel
theorem dX8_check_60 : decode cX8_check 60 = .ok (.iconst 1, 1) := by decide +kernel
theorem dX8_check_61 : decode cX8_check 61 = .ok (.iload_n 2, 1) := by decide +kernel
theorem dX8_check_62 : decode cX8_check 62 = .ok (.iadd, 1) := by decide +kernel
theorem dX8_check_63 : decode cX8_check 63 = .ok (.ireturn, 1) := by decide +kernel
theorem dX8_check_64 : decode cX8_check 64 = .ok (.iinc 2 1, 3) := by decide +kernel
theorem dX8_check_67 : decode cX8_check 67 = .ok (.goto (-49), 3) := by decide +kernel
theorem dX8_check_70 : decode cX8_check 70 = .ok (.iconst 0, 1) := by decide +kernel
theorem dX8_check_71 : decode cX8_check 71 = .ok (.ireturn, 1) := by decide +kernel
theorem dX8_count_0 : decode cX8_count 0 = .ok (.iload_n 1, 1) := by decide +kernel
theorem dX8_count_1 : decode cX8_count 1 = .ok (.tableswitch 159 0 11 #[63, 71, 79, 87, 95, 103, 111, 119, 127, 135, 143, 151], 63) := by decide +kernel
theorem dX8_count_64 : decode cX8_count 64 = .ok (.aload_n 0, 1) := by decide +kernel
theorem dX8_count_65 : decode cX8_count 65 = .ok (.getfield 10, 3) := by decide +kernel
theorem dX8_count_68 : decode cX8_count 68 = .ok (.getfield 92, 3) := by decide +kernel
theorem dX8_count_71 : decode cX8_count 71 = .ok (.ireturn, 1) := by decide +kernel
theorem dX8_count_72 : decode cX8_count 72 = .ok (.aload_n 0, 1) := by decide +kernel
theorem dX8_count_73 : decode cX8_count 73 = .ok (.getfield 10, 3) := by decide +kernel
theorem dX8_count_76 : decode cX8_count 76 = .ok (.getfield 161, 3) := by decide +kernel
theorem dX8_count_79 : decode cX8_count 79 = .ok (.ireturn, 1) := by decide +kernel
theorem dX8_count_80 : decode cX8_count 80 = .ok (.aload_n 0, 1) := by decide +kernel
theorem dX8_count_81 : decode cX8_count 81 = .ok (.getfield 10, 3) := by decide +kernel
theorem dX8_count_84 : decode cX8_count 84 = .ok (.getfield 171, 3) := by decide +kernel
theorem dX8_count_87 : decode cX8_count 87 = .ok (.ireturn, 1) := by decide +kernel
theorem dX8_count_88 : decode cX8_count 88 = .ok (.aload_n 0, 1) := by decide +kernel
theorem dX8_count_89 : decode cX8_count 89 = .ok (.getfield 10, 3) := by decide +kernel
theorem dX8_count_92 : decode cX8_count 92 = .ok (.getfield 315, 3) := by decide +kernel
theorem dX8_count_95 : decode cX8_count 95 = .ok (.ireturn, 1) := by decide +kernel
theorem dX8_count_96 : decode cX8_count 96 = .ok (.aload_n 0, 1) := by decide +kernel
theorem dX8_count_97 : decode cX8_count 97 = .ok (.getfield 10, 3) := by decide +kernel
theorem dX8_count_100 : decode cX8_count 100 = .ok (.getfield 318, 3) := by decide +kernel
theorem dX8_count_103 : decode cX8_count 103 = .ok (.ireturn, 1) := by decide +kernel
theorem dX8_count_104 : decode cX8_count 104 = .ok (.aload_n 0, 1) := by decide +kernel
theorem dX8_count_105 : decode cX8_count 105 = .ok (.getfield 10, 3) := by decide +kernel
theorem dX8_count_108 : decode cX8_count 108 = .ok (.getfield 78, 3) := by decide +kernel
theorem dX8_count_111 : decode cX8_count 111 = .ok (.ireturn, 1) := by decide +kernel
theorem dX8_count_112 : decode cX8_count 112 = .ok (.aload_n 0, 1) := by decide +kernel
theorem dX8_count_113 : decode cX8_count 113 = .ok (.getfield 10, 3) := by decide +kernel
theorem dX8_count_116 : decode cX8_count 116 = .ok (.getfield 82, 3) := by decide +kernel
theorem dX8_count_119 : decode cX8_count 119 = .ok (.ireturn, 1) := by decide +kernel
theorem dX8_count_120 : decode cX8_count 120 = .ok (.aload_n 0, 1) := by decide +kernel
theorem dX8_count_121 : decode cX8_count 121 = .ok (.getfield 10, 3) := by decide +kernel
theorem dX8_count_124 : decode cX8_count 124 = .ok (.getfield 85, 3) := by decide +kernel
theorem dX8_count_127 : decode cX8_count 127 = .ok (.ireturn, 1) := by decide +kernel
theorem dX8_count_128 : decode cX8_count 128 = .ok (.aload_n 0, 1) := by decide +kernel
theorem dX8_count_129 : decode cX8_count 129 = .ok (.getfield 10, 3) := by decide +kernel
theorem dX8_count_132 : decode cX8_count 132 = .ok (.getfield 133, 3) := by decide +kernel
theorem dX8_count_135 : decode cX8_count 135 = .ok (.ireturn, 1) := by decide +kernel
theorem dX8_count_136 : decode cX8_count 136 = .ok (.aload_n 0, 1) := by decide +kernel
theorem dX8_count_137 : decode cX8_count 137 = .ok (.getfield 10, 3) := by decide +kernel
theorem dX8_count_140 : decode cX8_count 140 = .ok (.getfield 302, 3) := by decide +kernel
theorem dX8_count_143 : decode cX8_count 143 = .ok (.ireturn, 1) := by decide +kernel
theorem dX8_count_144 : decode cX8_count 144 = .ok (.aload_n 0, 1) := by decide +kernel
theorem dX8_count_145 : decode cX8_count 145 = .ok (.getfield 38, 3) := by decide +kernel
theorem dX8_count_148 : decode cX8_count 148 = .ok (.getfield 264, 3) := by decide +kernel
theorem dX8_count_151 : decode cX8_count 151 = .ok (.ireturn, 1) := by decide +kernel
theorem dX8_count_152 : decode cX8_count 152 = .ok (.aload_n 0, 1) := by decide +kernel
theorem dX8_count_153 : decode cX8_count 153 = .ok (.getfield 10, 3) := by decide +kernel
theorem dX8_count_156 : decode cX8_count 156 = .ok (.getfield 257, 3) := by decide +kernel
theorem dX8_count_159 : decode cX8_count 159 = .ok (.ireturn, 1) := by decide +kernel
theorem dX8_count_160 : decode cX8_count 160 = .ok (.aload_n 0, 1) := by decide +kernel
theorem dX8_count_161 : decode cX8_count 161 = .ok (.iconst 1, 1) := by decide +kernel
theorem dX8_count_162 : decode cX8_count 162 = .ok (.invokevirtual 63, 3) := by decide +kernel
theorem dX8_count_165 : decode cX8_count 165 = .ok (.ireturn, 1) := by decide +kernel
theorem dX8_told_0 : decode cX8_told 0 = .ok (.iload_n 1, 1) := by decide +kernel
theorem dX8_told_1 : decode cX8_told 1 = .ok (.iconst 1, 1) := by decide +kernel
theorem dX8_told_2 : decode cX8_told 2 = .ok (.iconst 5, 1) := by decide +kernel
theorem dX8_told_3 : decode cX8_told 3 = .ok (.invokestatic 71, 3) := by decide +kernel
theorem dX8_told_6 : decode cX8_told 6 = .ok (.ifCond .ne 9, 3) := by decide +kernel
theorem dX8_told_9 : decode cX8_told 9 = .ok (.aload_n 0, 1) := by decide +kernel
theorem dX8_told_10 : decode cX8_told 10 = .ok (.iconst 1, 1) := by decide +kernel
theorem dX8_told_11 : decode cX8_told 11 = .ok (.invokevirtual 63, 3) := by decide +kernel
theorem dX8_told_14 : decode cX8_told 14 = .ok (.ireturn, 1) := by decide +kernel
theorem dX8_told_15 : decode cX8_told 15 = .ok (.aload_n 0, 1) := by decide +kernel
theorem dX8_told_16 : decode cX8_told 16 = .ok (.getfield 48, 3) := by decide +kernel
theorem dX8_told_19 : decode cX8_told 19 = .ok (.iload_n 1, 1) := by decide +kernel
theorem dX8_told_20 : decode cX8_told 20 = .ok (.iaload, 1) := by decide +kernel
theorem dX8_told_21 : decode cX8_told 21 = .ok (.ireturn, 1) := by decide +kernel
theorem dX8_error_0 : decode cX8_error 0 = .ok (.iload_n 1, 1) := by decide +kernel
theorem dX8_error_1 : decode cX8_error 1 = .ok (.iconst 1, 1) := by decide +kernel
theorem dX8_error_2 : decode cX8_error 2 = .ok (.iconst 5, 1) := by decide +kernel
theorem dX8_error_3 : decode cX8_error 3 = .ok (.invokestatic 71, 3) := by decide +kernel
theorem dX8_error_6 : decode cX8_error 6 = .ok (.ifCond .eq 13, 3) := by decide +kernel
theorem dX8_error_9 : decode cX8_error 9 = .ok (.aload_n 0, 1) := by decide +kernel
theorem dX8_error_10 : decode cX8_error 10 = .ok (.getfield 48, 3) := by decide +kernel
theorem dX8_error_13 : decode cX8_error 13 = .ok (.iload_n 1, 1) := by decide +kernel
theorem dX8_error_14 : decode cX8_error 14 = .ok (.dup2, 1) := by decide +kernel
theorem dX8_error_15 : decode cX8_error 15 = .ok (.iaload, 1) := by decide +kernel
theorem dX8_error_16 : decode cX8_error 16 = .ok (.iconst 1, 1) := by decide +kernel
theorem dX8_error_17 : decode cX8_error 17 = .ok (.iadd, 1) := by decide +kernel
theorem dX8_error_18 : decode cX8_error 18 = .ok (.iastore, 1) := by decide +kernel
theorem dX8_error_19 : decode cX8_error 19 = .ok (.ldc_w 321, 3) := by decide +kernel
theorem dX8_error_22 : decode cX8_error 22 = .ok (.iload_n 1, 1) := by decide +kernel
theorem dX8_error_23 : decode cX8_error 23 = .ok (.isub, 1) := by decide +kernel
theorem dX8_error_24 : decode cX8_error 24 = .ok (.ireturn, 1) := by decide +kernel
theorem dX8_orNone_0 : decode cX8_orNone 0 = .ok (.iload_n 1, 1) := by decide +kernel
theorem dX8_orNone_1 : decode cX8_orNone 1 = .ok (.ifCond .ge 11, 3) := by decide +kernel
theorem dX8_orNone_4 : decode cX8_orNone 4 = .ok (.aload_n 0, 1) := by decide +kernel
theorem dX8_orNone_5 : decode cX8_orNone 5 = .ok (.iconst 2, 1) := by decide +kernel
theorem dX8_orNone_6 : decode cX8_orNone 6 = .ok (.invokevirtual 63, 3) := by decide +kernel
theorem dX8_orNone_9 : decode cX8_orNone 9 = .ok (.goto 4, 3) := by decide +kernel
theorem dX8_orNone_12 : decode cX8_orNone 12 = .ok (.iload_n 1, 1) := by decide +kernel
theorem dX8_orNone_13 : decode cX8_orNone 13 = .ok (.ireturn, 1) := by decide +kernel
theorem dX8_sheetOf_0 : decode cX8_sheetOf 0 = .ok (.iload_n 1, 1) := by decide +kernel
theorem dX8_sheetOf_1 : decode cX8_sheetOf 1 = .ok (.iconst 0, 1) := by decide +kernel
theorem dX8_sheetOf_2 : decode cX8_sheetOf 2 = .ok (.iconst 3, 1) := by decide +kernel
theorem dX8_sheetOf_3 : decode cX8_sheetOf 3 = .ok (.invokestatic 71, 3) := by decide +kernel
theorem dX8_sheetOf_6 : decode cX8_sheetOf 6 = .ok (.ifCond .eq 12, 3) := by decide +kernel
theorem dX8_sheetOf_9 : decode cX8_sheetOf 9 = .ok (.aload_n 0, 1) := by decide +kernel
theorem dX8_sheetOf_10 : decode cX8_sheetOf 10 = .ok (.getfield 44, 3) := by decide +kernel
theorem dX8_sheetOf_13 : decode cX8_sheetOf 13 = .ok (.iload_n 1, 1) := by decide +kernel
theorem dX8_sheetOf_14 : decode cX8_sheetOf 14 = .ok (.aaload, 1) := by decide +kernel
theorem dX8_sheetOf_15 : decode cX8_sheetOf 15 = .ok (.goto 4, 3) := by decide +kernel
theorem dX8_sheetOf_18 : decode cX8_sheetOf 18 = .ok (.aconst_null, 1) := by decide +kernel
theorem dX8_sheetOf_19 : decode cX8_sheetOf 19 = .ok (.areturn, 1) := by decide +kernel
theorem dX8_goToldAt_0 : decode cX8_goToldAt 0 = .ok (.aload_n 0, 1) := by decide +kernel
theorem dX8_goToldAt_1 : decode cX8_goToldAt 1 = .ok (.getfield 24, 3) := by decide +kernel
theorem dX8_goToldAt_4 : decode cX8_goToldAt 4 = .ok (.aload_n 1, 1) := by decide +kernel
theorem dX8_goToldAt_5 : decode cX8_goToldAt 5 = .ok (.invokevirtual 174, 3) := by decide +kernel
theorem dX8_goToldAt_8 : decode cX8_goToldAt 8 = .ok (.aload_n 0, 1) := by decide +kernel
theorem dX8_goToldAt_9 : decode cX8_goToldAt 9 = .ok (.getfield 24, 3) := by decide +kernel
theorem dX8_goToldAt_12 : decode cX8_goToldAt 12 = .ok (.iload_n 2, 1) := by decide +kernel
theorem dX8_goToldAt_13 : decode cX8_goToldAt 13 = .ok (.invokevirtual 178, 3) := by decide +kernel
theorem dX8_goToldAt_16 : decode cX8_goToldAt 16 = .ok (.istore_n 3, 1) := by decide +kernel
theorem dX8_goToldAt_17 : decode cX8_goToldAt 17 = .ok (.aload_n 1, 1) := by decide +kernel
theorem dX8_goToldAt_18 : decode cX8_goToldAt 18 = .ok (.aload_n 0, 1) := by decide +kernel
theorem dX8_goToldAt_19 : decode cX8_goToldAt 19 = .ok (.getfield 24, 3) := by decide +kernel
theorem dX8_goToldAt_22 : decode cX8_goToldAt 22 = .ok (.getfield 187, 3) := by decide +kernel
theorem dX8_goToldAt_25 : decode cX8_goToldAt 25 = .ok (.aload_n 0, 1) := by decide +kernel
theorem dX8_goToldAt_26 : decode cX8_goToldAt 26 = .ok (.getfield 10, 3) := by decide +kernel
theorem dX8_goToldAt_29 : decode cX8_goToldAt 29 = .ok (.getfield 85, 3) := by decide +kernel
theorem dX8_goToldAt_32 : decode cX8_goToldAt 32 = .ok (.isub, 1) := by decide +kernel
theorem dX8_goToldAt_33 : decode cX8_goToldAt 33 = .ok (.invokestatic 190, 3) := by decide +kernel
theorem dX8_goToldAt_36 : decode cX8_goToldAt 36 = .ok (.invokevirtual 124, 3) := by decide +kernel
theorem dX8_goToldAt_39 : decode cX8_goToldAt 39 = .ok (.istore 4, 2) := by decide +kernel
theorem dX8_goToldAt_41 : decode cX8_goToldAt 41 = .ok (.aload_n 1, 1) := by decide +kernel
theorem dX8_goToldAt_42 : decode cX8_goToldAt 42 = .ok (.bipush 99, 2) := by decide +kernel
theorem dX8_goToldAt_44 : decode cX8_goToldAt 44 = .ok (.aload_n 1, 1) := by decide +kernel
theorem dX8_goToldAt_45 : decode cX8_goToldAt 45 = .ok (.getfield 114, 3) := by decide +kernel
theorem dX8_goToldAt_48 : decode cX8_goToldAt 48 = .ok (.iconst 1, 1) := by decide +kernel
theorem dX8_goToldAt_49 : decode cX8_goToldAt 49 = .ok (.iadd, 1) := by decide +kernel
theorem dX8_goToldAt_50 : decode cX8_goToldAt 50 = .ok (.invokestatic 322, 3) := by decide +kernel
theorem dX8_goToldAt_53 : decode cX8_goToldAt 53 = .ok (.putfield 114, 3) := by decide +kernel
theorem dX8_goToldAt_56 : decode cX8_goToldAt 56 = .ok (.iload_n 3, 1) := by decide +kernel
theorem dX8_goToldAt_57 : decode cX8_goToldAt 57 = .ok (.ifCond .eq 27, 3) := by decide +kernel
theorem dX8_goToldAt_60 : decode cX8_goToldAt 60 = .ok (.aload_n 0, 1) := by decide +kernel
theorem dX8_goToldAt_61 : decode cX8_goToldAt 61 = .ok (.getfield 10, 3) := by decide +kernel
theorem dX8_goToldAt_64 : decode cX8_goToldAt 64 = .ok (.sipush 9999, 3) := by decide +kernel
theorem dX8_goToldAt_67 : decode cX8_goToldAt 67 = .ok (.aload_n 0, 1) := by decide +kernel
theorem dX8_goToldAt_68 : decode cX8_goToldAt 68 = .ok (.getfield 10, 3) := by decide +kernel
theorem dX8_goToldAt_71 : decode cX8_goToldAt 71 = .ok (.getfield 171, 3) := by decide +kernel
theorem dX8_goToldAt_74 : decode cX8_goToldAt 74 = .ok (.iconst 1, 1) := by decide +kernel
theorem dX8_goToldAt_75 : decode cX8_goToldAt 75 = .ok (.iadd, 1) := by decide +kernel
theorem dX8_goToldAt_76 : decode cX8_goToldAt 76 = .ok (.invokestatic 322, 3) := by decide +kernel
theorem dX8_goToldAt_79 : decode cX8_goToldAt 79 = .ok (.putfield 171, 3) := by decide +kernel
theorem dX8_goToldAt_82 : decode cX8_goToldAt 82 = .ok (.iconst 0, 1) := by decide +kernel
theorem dX8_goToldAt_83 : decode cX8_goToldAt 83 = .ok (.ireturn, 1) := by decide +kernel
theorem dX8_goToldAt_84 : decode cX8_goToldAt 84 = .ok (.aload_n 0, 1) := by decide +kernel
theorem dX8_goToldAt_85 : decode cX8_goToldAt 85 = .ok (.getfield 10, 3) := by decide +kernel
theorem dX8_goToldAt_88 : decode cX8_goToldAt 88 = .ok (.sipush 9999, 3) := by decide +kernel
theorem dX8_goToldAt_91 : decode cX8_goToldAt 91 = .ok (.aload_n 0, 1) := by decide +kernel
theorem dX8_goToldAt_92 : decode cX8_goToldAt 92 = .ok (.getfield 10, 3) := by decide +kernel
theorem dX8_goToldAt_95 : decode cX8_goToldAt 95 = .ok (.getfield 315, 3) := by decide +kernel
theorem dX8_goToldAt_98 : decode cX8_goToldAt 98 = .ok (.iconst 1, 1) := by decide +kernel
theorem dX8_goToldAt_99 : decode cX8_goToldAt 99 = .ok (.iadd, 1) := by decide +kernel
theorem dX8_goToldAt_100 : decode cX8_goToldAt 100 = .ok (.invokestatic 322, 3) := by decide +kernel
theorem dX8_goToldAt_103 : decode cX8_goToldAt 103 = .ok (.putfield 315, 3) := by decide +kernel
theorem dX8_goToldAt_106 : decode cX8_goToldAt 106 = .ok (.aload_n 0, 1) := by decide +kernel
theorem dX8_goToldAt_107 : decode cX8_goToldAt 107 = .ok (.getfield 10, 3) := by decide +kernel
theorem dX8_goToldAt_110 : decode cX8_goToldAt 110 = .ok (.ldc_w 325, 3) := by decide +kernel
theorem dX8_goToldAt_113 : decode cX8_goToldAt 113 = .ok (.aload_n 0, 1) := by decide +kernel
theorem dX8_goToldAt_114 : decode cX8_goToldAt 114 = .ok (.getfield 10, 3) := by decide +kernel
theorem dX8_goToldAt_117 : decode cX8_goToldAt 117 = .ok (.getfield 318, 3) := by decide +kernel
theorem dX8_goToldAt_120 : decode cX8_goToldAt 120 = .ok (.iload 4, 2) := by decide +kernel
theorem dX8_goToldAt_122 : decode cX8_goToldAt 122 = .ok (.iadd, 1) := by decide +kernel
theorem dX8_goToldAt_123 : decode cX8_goToldAt 123 = .ok (.invokestatic 322, 3) := by decide +kernel
theorem dX8_goToldAt_126 : decode cX8_goToldAt 126 = .ok (.putfield 318, 3) := by decide +kernel
theorem dX8_goToldAt_129 : decode cX8_goToldAt 129 = .ok (.iconst 1, 1) := by decide +kernel
theorem dX8_goToldAt_130 : decode cX8_goToldAt 130 = .ok (.iload 4, 2) := by decide +kernel
theorem dX8_goToldAt_132 : decode cX8_goToldAt 132 = .ok (.iadd, 1) := by decide +kernel
theorem dX8_goToldAt_133 : decode cX8_goToldAt 133 = .ok (.ireturn, 1) := by decide +kernel
theorem dX8_oneEvening_0 : decode cX8_oneEvening 0 = .ok (.iconst 0, 1) := by decide +kernel
theorem dX8_oneEvening_1 : decode cX8_oneEvening 1 = .ok (.istore_n 1, 1) := by decide +kernel
theorem dX8_oneEvening_2 : decode cX8_oneEvening 2 = .ok (.iload_n 1, 1) := by decide +kernel
theorem dX8_oneEvening_3 : decode cX8_oneEvening 3 = .ok (.aload_n 0, 1) := by decide +kernel
theorem dX8_oneEvening_4 : decode cX8_oneEvening 4 = .ok (.getfield 10, 3) := by decide +kernel
theorem dX8_oneEvening_7 : decode cX8_oneEvening 7 = .ok (.getfield 92, 3) := by decide +kernel
theorem dX8_oneEvening_10 : decode cX8_oneEvening 10 = .ok (.if_icmp .ge 48, 3) := by decide +kernel
theorem dX8_oneEvening_13 : decode cX8_oneEvening 13 = .ok (.aload_n 0, 1) := by decide +kernel
theorem dX8_oneEvening_14 : decode cX8_oneEvening 14 = .ok (.getfield 10, 3) := by decide +kernel
theorem dX8_oneEvening_17 : decode cX8_oneEvening 17 = .ok (.invokevirtual 326, 3) := by decide +kernel
theorem dX8_oneEvening_20 : decode cX8_oneEvening 20 = .ok (.bipush 12, 2) := by decide +kernel
theorem dX8_oneEvening_22 : decode cX8_oneEvening 22 = .ok (.irem, 1) := by decide +kernel
theorem dX8_oneEvening_23 : decode cX8_oneEvening 23 = .ok (.istore_n 2, 1) := by decide +kernel
theorem dX8_oneEvening_24 : decode cX8_oneEvening 24 = .ok (.aload_n 0, 1) := by decide +kernel
theorem dX8_oneEvening_25 : decode cX8_oneEvening 25 = .ok (.getfield 10, 3) := by decide +kernel
theorem dX8_oneEvening_28 : decode cX8_oneEvening 28 = .ok (.iload_n 1, 1) := by decide +kernel
theorem dX8_oneEvening_29 : decode cX8_oneEvening 29 = .ok (.invokevirtual 95, 3) := by decide +kernel
theorem dX8_oneEvening_32 : decode cX8_oneEvening 32 = .ok (.astore_n 3, 1) := by decide +kernel
theorem dX8_oneEvening_33 : decode cX8_oneEvening 33 = .ok (.aload_n 3, 1) := by decide +kernel
theorem dX8_oneEvening_34 : decode cX8_oneEvening 34 = .ok (.ifnull 18, 3) := by decide +kernel
theorem dX8_oneEvening_37 : decode cX8_oneEvening 37 = .ok (.aload_n 0, 1) := by decide +kernel
theorem dX8_oneEvening_38 : decode cX8_oneEvening 38 = .ok (.aload_n 3, 1) := by decide +kernel
theorem dX8_oneEvening_39 : decode cX8_oneEvening 39 = .ok (.aload_n 0, 1) := by decide +kernel
theorem dX8_oneEvening_40 : decode cX8_oneEvening 40 = .ok (.getfield 10, 3) := by decide +kernel
theorem dX8_oneEvening_43 : decode cX8_oneEvening 43 = .ok (.getfield 161, 3) := by decide +kernel
theorem dX8_oneEvening_46 : decode cX8_oneEvening 46 = .ok (.iload_n 2, 1) := by decide +kernel
theorem dX8_oneEvening_47 : decode cX8_oneEvening 47 = .ok (.iadd, 1) := by decide +kernel
theorem dX8_oneEvening_48 : decode cX8_oneEvening 48 = .ok (.invokevirtual 164, 3) := by decide +kernel
theorem dX8_oneEvening_51 : decode cX8_oneEvening 51 = .ok (.pop, 1) := by decide +kernel
theorem dX8_oneEvening_52 : decode cX8_oneEvening 52 = .ok (.iinc 1 1, 3) := by decide +kernel
theorem dX8_oneEvening_55 : decode cX8_oneEvening 55 = .ok (.goto (-53), 3) := by decide +kernel
theorem dX8_oneEvening_58 : decode cX8_oneEvening 58 = .ok (.aload_n 0, 1) := by decide +kernel
theorem dX8_oneEvening_59 : decode cX8_oneEvening 59 = .ok (.getfield 10, 3) := by decide +kernel
theorem dX8_oneEvening_62 : decode cX8_oneEvening 62 = .ok (.dup, 1) := by decide +kernel
theorem dX8_oneEvening_63 : decode cX8_oneEvening 63 = .ok (.getfield 161, 3) := by decide +kernel
theorem dX8_oneEvening_66 : decode cX8_oneEvening 66 = .ok (.bipush 12, 2) := by decide +kernel
theorem dX8_oneEvening_68 : decode cX8_oneEvening 68 = .ok (.iadd, 1) := by decide +kernel
theorem dX8_oneEvening_69 : decode cX8_oneEvening 69 = .ok (.putfield 161, 3) := by decide +kernel
theorem dX8_oneEvening_72 : decode cX8_oneEvening 72 = .ok (.return_, 1) := by decide +kernel
theorem dX8_within_0 : decode cX8_within 0 = .ok (.iload_n 0, 1) := by decide +kernel
theorem dX8_within_1 : decode cX8_within 1 = .ok (.iload_n 1, 1) := by decide +kernel
theorem dX8_within_2 : decode cX8_within 2 = .ok (.if_icmp .lt 12, 3) := by decide +kernel
theorem dX8_within_5 : decode cX8_within 5 = .ok (.iload_n 0, 1) := by decide +kernel
theorem dX8_within_6 : decode cX8_within 6 = .ok (.iload_n 2, 1) := by decide +kernel
theorem dX8_within_7 : decode cX8_within 7 = .ok (.if_icmp .gt 7, 3) := by decide +kernel
theorem dX8_within_10 : decode cX8_within 10 = .ok (.iconst 1, 1) := by decide +kernel
theorem dX8_within_11 : decode cX8_within 11 = .ok (.goto 4, 3) := by decide +kernel
theorem dX8_within_14 : decode cX8_within 14 = .ok (.iconst 0, 1) := by decide +kernel
theorem dX8_within_15 : decode cX8_within 15 = .ok (.ireturn, 1) := by decide +kernel
theorem dX8_isSpan_0 : decode cX8_isSpan 0 = .ok (.iload_n 0, 1) := by decide +kernel
theorem dX8_isSpan_1 : decode cX8_isSpan 1 = .ok (.iconst 1, 1) := by decide +kernel
theorem dX8_isSpan_2 : decode cX8_isSpan 2 = .ok (.bipush 60, 2) := by decide +kernel
theorem dX8_isSpan_4 : decode cX8_isSpan 4 = .ok (.invokestatic 71, 3) := by decide +kernel
theorem dX8_isSpan_7 : decode cX8_isSpan 7 = .ok (.ireturn, 1) := by decide +kernel
theorem dX8_isKindAndNumber_0 : decode cX8_isKindAndNumber 0 = .ok (.iload_n 0, 1) := by decide +kernel
theorem dX8_isKindAndNumber_1 : decode cX8_isKindAndNumber 1 = .ok (.iconst 0, 1) := by decide +kernel
theorem dX8_isKindAndNumber_2 : decode cX8_isKindAndNumber 2 = .ok (.bipush 69, 2) := by decide +kernel
theorem dX8_isKindAndNumber_4 : decode cX8_isKindAndNumber 4 = .ok (.invokestatic 71, 3) := by decide +kernel
theorem dX8_isKindAndNumber_7 : decode cX8_isKindAndNumber 7 = .ok (.ireturn, 1) := by decide +kernel
theorem dX8_partOf_0 : decode cX8_partOf 0 = .ok (.iload_n 0, 1) := by decide +kernel
theorem dX8_partOf_1 : decode cX8_partOf 1 = .ok (.invokestatic 190, 3) := by decide +kernel
theorem dX8_partOf_4 : decode cX8_partOf 4 = .ok (.istore_n 3, 1) := by decide +kernel
theorem dX8_partOf_5 : decode cX8_partOf 5 = .ok (.iload_n 1, 1) := by decide +kernel
theorem dX8_partOf_6 : decode cX8_partOf 6 = .ok (.istore 4, 2) := by decide +kernel
theorem dX8_partOf_8 : decode cX8_partOf 8 = .ok (.iconst 0, 1) := by decide +kernel
theorem dX8_partOf_9 : decode cX8_partOf 9 = .ok (.istore 5, 2) := by decide +kernel
theorem dX8_partOf_11 : decode cX8_partOf 11 = .ok (.iload 5, 2) := by decide +kernel
theorem dX8_partOf_13 : decode cX8_partOf 13 = .ok (.iload_n 1, 1) := by decide +kernel
theorem dX8_partOf_14 : decode cX8_partOf 14 = .ok (.if_icmp .ge 27, 3) := by decide +kernel
theorem dX8_partOf_17 : decode cX8_partOf 17 = .ok (.iload 4, 2) := by decide +kernel
theorem dX8_partOf_19 : decode cX8_partOf 19 = .ok (.ifCond .eq 22, 3) := by decide +kernel
theorem dX8_partOf_22 : decode cX8_partOf 22 = .ok (.iload_n 3, 1) := by decide +kernel
theorem dX8_partOf_23 : decode cX8_partOf 23 = .ok (.iload 4, 2) := by decide +kernel
theorem dX8_partOf_25 : decode cX8_partOf 25 = .ok (.irem, 1) := by decide +kernel
theorem dX8_partOf_26 : decode cX8_partOf 26 = .ok (.istore 6, 2) := by decide +kernel
theorem dX8_partOf_28 : decode cX8_partOf 28 = .ok (.iload 4, 2) := by decide +kernel
theorem dX8_partOf_30 : decode cX8_partOf 30 = .ok (.istore_n 3, 1) := by decide +kernel
theorem dX8_partOf_31 : decode cX8_partOf 31 = .ok (.iload 6, 2) := by decide +kernel
theorem dX8_partOf_33 : decode cX8_partOf 33 = .ok (.istore 4, 2) := by decide +kernel
theorem dX8_partOf_35 : decode cX8_partOf 35 = .ok (.iinc 5 1, 3) := by decide +kernel
theorem dX8_partOf_38 : decode cX8_partOf 38 = .ok (.goto (-27), 3) := by decide +kernel
theorem dX8_partOf_41 : decode cX8_partOf 41 = .ok (.iconst 1, 1) := by decide +kernel
theorem dX8_partOf_42 : decode cX8_partOf 42 = .ok (.iload_n 3, 1) := by decide +kernel
theorem dX8_partOf_43 : decode cX8_partOf 43 = .ok (.invokestatic 226, 3) := by decide +kernel
theorem dX8_partOf_46 : decode cX8_partOf 46 = .ok (.istore 5, 2) := by decide +kernel
theorem dX8_partOf_48 : decode cX8_partOf 48 = .ok (.iload_n 2, 1) := by decide +kernel
theorem dX8_partOf_49 : decode cX8_partOf 49 = .ok (.ifCond .ne 10, 3) := by decide +kernel
theorem dX8_partOf_52 : decode cX8_partOf 52 = .ok (.iload_n 0, 1) := by decide +kernel
theorem dX8_partOf_53 : decode cX8_partOf 53 = .ok (.iload 5, 2) := by decide +kernel
theorem dX8_partOf_55 : decode cX8_partOf 55 = .ok (.idiv, 1) := by decide +kernel
theorem dX8_partOf_56 : decode cX8_partOf 56 = .ok (.goto 7, 3) := by decide +kernel
theorem dX8_partOf_59 : decode cX8_partOf 59 = .ok (.iload_n 1, 1) := by decide +kernel
theorem dX8_partOf_60 : decode cX8_partOf 60 = .ok (.iload 5, 2) := by decide +kernel
theorem dX8_partOf_62 : decode cX8_partOf 62 = .ok (.idiv, 1) := by decide +kernel
theorem dX8_partOf_63 : decode cX8_partOf 63 = .ok (.ireturn, 1) := by decide +kernel
theorem dX9_init_0 : decode cX9_init 0 = .ok (.aload_n 0, 1) := by decide +kernel
theorem dX9_init_1 : decode cX9_init 1 = .ok (.invokespecial 1, 3) := by decide +kernel
theorem dX9_init_4 : decode cX9_init 4 = .ok (.aload_n 0, 1) := by decide +kernel
theorem dX9_init_5 : decode cX9_init 5 = .ok (.sipush 264, 3) := by decide +kernel
theorem dX9_init_8 : decode cX9_init 8 = .ok (.newarray .int, 2) := by decide +kernel
theorem dX9_init_10 : decode cX9_init 10 = .ok (.putfield 7, 3) := by decide +kernel
theorem dX9_init_13 : decode cX9_init 13 = .ok (.aload_n 0, 1) := by decide +kernel
theorem dX9_init_14 : decode cX9_init 14 = .ok (.sipush 264, 3) := by decide +kernel
theorem dX9_init_17 : decode cX9_init 17 = .ok (.newarray .int, 2) := by decide +kernel
theorem dX9_init_19 : decode cX9_init 19 = .ok (.putfield 13, 3) := by decide +kernel
theorem dX9_init_22 : decode cX9_init 22 = .ok (.aload_n 0, 1) := by decide +kernel
theorem dX9_init_23 : decode cX9_init 23 = .ok (.bipush 6, 2) := by decide +kernel
theorem dX9_init_25 : decode cX9_init 25 = .ok (.newarray .int, 2) := by decide +kernel
theorem dX9_init_27 : decode cX9_init 27 = .ok (.putfield 16, 3) := by decide +kernel
theorem dX9_init_30 : decode cX9_init 30 = .ok (.aload_n 0, 1) := by decide +kernel
theorem dX9_init_31 : decode cX9_init 31 = .ok (.iconst 3, 1) := by decide +kernel
theorem dX9_init_32 : decode cX9_init 32 = .ok (.newarray .int, 2) := by decide +kernel
theorem dX9_init_34 : decode cX9_init 34 = .ok (.putfield 19, 3) := by decide +kernel
theorem dX9_init_37 : decode cX9_init 37 = .ok (.aload_n 0, 1) := by decide +kernel
theorem dX9_init_38 : decode cX9_init 38 = .ok (.iconst (-1), 1) := by decide +kernel
theorem dX9_init_39 : decode cX9_init 39 = .ok (.putfield 22, 3) := by decide +kernel
theorem dX9_init_42 : decode cX9_init 42 = .ok (.aload_n 0, 1) := by decide +kernel
theorem dX9_init_43 : decode cX9_init 43 = .ok (.bipush 60, 2) := by decide +kernel
theorem dX9_init_45 : decode cX9_init 45 = .ok (.newarray .int, 2) := by decide +kernel
theorem dX9_init_47 : decode cX9_init 47 = .ok (.putfield 26, 3) := by decide +kernel
theorem dX9_init_50 : decode cX9_init 50 = .ok (.aload_n 0, 1) := by decide +kernel
theorem dX9_init_51 : decode cX9_init 51 = .ok (.bipush 40, 2) := by decide +kernel
theorem dX9_init_53 : decode cX9_init 53 = .ok (.newarray .int, 2) := by decide +kernel
theorem dX9_init_55 : decode cX9_init 55 = .ok (.putfield 29, 3) := by decide +kernel
theorem dX9_init_58 : decode cX9_init 58 = .ok (.aload_n 0, 1) := by decide +kernel
theorem dX9_init_59 : decode cX9_init 59 = .ok (.iconst 4, 1) := by decide +kernel
theorem dX9_init_60 : decode cX9_init 60 = .ok (.newarray .int, 2) := by decide +kernel
theorem dX9_init_62 : decode cX9_init 62 = .ok (.putfield 32, 3) := by decide +kernel
theorem dX9_init_65 : decode cX9_init 65 = .ok (.aload_n 0, 1) := by decide +kernel
theorem dX9_init_66 : decode cX9_init 66 = .ok (.iconst 4, 1) := by decide +kernel
theorem dX9_init_67 : decode cX9_init 67 = .ok (.newarray .int, 2) := by decide +kernel
theorem dX9_init_69 : decode cX9_init 69 = .ok (.putfield 35, 3) := by decide +kernel
theorem dX9_init_72 : decode cX9_init 72 = .ok (.aload_n 0, 1) := by decide +kernel
theorem dX9_init_73 : decode cX9_init 73 = .ok (.sipush 160, 3) := by decide +kernel
theorem dX9_init_76 : decode cX9_init 76 = .ok (.newarray .int, 2) := by decide +kernel
theorem dX9_init_78 : decode cX9_init 78 = .ok (.putfield 38, 3) := by decide +kernel
theorem dX9_init_81 : decode cX9_init 81 = .ok (.aload_n 0, 1) := by decide +kernel
theorem dX9_init_82 : decode cX9_init 82 = .ok (.bipush 40, 2) := by decide +kernel
theorem dX9_init_84 : decode cX9_init 84 = .ok (.newarray .int, 2) := by decide +kernel
theorem dX9_init_86 : decode cX9_init 86 = .ok (.putfield 41, 3) := by decide +kernel
theorem dX9_init_89 : decode cX9_init 89 = .ok (.iconst 0, 1) := by decide +kernel
theorem dX9_init_90 : decode cX9_init 90 = .ok (.istore_n 1, 1) := by decide +kernel
theorem dX9_init_91 : decode cX9_init 91 = .ok (.iload_n 1, 1) := by decide +kernel
theorem dX9_init_92 : decode cX9_init 92 = .ok (.iconst 2, 1) := by decide +kernel
theorem dX9_init_93 : decode cX9_init 93 = .ok (.if_icmp .ge 37, 3) := by decide +kernel
theorem dX9_init_96 : decode cX9_init 96 = .ok (.aload_n 0, 1) := by decide +kernel
theorem dX9_init_97 : decode cX9_init 97 = .ok (.getfield 7, 3) := by decide +kernel
theorem dX9_init_100 : decode cX9_init 100 = .ok (.bipush 12, 2) := by decide +kernel
theorem dX9_init_102 : decode cX9_init 102 = .ok (.iconst 3, 1) := by decide +kernel
theorem dX9_init_103 : decode cX9_init 103 = .ok (.iload_n 1, 1) := by decide +kernel
theorem dX9_init_104 : decode cX9_init 104 = .ok (.imul, 1) := by decide +kernel
theorem dX9_init_105 : decode cX9_init 105 = .ok (.iadd, 1) := by decide +kernel
theorem dX9_init_106 : decode cX9_init 106 = .ok (.bipush 12, 2) := by decide +kernel
theorem dX9_init_108 : decode cX9_init 108 = .ok (.iastore, 1) := by decide +kernel
theorem dX9_init_109 : decode cX9_init 109 = .ok (.aload_n 0, 1) := by decide +kernel
theorem dX9_init_110 : decode cX9_init 110 = .ok (.getfield 7, 3) := by decide +kernel
theorem dX9_init_113 : decode cX9_init 113 = .ok (.bipush 12, 2) := by decide +kernel
theorem dX9_init_115 : decode cX9_init 115 = .ok (.iconst 3, 1) := by decide +kernel
theorem dX9_init_116 : decode cX9_init 116 = .ok (.iload_n 1, 1) := by decide +kernel
theorem dX9_init_117 : decode cX9_init 117 = .ok (.imul, 1) := by decide +kernel
theorem dX9_init_118 : decode cX9_init 118 = .ok (.iadd, 1) := by decide +kernel
theorem dX9_init_119 : decode cX9_init 119 = .ok (.iconst 1, 1) := by decide +kernel
theorem dX9_init_120 : decode cX9_init 120 = .ok (.iadd, 1) := by decide +kernel
theorem dX9_init_121 : decode cX9_init 121 = .ok (.bipush 20, 2) := by decide +kernel
theorem dX9_init_123 : decode cX9_init 123 = .ok (.iastore, 1) := by decide +kernel
theorem dX9_init_124 : decode cX9_init 124 = .ok (.iinc 1 1, 3) := by decide +kernel
theorem dX9_init_127 : decode cX9_init 127 = .ok (.goto (-36), 3) := by decide +kernel
theorem dX9_init_130 : decode cX9_init 130 = .ok (.aload_n 0, 1) := by decide +kernel
theorem dX9_init_131 : decode cX9_init 131 = .ok (.getfield 7, 3) := by decide +kernel
theorem dX9_init_134 : decode cX9_init 134 = .ok (.iconst 5, 1) := by decide +kernel
theorem dX9_init_135 : decode cX9_init 135 = .ok (.bipush 60, 2) := by decide +kernel
theorem dX9_init_137 : decode cX9_init 137 = .ok (.iastore, 1) := by decide +kernel
theorem dX9_init_138 : decode cX9_init 138 = .ok (.aload_n 0, 1) := by decide +kernel
theorem dX9_init_139 : decode cX9_init 139 = .ok (.getfield 7, 3) := by decide +kernel
theorem dX9_init_142 : decode cX9_init 142 = .ok (.bipush 6, 2) := by decide +kernel
theorem dX9_init_144 : decode cX9_init 144 = .ok (.iconst 5, 1) := by decide +kernel
theorem dX9_init_145 : decode cX9_init 145 = .ok (.iastore, 1) := by decide +kernel
theorem dX9_init_146 : decode cX9_init 146 = .ok (.aload_n 0, 1) := by decide +kernel
theorem dX9_init_147 : decode cX9_init 147 = .ok (.getfield 7, 3) := by decide +kernel
theorem dX9_init_150 : decode cX9_init 150 = .ok (.bipush 7, 2) := by decide +kernel
theorem dX9_init_152 : decode cX9_init 152 = .ok (.bipush 30, 2) := by decide +kernel
theorem dX9_init_154 : decode cX9_init 154 = .ok (.iastore, 1) := by decide +kernel
theorem dX9_init_155 : decode cX9_init 155 = .ok (.aload_n 0, 1) := by decide +kernel
theorem dX9_init_156 : decode cX9_init 156 = .ok (.getfield 7, 3) := by decide +kernel
theorem dX9_init_159 : decode cX9_init 159 = .ok (.bipush 8, 2) := by decide +kernel
theorem dX9_init_161 : decode cX9_init 161 = .ok (.iconst 1, 1) := by decide +kernel
theorem dX9_init_162 : decode cX9_init 162 = .ok (.iastore, 1) := by decide +kernel
theorem dX9_init_163 : decode cX9_init 163 = .ok (.return_, 1) := by decide +kernel
theorem dX9_finds_0 : decode cX9_finds 0 = .ok (.aload_n 0, 1) := by decide +kernel
theorem dX9_finds_1 : decode cX9_finds 1 = .ok (.getfield 16, 3) := by decide +kernel
theorem dX9_finds_4 : decode cX9_finds 4 = .ok (.iload_n 1, 1) := by decide +kernel
theorem dX9_finds_5 : decode cX9_finds 5 = .ok (.dup2, 1) := by decide +kernel
theorem dX9_finds_6 : decode cX9_finds 6 = .ok (.iaload, 1) := by decide +kernel
theorem dX9_finds_7 : decode cX9_finds 7 = .ok (.iconst 1, 1) := by decide +kernel
theorem dX9_finds_8 : decode cX9_finds 8 = .ok (.iadd, 1) := by decide +kernel
theorem dX9_finds_9 : decode cX9_finds 9 = .ok (.iastore, 1) := by decide +kernel
theorem dX9_finds_10 : decode cX9_finds 10 = .ok (.ldc 44, 2) := by decide +kernel
theorem dX9_finds_12 : decode cX9_finds 12 = .ok (.iload_n 1, 1) := by decide +kernel
theorem dX9_finds_13 : decode cX9_finds 13 = .ok (.isub, 1) := by decide +kernel
theorem dX9_finds_14 : decode cX9_finds 14 = .ok (.ireturn, 1) := by decide +kernel
theorem dX9_in_0 : decode cX9_in 0 = .ok (.lload_n 0, 1) := by decide +kernel
theorem dX9_in_1 : decode cX9_in 1 = .ok (.lload_n 2, 1) := by decide +kernel
theorem dX9_in_2 : decode cX9_in 2 = .ok (.lcmp, 1) := by decide +kernel
theorem dX9_in_3 : decode cX9_in 3 = .ok (.ifCond .lt 14, 3) := by decide +kernel
theorem dX9_in_6 : decode cX9_in 6 = .ok (.lload_n 0, 1) := by decide +kernel
theorem dX9_in_7 : decode cX9_in 7 = .ok (.lload 4, 2) := by decide +kernel
theorem dX9_in_9 : decode cX9_in 9 = .ok (.lcmp, 1) := by decide +kernel
theorem dX9_in_10 : decode cX9_in 10 = .ok (.ifCond .gt 7, 3) := by decide +kernel
theorem dX9_in_13 : decode cX9_in 13 = .ok (.iconst 1, 1) := by decide +kernel
theorem dX9_in_14 : decode cX9_in 14 = .ok (.goto 4, 3) := by decide +kernel
theorem dX9_in_17 : decode cX9_in 17 = .ok (.iconst 0, 1) := by decide +kernel
theorem dX9_in_18 : decode cX9_in 18 = .ok (.ireturn, 1) := by decide +kernel
theorem dX9_held_0 : decode cX9_held 0 = .ok (.iload_n 0, 1) := by decide +kernel
theorem dX9_held_1 : decode cX9_held 1 = .ok (.iload_n 1, 1) := by decide +kernel
theorem dX9_held_2 : decode cX9_held 2 = .ok (.if_icmp .ge 7, 3) := by decide +kernel
theorem dX9_held_5 : decode cX9_held 5 = .ok (.iload_n 1, 1) := by decide +kernel
theorem dX9_held_6 : decode cX9_held 6 = .ok (.goto 13, 3) := by decide +kernel
theorem dX9_held_9 : decode cX9_held 9 = .ok (.iload_n 0, 1) := by decide +kernel
theorem dX9_held_10 : decode cX9_held 10 = .ok (.iload_n 2, 1) := by decide +kernel
theorem dX9_held_11 : decode cX9_held 11 = .ok (.if_icmp .le 7, 3) := by decide +kernel
theorem dX9_held_14 : decode cX9_held 14 = .ok (.iload_n 2, 1) := by decide +kernel
theorem dX9_held_15 : decode cX9_held 15 = .ok (.goto 4, 3) := by decide +kernel
theorem dX9_held_18 : decode cX9_held 18 = .ok (.iload_n 0, 1) := by decide +kernel
theorem dX9_held_19 : decode cX9_held 19 = .ok (.ireturn, 1) := by decide +kernel
theorem dX9_isFlyer_0 : decode cX9_isFlyer 0 = .ok (.iload_n 1, 1) := by decide +kernel
theorem dX9_isFlyer_1 : decode cX9_isFlyer 1 = .ok (.i2l, 1) := by decide +kernel
theorem dX9_isFlyer_2 : decode cX9_isFlyer 2 = .ok (.lconst 0, 1) := by decide +kernel
theorem dX9_isFlyer_3 : decode cX9_isFlyer 3 = .ok (.aload_n 0, 1) := by decide +kernel
theorem dX9_isFlyer_4 : decode cX9_isFlyer 4 = .ok (.getfield 7, 3) := by decide +kernel
theorem dX9_isFlyer_7 : decode cX9_isFlyer 7 = .ok (.iconst 0, 1) := by decide +kernel
theorem dX9_isFlyer_8 : decode cX9_isFlyer 8 = .ok (.iaload, 1) := by decide +kernel
theorem dX9_isFlyer_9 : decode cX9_isFlyer 9 = .ok (.iconst 1, 1) := by decide +kernel
theorem dX9_isFlyer_10 : decode cX9_isFlyer 10 = .ok (.isub, 1) := by decide +kernel
theorem dX9_isFlyer_11 : decode cX9_isFlyer 11 = .ok (.i2l, 1) := by decide +kernel
theorem dX9_isFlyer_12 : decode cX9_isFlyer 12 = .ok (.invokestatic 45, 3) := by decide +kernel
theorem dX9_isFlyer_15 : decode cX9_isFlyer 15 = .ok (.ireturn, 1) := by decide +kernel
theorem dX9_of_0 : decode cX9_of 0 = .ok (.aload_n 0, 1) := by decide +kernel
theorem dX9_of_1 : decode cX9_of 1 = .ok (.getfield 7, 3) := by decide +kernel
theorem dX9_of_4 : decode cX9_of 4 = .ok (.bipush 18, 2) := by decide +kernel
theorem dX9_of_6 : decode cX9_of 6 = .ok (.iconst 4, 1) := by decide +kernel
theorem dX9_of_7 : decode cX9_of 7 = .ok (.iload_n 1, 1) := by decide +kernel
theorem dX9_of_8 : decode cX9_of 8 = .ok (.imul, 1) := by decide +kernel
theorem dX9_of_9 : decode cX9_of 9 = .ok (.iadd, 1) := by decide +kernel
theorem dX9_of_10 : decode cX9_of 10 = .ok (.iload_n 2, 1) := by decide +kernel
theorem dX9_of_11 : decode cX9_of 11 = .ok (.iadd, 1) := by decide +kernel
theorem dX9_of_12 : decode cX9_of 12 = .ok (.iaload, 1) := by decide +kernel
theorem dX9_of_13 : decode cX9_of 13 = .ok (.ireturn, 1) := by decide +kernel
theorem dX9_sets_0 : decode cX9_sets 0 = .ok (.aload_n 0, 1) := by decide +kernel
theorem dX9_sets_1 : decode cX9_sets 1 = .ok (.getfield 7, 3) := by decide +kernel
theorem dX9_sets_4 : decode cX9_sets 4 = .ok (.bipush 18, 2) := by decide +kernel
theorem dX9_sets_6 : decode cX9_sets 6 = .ok (.iconst 4, 1) := by decide +kernel
theorem dX9_sets_7 : decode cX9_sets 7 = .ok (.iload_n 1, 1) := by decide +kernel
theorem dX9_sets_8 : decode cX9_sets 8 = .ok (.imul, 1) := by decide +kernel
theorem dX9_sets_9 : decode cX9_sets 9 = .ok (.iadd, 1) := by decide +kernel
theorem dX9_sets_10 : decode cX9_sets 10 = .ok (.iload_n 2, 1) := by decide +kernel
theorem dX9_sets_11 : decode cX9_sets 11 = .ok (.iadd, 1) := by decide +kernel
theorem dX9_sets_12 : decode cX9_sets 12 = .ok (.iload_n 3, 1) := by decide +kernel
theorem dX9_sets_13 : decode cX9_sets 13 = .ok (.iastore, 1) := by decide +kernel
theorem dX9_sets_14 : decode cX9_sets 14 = .ok (.return_, 1) := by decide +kernel
theorem dX9_here_0 : decode cX9_here 0 = .ok (.aload_n 0, 1) := by decide +kernel
theorem dX9_here_1 : decode cX9_here 1 = .ok (.getfield 49, 3) := by decide +kernel
theorem dX9_here_4 : decode cX9_here 4 = .ok (.aload_n 0, 1) := by decide +kernel
theorem dX9_here_5 : decode cX9_here 5 = .ok (.getfield 52, 3) := by decide +kernel
theorem dX9_here_8 : decode cX9_here 8 = .ok (.if_icmp .ge 27, 3) := by decide +kernel
theorem dX9_here_11 : decode cX9_here 11 = .ok (.aload_n 0, 1) := by decide +kernel
theorem dX9_here_12 : decode cX9_here 12 = .ok (.getfield 55, 3) := by decide +kernel
theorem dX9_here_15 : decode cX9_here 15 = .ok (.ifCond .ge 20, 3) := by decide +kernel
theorem dX9_here_18 : decode cX9_here 18 = .ok (.aload_n 0, 1) := by decide +kernel
theorem dX9_here_19 : decode cX9_here 19 = .ok (.getfield 7, 3) := by decide +kernel
theorem dX9_here_22 : decode cX9_here 22 = .ok (.aload_n 0, 1) := by decide +kernel
theorem dX9_here_23 : decode cX9_here 23 = .ok (.getfield 58, 3) := by decide +kernel
theorem dX9_here_26 : decode cX9_here 26 = .ok (.aload_n 0, 1) := by decide +kernel
theorem dX9_here_27 : decode cX9_here 27 = .ok (.getfield 49, 3) := by decide +kernel
theorem dX9_here_30 : decode cX9_here 30 = .ok (.iadd, 1) := by decide +kernel
theorem dX9_here_31 : decode cX9_here 31 = .ok (.iaload, 1) := by decide +kernel
theorem dX9_here_32 : decode cX9_here 32 = .ok (.goto 4, 3) := by decide +kernel
theorem dX9_here_35 : decode cX9_here 35 = .ok (.iconst (-1), 1) := by decide +kernel
theorem dX9_here_36 : decode cX9_here 36 = .ok (.ireturn, 1) := by decide +kernel
theorem dX9_wrong_0 : decode cX9_wrong 0 = .ok (.aload_n 0, 1) := by decide +kernel
theorem dX9_wrong_1 : decode cX9_wrong 1 = .ok (.aload_n 0, 1) := by decide +kernel
theorem dX9_wrong_2 : decode cX9_wrong 2 = .ok (.getfield 55, 3) := by decide +kernel
theorem dX9_wrong_5 : decode cX9_wrong 5 = .ok (.ifCond .ge 10, 3) := by decide +kernel
theorem dX9_wrong_8 : decode cX9_wrong 8 = .ok (.aload_n 0, 1) := by decide +kernel
theorem dX9_wrong_9 : decode cX9_wrong 9 = .ok (.getfield 49, 3) := by decide +kernel
theorem dX9_wrong_12 : decode cX9_wrong 12 = .ok (.goto 7, 3) := by decide +kernel
theorem dX9_wrong_15 : decode cX9_wrong 15 = .ok (.aload_n 0, 1) := by decide +kernel
theorem dX9_wrong_16 : decode cX9_wrong 16 = .ok (.getfield 55, 3) := by decide +kernel
theorem dX9_wrong_19 : decode cX9_wrong 19 = .ok (.putfield 55, 3) := by decide +kernel
theorem dX9_wrong_22 : decode cX9_wrong 22 = .ok (.iconst 0, 1) := by decide +kernel
theorem dX9_wrong_23 : decode cX9_wrong 23 = .ok (.ireturn, 1) := by decide +kernel
theorem dX9_takes_0 : decode cX9_takes 0 = .ok (.aload_n 0, 1) := by decide +kernel
theorem dX9_takes_1 : decode cX9_takes 1 = .ok (.invokevirtual 61, 3) := by decide +kernel
theorem dX9_takes_4 : decode cX9_takes 4 = .ok (.iload_n 1, 1) := by decide +kernel
theorem dX9_takes_5 : decode cX9_takes 5 = .ok (.if_icmp .eq 5, 3) := by decide +kernel
theorem dX9_takes_8 : decode cX9_takes 8 = .ok (.iconst 0, 1) := by decide +kernel
theorem dX9_takes_9 : decode cX9_takes 9 = .ok (.ireturn, 1) := by decide +kernel
theorem dX9_takes_10 : decode cX9_takes 10 = .ok (.aload_n 0, 1) := by decide +kernel
theorem dX9_takes_11 : decode cX9_takes 11 = .ok (.dup, 1) := by decide +kernel
theorem dX9_takes_12 : decode cX9_takes 12 = .ok (.getfield 49, 3) := by decide +kernel
theorem dX9_takes_15 : decode cX9_takes 15 = .ok (.iconst 1, 1) := by decide +kernel
theorem dX9_takes_16 : decode cX9_takes 16 = .ok (.iadd, 1) := by decide +kernel
theorem dX9_takes_17 : decode cX9_takes 17 = .ok (.putfield 49, 3) := by decide +kernel
theorem dX9_takes_20 : decode cX9_takes 20 = .ok (.iconst 1, 1) := by decide +kernel
theorem dX9_takes_21 : decode cX9_takes 21 = .ok (.ireturn, 1) := by decide +kernel
theorem dX9_nameOf_0 : decode cX9_nameOf 0 = .ok (.iload_n 0, 1) := by decide +kernel
theorem dX9_nameOf_1 : decode cX9_nameOf 1 = .ok (.bipush 107, 2) := by decide +kernel
theorem dX9_nameOf_3 : decode cX9_nameOf 3 = .ok (.if_icmp .ne 7, 3) := by decide +kernel
theorem dX9_nameOf_6 : decode cX9_nameOf 6 = .ok (.iconst 0, 1) := by decide +kernel
theorem dX9_nameOf_7 : decode cX9_nameOf 7 = .ok (.goto 24, 3) := by decide +kernel
theorem dX9_nameOf_10 : decode cX9_nameOf 10 = .ok (.iload_n 0, 1) := by decide +kernel
theorem dX9_nameOf_11 : decode cX9_nameOf 11 = .ok (.bipush 118, 2) := by decide +kernel
theorem dX9_nameOf_13 : decode cX9_nameOf 13 = .ok (.if_icmp .ne 7, 3) := by decide +kernel
theorem dX9_nameOf_16 : decode cX9_nameOf 16 = .ok (.iconst 1, 1) := by decide +kernel
theorem dX9_nameOf_17 : decode cX9_nameOf 17 = .ok (.goto 14, 3) := by decide +kernel
theorem dX9_nameOf_20 : decode cX9_nameOf 20 = .ok (.iload_n 0, 1) := by decide +kernel
theorem dX9_nameOf_21 : decode cX9_nameOf 21 = .ok (.bipush 109, 2) := by decide +kernel
theorem dX9_nameOf_23 : decode cX9_nameOf 23 = .ok (.if_icmp .ne 7, 3) := by decide +kernel
theorem dX9_nameOf_26 : decode cX9_nameOf 26 = .ok (.iconst 2, 1) := by decide +kernel
theorem dX9_nameOf_27 : decode cX9_nameOf 27 = .ok (.goto 4, 3) := by decide +kernel
theorem dX9_nameOf_30 : decode cX9_nameOf 30 = .ok (.iconst (-1), 1) := by decide +kernel
theorem dX9_nameOf_31 : decode cX9_nameOf 31 = .ok (.ireturn, 1) := by decide +kernel
theorem dX9_either_0 : decode cX9_either 0 = .ok (.aload_n 0, 1) := by decide +kernel
theorem dX9_either_1 : decode cX9_either 1 = .ok (.invokevirtual 65, 3) := by decide +kernel
theorem dX9_either_4 : decode cX9_either 4 = .ok (.istore_n 1, 1) := by decide +kernel
theorem dX9_either_5 : decode cX9_either 5 = .ok (.aload_n 0, 1) := by decide +kernel
theorem dX9_either_6 : decode cX9_either 6 = .ok (.bipush 124, 2) := by decide +kernel
theorem dX9_either_8 : decode cX9_either 8 = .ok (.invokevirtual 68, 3) := by decide +kernel
theorem dX9_either_11 : decode cX9_either 11 = .ok (.ifCond .eq 25, 3) := by decide +kernel
theorem dX9_either_14 : decode cX9_either 14 = .ok (.aload_n 0, 1) := by decide +kernel
theorem dX9_either_15 : decode cX9_either 15 = .ok (.invokevirtual 65, 3) := by decide +kernel
theorem dX9_either_18 : decode cX9_either 18 = .ok (.istore_n 2, 1) := by decide +kernel
theorem dX9_either_19 : decode cX9_either 19 = .ok (.iload_n 1, 1) := by decide +kernel
theorem dX9_either_20 : decode cX9_either 20 = .ok (.ifCond .ne 7, 3) := by decide +kernel
theorem dX9_either_23 : decode cX9_either 23 = .ok (.iload_n 2, 1) := by decide +kernel
theorem dX9_either_24 : decode cX9_either 24 = .ok (.ifCond .eq 7, 3) := by decide +kernel
theorem dX9_either_27 : decode cX9_either 27 = .ok (.iconst 1, 1) := by decide +kernel
theorem dX9_either_28 : decode cX9_either 28 = .ok (.goto 4, 3) := by decide +kernel
theorem dX9_either_31 : decode cX9_either 31 = .ok (.iconst 0, 1) := by decide +kernel
theorem dX9_either_32 : decode cX9_either 32 = .ok (.istore_n 1, 1) := by decide +kernel
theorem dX9_either_33 : decode cX9_either 33 = .ok (.goto (-28), 3) := by decide +kernel
theorem dX9_either_36 : decode cX9_either 36 = .ok (.iload_n 1, 1) := by decide +kernel
theorem dX9_either_37 : decode cX9_either 37 = .ok (.ireturn, 1) := by decide +kernel
theorem dX9_both_0 : decode cX9_both 0 = .ok (.aload_n 0, 1) := by decide +kernel
theorem dX9_both_1 : decode cX9_both 1 = .ok (.invokevirtual 72, 3) := by decide +kernel
theorem dX9_both_4 : decode cX9_both 4 = .ok (.istore_n 1, 1) := by decide +kernel
theorem dX9_both_5 : decode cX9_both 5 = .ok (.aload_n 0, 1) := by decide +kernel
theorem dX9_both_6 : decode cX9_both 6 = .ok (.bipush 38, 2) := by decide +kernel
theorem dX9_both_8 : decode cX9_both 8 = .ok (.invokevirtual 68, 3) := by decide +kernel
theorem dX9_both_11 : decode cX9_both 11 = .ok (.ifCond .eq 25, 3) := by decide +kernel
theorem dX9_both_14 : decode cX9_both 14 = .ok (.aload_n 0, 1) := by decide +kernel
theorem dX9_both_15 : decode cX9_both 15 = .ok (.invokevirtual 72, 3) := by decide +kernel
theorem dX9_both_18 : decode cX9_both 18 = .ok (.istore_n 2, 1) := by decide +kernel
theorem dX9_both_19 : decode cX9_both 19 = .ok (.iload_n 1, 1) := by decide +kernel
theorem dX9_both_20 : decode cX9_both 20 = .ok (.ifCond .eq 11, 3) := by decide +kernel
theorem dX9_both_23 : decode cX9_both 23 = .ok (.iload_n 2, 1) := by decide +kernel
theorem dX9_both_24 : decode cX9_both 24 = .ok (.ifCond .eq 7, 3) := by decide +kernel
theorem dX9_both_27 : decode cX9_both 27 = .ok (.iconst 1, 1) := by decide +kernel
theorem dX9_both_28 : decode cX9_both 28 = .ok (.goto 4, 3) := by decide +kernel
theorem dX9_both_31 : decode cX9_both 31 = .ok (.iconst 0, 1) := by decide +kernel
theorem dX9_both_32 : decode cX9_both 32 = .ok (.istore_n 1, 1) := by decide +kernel
theorem dX9_both_33 : decode cX9_both 33 = .ok (.goto (-28), 3) := by decide +kernel
theorem dX9_both_36 : decode cX9_both 36 = .ok (.iload_n 1, 1) := by decide +kernel
theorem dX9_both_37 : decode cX9_both 37 = .ok (.ireturn, 1) := by decide +kernel
theorem dX9_compared_0 : decode cX9_compared 0 = .ok (.aload_n 0, 1) := by decide +kernel
theorem dX9_compared_1 : decode cX9_compared 1 = .ok (.invokevirtual 75, 3) := by decide +kernel
theorem dX9_compared_4 : decode cX9_compared 4 = .ok (.istore_n 1, 1) := by decide +kernel
theorem dX9_compared_5 : decode cX9_compared 5 = .ok (.aload_n 0, 1) := by decide +kernel
theorem dX9_compared_6 : decode cX9_compared 6 = .ok (.invokevirtual 61, 3) := by decide +kernel
theorem dX9_compared_9 : decode cX9_compared 9 = .ok (.istore_n 2, 1) := by decide +kernel
theorem dX9_compared_10 : decode cX9_compared 10 = .ok (.iload_n 2, 1) := by decide +kernel
theorem dX9_compared_11 : decode cX9_compared 11 = .ok (.bipush 60, 2) := by decide +kernel
theorem dX9_compared_13 : decode cX9_compared 13 = .ok (.if_icmp .eq 17, 3) := by decide +kernel
theorem dX9_compared_16 : decode cX9_compared 16 = .ok (.iload_n 2, 1) := by decide +kernel
theorem dX9_compared_17 : decode cX9_compared 17 = .ok (.bipush 61, 2) := by decide +kernel
theorem dX9_compared_19 : decode cX9_compared 19 = .ok (.if_icmp .eq 11, 3) := by decide +kernel
theorem dX9_compared_22 : decode cX9_compared 22 = .ok (.iload_n 2, 1) := by decide +kernel
theorem dX9_compared_23 : decode cX9_compared 23 = .ok (.bipush 62, 2) := by decide +kernel
theorem dX9_compared_25 : decode cX9_compared 25 = .ok (.if_icmp .eq 5, 3) := by decide +kernel
theorem dX9_compared_28 : decode cX9_compared 28 = .ok (.iload_n 1, 1) := by decide +kernel
theorem dX9_compared_29 : decode cX9_compared 29 = .ok (.ireturn, 1) := by decide +kernel
theorem dX9_compared_30 : decode cX9_compared 30 = .ok (.aload_n 0, 1) := by decide +kernel
theorem dX9_compared_31 : decode cX9_compared 31 = .ok (.dup, 1) := by decide +kernel
theorem dX9_compared_32 : decode cX9_compared 32 = .ok (.getfield 49, 3) := by decide +kernel
theorem dX9_compared_35 : decode cX9_compared 35 = .ok (.iconst 1, 1) := by decide +kernel
theorem dX9_compared_36 : decode cX9_compared 36 = .ok (.iadd, 1) := by decide +kernel
theorem dX9_compared_37 : decode cX9_compared 37 = .ok (.putfield 49, 3) := by decide +kernel
theorem dX9_compared_40 : decode cX9_compared 40 = .ok (.aload_n 0, 1) := by decide +kernel
theorem dX9_compared_41 : decode cX9_compared 41 = .ok (.invokevirtual 75, 3) := by decide +kernel
theorem dX9_compared_44 : decode cX9_compared 44 = .ok (.istore_n 3, 1) := by decide +kernel
theorem dX9_compared_45 : decode cX9_compared 45 = .ok (.iload_n 2, 1) := by decide +kernel
theorem dX9_compared_46 : decode cX9_compared 46 = .ok (.bipush 60, 2) := by decide +kernel
theorem dX9_compared_48 : decode cX9_compared 48 = .ok (.if_icmp .ne 11, 3) := by decide +kernel
theorem dX9_compared_51 : decode cX9_compared 51 = .ok (.iload_n 1, 1) := by decide +kernel
theorem dX9_compared_52 : decode cX9_compared 52 = .ok (.iload_n 3, 1) := by decide +kernel
theorem dX9_compared_53 : decode cX9_compared 53 = .ok (.if_icmp .ge 29, 3) := by decide +kernel
theorem dX9_compared_56 : decode cX9_compared 56 = .ok (.goto 22, 3) := by decide +kernel
theorem dX9_compared_59 : decode cX9_compared 59 = .ok (.iload_n 2, 1) := by decide +kernel
theorem dX9_compared_60 : decode cX9_compared 60 = .ok (.bipush 61, 2) := by decide +kernel
theorem dX9_compared_62 : decode cX9_compared 62 = .ok (.if_icmp .ne 11, 3) := by decide +kernel
theorem dX9_compared_65 : decode cX9_compared 65 = .ok (.iload_n 1, 1) := by decide +kernel
theorem dX9_compared_66 : decode cX9_compared 66 = .ok (.iload_n 3, 1) := by decide +kernel
theorem dX9_compared_67 : decode cX9_compared 67 = .ok (.if_icmp .ne 15, 3) := by decide +kernel
theorem dX9_compared_70 : decode cX9_compared 70 = .ok (.goto 8, 3) := by decide +kernel
theorem dX9_compared_73 : decode cX9_compared 73 = .ok (.iload_n 1, 1) := by decide +kernel
theorem dX9_compared_74 : decode cX9_compared 74 = .ok (.iload_n 3, 1) := by decide +kernel
theorem dX9_compared_75 : decode cX9_compared 75 = .ok (.if_icmp .le 7, 3) := by decide +kernel
theorem dX9_compared_78 : decode cX9_compared 78 = .ok (.iconst 1, 1) := by decide +kernel
theorem dX9_compared_79 : decode cX9_compared 79 = .ok (.goto 4, 3) := by decide +kernel
theorem dX9_compared_82 : decode cX9_compared 82 = .ok (.iconst 0, 1) := by decide +kernel
theorem dX9_compared_83 : decode cX9_compared 83 = .ok (.ireturn, 1) := by decide +kernel
theorem dX9_sum_0 : decode cX9_sum 0 = .ok (.aload_n 0, 1) := by decide +kernel
theorem dX9_sum_1 : decode cX9_sum 1 = .ok (.invokevirtual 78, 3) := by decide +kernel
theorem dX9_sum_4 : decode cX9_sum 4 = .ok (.istore_n 1, 1) := by decide +kernel
theorem dX9_sum_5 : decode cX9_sum 5 = .ok (.aload_n 0, 1) := by decide +kernel
theorem dX9_sum_6 : decode cX9_sum 6 = .ok (.invokevirtual 61, 3) := by decide +kernel
theorem dX9_sum_9 : decode cX9_sum 9 = .ok (.bipush 43, 2) := by decide +kernel
theorem dX9_sum_11 : decode cX9_sum 11 = .ok (.if_icmp .eq 12, 3) := by decide +kernel
theorem dX9_sum_14 : decode cX9_sum 14 = .ok (.aload_n 0, 1) := by decide +kernel
theorem dX9_sum_15 : decode cX9_sum 15 = .ok (.invokevirtual 61, 3) := by decide +kernel
theorem dX9_sum_18 : decode cX9_sum 18 = .ok (.bipush 45, 2) := by decide +kernel
theorem dX9_sum_20 : decode cX9_sum 20 = .ok (.if_icmp .ne 42, 3) := by decide +kernel
theorem dX9_sum_23 : decode cX9_sum 23 = .ok (.aload_n 0, 1) := by decide +kernel
theorem dX9_sum_24 : decode cX9_sum 24 = .ok (.invokevirtual 61, 3) := by decide +kernel
theorem dX9_sum_27 : decode cX9_sum 27 = .ok (.istore_n 2, 1) := by decide +kernel
theorem dX9_sum_28 : decode cX9_sum 28 = .ok (.aload_n 0, 1) := by decide +kernel
theorem dX9_sum_29 : decode cX9_sum 29 = .ok (.dup, 1) := by decide +kernel
theorem dX9_sum_30 : decode cX9_sum 30 = .ok (.getfield 49, 3) := by decide +kernel
theorem dX9_sum_33 : decode cX9_sum 33 = .ok (.iconst 1, 1) := by decide +kernel
theorem dX9_sum_34 : decode cX9_sum 34 = .ok (.iadd, 1) := by decide +kernel
theorem dX9_sum_35 : decode cX9_sum 35 = .ok (.putfield 49, 3) := by decide +kernel
theorem dX9_sum_38 : decode cX9_sum 38 = .ok (.aload_n 0, 1) := by decide +kernel
theorem dX9_sum_39 : decode cX9_sum 39 = .ok (.invokevirtual 78, 3) := by decide +kernel
theorem dX9_sum_42 : decode cX9_sum 42 = .ok (.istore_n 3, 1) := by decide +kernel
theorem dX9_sum_43 : decode cX9_sum 43 = .ok (.iload_n 2, 1) := by decide +kernel
theorem dX9_sum_44 : decode cX9_sum 44 = .ok (.bipush 43, 2) := by decide +kernel
theorem dX9_sum_46 : decode cX9_sum 46 = .ok (.if_icmp .ne 9, 3) := by decide +kernel
theorem dX9_sum_49 : decode cX9_sum 49 = .ok (.iload_n 1, 1) := by decide +kernel
theorem dX9_sum_50 : decode cX9_sum 50 = .ok (.iload_n 3, 1) := by decide +kernel
theorem dX9_sum_51 : decode cX9_sum 51 = .ok (.iadd, 1) := by decide +kernel
theorem dX9_sum_52 : decode cX9_sum 52 = .ok (.goto 6, 3) := by decide +kernel
theorem dX9_sum_55 : decode cX9_sum 55 = .ok (.iload_n 1, 1) := by decide +kernel
theorem dX9_sum_56 : decode cX9_sum 56 = .ok (.iload_n 3, 1) := by decide +kernel
theorem dX9_sum_57 : decode cX9_sum 57 = .ok (.isub, 1) := by decide +kernel
theorem dX9_sum_58 : decode cX9_sum 58 = .ok (.istore_n 1, 1) := by decide +kernel
theorem dX9_sum_59 : decode cX9_sum 59 = .ok (.goto (-54), 3) := by decide +kernel
theorem dX9_sum_62 : decode cX9_sum 62 = .ok (.iload_n 1, 1) := by decide +kernel
theorem dX9_sum_63 : decode cX9_sum 63 = .ok (.ireturn, 1) := by decide +kernel
theorem dX9_product_0 : decode cX9_product 0 = .ok (.aload_n 0, 1) := by decide +kernel
theorem dX9_product_1 : decode cX9_product 1 = .ok (.invokevirtual 81, 3) := by decide +kernel
theorem dX9_product_4 : decode cX9_product 4 = .ok (.istore_n 1, 1) := by decide +kernel
theorem dX9_product_5 : decode cX9_product 5 = .ok (.aload_n 0, 1) := by decide +kernel
theorem dX9_product_6 : decode cX9_product 6 = .ok (.invokevirtual 61, 3) := by decide +kernel
theorem dX9_product_9 : decode cX9_product 9 = .ok (.bipush 42, 2) := by decide +kernel
theorem dX9_product_11 : decode cX9_product 11 = .ok (.if_icmp .eq 21, 3) := by decide +kernel
theorem dX9_product_14 : decode cX9_product 14 = .ok (.aload_n 0, 1) := by decide +kernel
theorem dX9_product_15 : decode cX9_product 15 = .ok (.invokevirtual 61, 3) := by decide +kernel
theorem dX9_product_18 : decode cX9_product 18 = .ok (.bipush 47, 2) := by decide +kernel
theorem dX9_product_20 : decode cX9_product 20 = .ok (.if_icmp .eq 12, 3) := by decide +kernel
theorem dX9_product_23 : decode cX9_product 23 = .ok (.aload_n 0, 1) := by decide +kernel
theorem dX9_product_24 : decode cX9_product 24 = .ok (.invokevirtual 61, 3) := by decide +kernel
theorem dX9_product_27 : decode cX9_product 27 = .ok (.bipush 37, 2) := by decide +kernel
theorem dX9_product_29 : decode cX9_product 29 = .ok (.if_icmp .ne 62, 3) := by decide +kernel
theorem dX9_product_32 : decode cX9_product 32 = .ok (.aload_n 0, 1) := by decide +kernel
theorem dX9_product_33 : decode cX9_product 33 = .ok (.invokevirtual 61, 3) := by decide +kernel
theorem dX9_product_36 : decode cX9_product 36 = .ok (.istore_n 2, 1) := by decide +kernel
theorem dX9_product_37 : decode cX9_product 37 = .ok (.aload_n 0, 1) := by decide +kernel
theorem dX9_product_38 : decode cX9_product 38 = .ok (.dup, 1) := by decide +kernel
theorem dX9_product_39 : decode cX9_product 39 = .ok (.getfield 49, 3) := by decide +kernel
theorem dX9_product_42 : decode cX9_product 42 = .ok (.iconst 1, 1) := by decide +kernel
theorem dX9_product_43 : decode cX9_product 43 = .ok (.iadd, 1) := by decide +kernel
theorem dX9_product_44 : decode cX9_product 44 = .ok (.putfield 49, 3) := by decide +kernel
theorem dX9_product_47 : decode cX9_product 47 = .ok (.aload_n 0, 1) := by decide +kernel
theorem dX9_product_48 : decode cX9_product 48 = .ok (.invokevirtual 81, 3) := by decide +kernel
theorem dX9_product_51 : decode cX9_product 51 = .ok (.istore_n 3, 1) := by decide +kernel
theorem dX9_product_52 : decode cX9_product 52 = .ok (.iload_n 2, 1) := by decide +kernel
theorem dX9_product_53 : decode cX9_product 53 = .ok (.bipush 42, 2) := by decide +kernel
theorem dX9_product_55 : decode cX9_product 55 = .ok (.if_icmp .ne 9, 3) := by decide +kernel
theorem dX9_product_58 : decode cX9_product 58 = .ok (.iload_n 1, 1) := by decide +kernel
theorem dX9_product_59 : decode cX9_product 59 = .ok (.iload_n 3, 1) := by decide +kernel
theorem dX9_product_60 : decode cX9_product 60 = .ok (.imul, 1) := by decide +kernel
theorem dX9_product_61 : decode cX9_product 61 = .ok (.goto 26, 3) := by decide +kernel
theorem dX9_product_64 : decode cX9_product 64 = .ok (.iload_n 3, 1) := by decide +kernel
theorem dX9_product_65 : decode cX9_product 65 = .ok (.ifCond .ne 7, 3) := by decide +kernel
theorem dX9_product_68 : decode cX9_product 68 = .ok (.iconst 0, 1) := by decide +kernel
theorem dX9_product_69 : decode cX9_product 69 = .ok (.goto 18, 3) := by decide +kernel
theorem dX9_product_72 : decode cX9_product 72 = .ok (.iload_n 2, 1) := by decide +kernel
theorem dX9_product_73 : decode cX9_product 73 = .ok (.bipush 47, 2) := by decide +kernel
theorem dX9_product_75 : decode cX9_product 75 = .ok (.if_icmp .ne 9, 3) := by decide +kernel
theorem dX9_product_78 : decode cX9_product 78 = .ok (.iload_n 1, 1) := by decide +kernel
theorem dX9_product_79 : decode cX9_product 79 = .ok (.iload_n 3, 1) := by decide +kernel
theorem dX9_product_80 : decode cX9_product 80 = .ok (.idiv, 1) := by decide +kernel
theorem dX9_product_81 : decode cX9_product 81 = .ok (.goto 6, 3) := by decide +kernel
theorem dX9_product_84 : decode cX9_product 84 = .ok (.iload_n 1, 1) := by decide +kernel
theorem dX9_product_85 : decode cX9_product 85 = .ok (.iload_n 3, 1) := by decide +kernel
theorem dX9_product_86 : decode cX9_product 86 = .ok (.irem, 1) := by decide +kernel
theorem dX9_product_87 : decode cX9_product 87 = .ok (.istore_n 1, 1) := by decide +kernel
theorem dX9_product_88 : decode cX9_product 88 = .ok (.goto (-83), 3) := by decide +kernel
theorem dX9_product_91 : decode cX9_product 91 = .ok (.iload_n 1, 1) := by decide +kernel
theorem dX9_product_92 : decode cX9_product 92 = .ok (.ireturn, 1) := by decide +kernel
theorem dX9_unit_0 : decode cX9_unit 0 = .ok (.aload_n 0, 1) := by decide +kernel
theorem dX9_unit_1 : decode cX9_unit 1 = .ok (.invokevirtual 61, 3) := by decide +kernel
theorem dX9_unit_4 : decode cX9_unit 4 = .ok (.istore_n 1, 1) := by decide +kernel
theorem dX9_unit_5 : decode cX9_unit 5 = .ok (.iload_n 1, 1) := by decide +kernel
theorem dX9_unit_6 : decode cX9_unit 6 = .ok (.bipush 33, 2) := by decide +kernel
theorem dX9_unit_8 : decode cX9_unit 8 = .ok (.if_icmp .eq 9, 3) := by decide +kernel
theorem dX9_unit_11 : decode cX9_unit 11 = .ok (.iload_n 1, 1) := by decide +kernel
theorem dX9_unit_12 : decode cX9_unit 12 = .ok (.bipush 40, 2) := by decide +kernel
theorem dX9_unit_14 : decode cX9_unit 14 = .ok (.if_icmp .ne 104, 3) := by decide +kernel
theorem dX9_unit_17 : decode cX9_unit 17 = .ok (.aload_n 0, 1) := by decide +kernel
theorem dX9_unit_18 : decode cX9_unit 18 = .ok (.getfield 84, 3) := by decide +kernel
theorem dX9_unit_21 : decode cX9_unit 21 = .ok (.iconst 5, 1) := by decide +kernel
theorem dX9_unit_22 : decode cX9_unit 22 = .ok (.if_icmp .ne 8, 3) := by decide +kernel
theorem dX9_unit_25 : decode cX9_unit 25 = .ok (.aload_n 0, 1) := by decide +kernel
theorem dX9_unit_26 : decode cX9_unit 26 = .ok (.invokevirtual 87, 3) := by decide +kernel
theorem dX9_unit_29 : decode cX9_unit 29 = .ok (.ireturn, 1) := by decide +kernel
theorem dX9_unit_30 : decode cX9_unit 30 = .ok (.aload_n 0, 1) := by decide +kernel
theorem dX9_unit_31 : decode cX9_unit 31 = .ok (.dup, 1) := by decide +kernel
theorem dX9_unit_32 : decode cX9_unit 32 = .ok (.getfield 84, 3) := by decide +kernel
theorem dX9_unit_35 : decode cX9_unit 35 = .ok (.iconst 1, 1) := by decide +kernel
theorem dX9_unit_36 : decode cX9_unit 36 = .ok (.iadd, 1) := by decide +kernel
theorem dX9_unit_37 : decode cX9_unit 37 = .ok (.putfield 84, 3) := by decide +kernel
theorem dX9_unit_40 : decode cX9_unit 40 = .ok (.aload_n 0, 1) := by decide +kernel
theorem dX9_unit_41 : decode cX9_unit 41 = .ok (.dup, 1) := by decide +kernel
theorem dX9_unit_42 : decode cX9_unit 42 = .ok (.getfield 49, 3) := by decide +kernel
theorem dX9_unit_45 : decode cX9_unit 45 = .ok (.iconst 1, 1) := by decide +kernel
theorem dX9_unit_46 : decode cX9_unit 46 = .ok (.iadd, 1) := by decide +kernel
theorem dX9_unit_47 : decode cX9_unit 47 = .ok (.putfield 49, 3) := by decide +kernel
theorem dX9_unit_50 : decode cX9_unit 50 = .ok (.iload_n 1, 1) := by decide +kernel
theorem dX9_unit_51 : decode cX9_unit 51 = .ok (.bipush 40, 2) := by decide +kernel
theorem dX9_unit_53 : decode cX9_unit 53 = .ok (.if_icmp .ne 10, 3) := by decide +kernel
theorem dX9_unit_56 : decode cX9_unit 56 = .ok (.aload_n 0, 1) := by decide +kernel
theorem dX9_unit_57 : decode cX9_unit 57 = .ok (.invokevirtual 90, 3) := by decide +kernel
theorem dX9_unit_60 : decode cX9_unit 60 = .ok (.goto 7, 3) := by decide +kernel
theorem dX9_unit_63 : decode cX9_unit 63 = .ok (.aload_n 0, 1) := by decide +kernel
theorem dX9_unit_64 : decode cX9_unit 64 = .ok (.invokevirtual 81, 3) := by decide +kernel
theorem dX9_unit_67 : decode cX9_unit 67 = .ok (.istore_n 2, 1) := by decide +kernel
theorem dX9_unit_68 : decode cX9_unit 68 = .ok (.iload_n 1, 1) := by decide +kernel
theorem dX9_unit_69 : decode cX9_unit 69 = .ok (.bipush 40, 2) := by decide +kernel
theorem dX9_unit_71 : decode cX9_unit 71 = .ok (.if_icmp .ne 17, 3) := by decide +kernel
theorem dX9_unit_74 : decode cX9_unit 74 = .ok (.aload_n 0, 1) := by decide +kernel
theorem dX9_unit_75 : decode cX9_unit 75 = .ok (.bipush 41, 2) := by decide +kernel
theorem dX9_unit_77 : decode cX9_unit 77 = .ok (.invokevirtual 68, 3) := by decide +kernel
theorem dX9_unit_80 : decode cX9_unit 80 = .ok (.ifCond .ne 8, 3) := by decide +kernel
theorem dX9_unit_83 : decode cX9_unit 83 = .ok (.aload_n 0, 1) := by decide +kernel
theorem dX9_unit_84 : decode cX9_unit 84 = .ok (.invokevirtual 87, 3) := by decide +kernel
theorem dX9_unit_87 : decode cX9_unit 87 = .ok (.ireturn, 1) := by decide +kernel
theorem dX9_unit_88 : decode cX9_unit 88 = .ok (.aload_n 0, 1) := by decide +kernel
theorem dX9_unit_89 : decode cX9_unit 89 = .ok (.dup, 1) := by decide +kernel
theorem dX9_unit_90 : decode cX9_unit 90 = .ok (.getfield 84, 3) := by decide +kernel
theorem dX9_unit_93 : decode cX9_unit 93 = .ok (.iconst 1, 1) := by decide +kernel
theorem dX9_unit_94 : decode cX9_unit 94 = .ok (.isub, 1) := by decide +kernel
theorem dX9_unit_95 : decode cX9_unit 95 = .ok (.putfield 84, 3) := by decide +kernel
theorem dX9_unit_98 : decode cX9_unit 98 = .ok (.iload_n 1, 1) := by decide +kernel
theorem dX9_unit_99 : decode cX9_unit 99 = .ok (.bipush 40, 2) := by decide +kernel
theorem dX9_unit_101 : decode cX9_unit 101 = .ok (.if_icmp .ne 7, 3) := by decide +kernel
theorem dX9_unit_104 : decode cX9_unit 104 = .ok (.iload_n 2, 1) := by decide +kernel
theorem dX9_unit_105 : decode cX9_unit 105 = .ok (.goto 12, 3) := by decide +kernel
theorem dX9_unit_108 : decode cX9_unit 108 = .ok (.iload_n 2, 1) := by decide +kernel
theorem dX9_unit_109 : decode cX9_unit 109 = .ok (.ifCond .ne 7, 3) := by decide +kernel
theorem dX9_unit_112 : decode cX9_unit 112 = .ok (.iconst 1, 1) := by decide +kernel
theorem dX9_unit_113 : decode cX9_unit 113 = .ok (.goto 4, 3) := by decide +kernel
theorem dX9_unit_116 : decode cX9_unit 116 = .ok (.iconst 0, 1) := by decide +kernel
theorem dX9_unit_117 : decode cX9_unit 117 = .ok (.ireturn, 1) := by decide +kernel
theorem dX9_unit_118 : decode cX9_unit 118 = .ok (.iload_n 1, 1) := by decide +kernel
theorem dX9_unit_119 : decode cX9_unit 119 = .ok (.invokestatic 93, 3) := by decide +kernel
theorem dX9_unit_122 : decode cX9_unit 122 = .ok (.istore_n 2, 1) := by decide +kernel
theorem dX9_unit_123 : decode cX9_unit 123 = .ok (.iload_n 2, 1) := by decide +kernel
theorem dX9_unit_124 : decode cX9_unit 124 = .ok (.ifCond .lt 20, 3) := by decide +kernel
theorem dX9_unit_127 : decode cX9_unit 127 = .ok (.aload_n 0, 1) := by decide +kernel
theorem dX9_unit_128 : decode cX9_unit 128 = .ok (.dup, 1) := by decide +kernel
theorem dX9_unit_129 : decode cX9_unit 129 = .ok (.getfield 49, 3) := by decide +kernel
theorem dX9_unit_132 : decode cX9_unit 132 = .ok (.iconst 1, 1) := by decide +kernel
theorem dX9_unit_133 : decode cX9_unit 133 = .ok (.iadd, 1) := by decide +kernel
theorem dX9_unit_134 : decode cX9_unit 134 = .ok (.putfield 49, 3) := by decide +kernel
theorem dX9_unit_137 : decode cX9_unit 137 = .ok (.aload_n 0, 1) := by decide +kernel
theorem dX9_unit_138 : decode cX9_unit 138 = .ok (.getfield 19, 3) := by decide +kernel
theorem dX9_unit_141 : decode cX9_unit 141 = .ok (.iload_n 2, 1) := by decide +kernel
theorem dX9_unit_142 : decode cX9_unit 142 = .ok (.iaload, 1) := by decide +kernel
theorem dX9_unit_143 : decode cX9_unit 143 = .ok (.ireturn, 1) := by decide +kernel
theorem dX9_unit_144 : decode cX9_unit 144 = .ok (.iconst 0, 1) := by decide +kernel
theorem dX9_unit_145 : decode cX9_unit 145 = .ok (.istore_n 3, 1) := by decide +kernel
theorem dX9_unit_146 : decode cX9_unit 146 = .ok (.iconst 0, 1) := by decide +kernel
theorem dX9_unit_147 : decode cX9_unit 147 = .ok (.istore 4, 2) := by decide +kernel
theorem dX9_unit_149 : decode cX9_unit 149 = .ok (.iload 4, 2) := by decide +kernel
theorem dX9_unit_151 : decode cX9_unit 151 = .ok (.iconst 4, 1) := by decide +kernel
theorem dX9_unit_152 : decode cX9_unit 152 = .ok (.if_icmp .ge 49, 3) := by decide +kernel
theorem dX9_unit_155 : decode cX9_unit 155 = .ok (.aload_n 0, 1) := by decide +kernel
theorem dX9_unit_156 : decode cX9_unit 156 = .ok (.invokevirtual 61, 3) := by decide +kernel
theorem dX9_unit_159 : decode cX9_unit 159 = .ok (.i2l, 1) := by decide +kernel
theorem dX9_unit_160 : decode cX9_unit 160 = .ok (.ldc2_w 97, 3) := by decide +kernel
theorem dX9_unit_163 : decode cX9_unit 163 = .ok (.ldc2_w 99, 3) := by decide +kernel
theorem dX9_unit_166 : decode cX9_unit 166 = .ok (.invokestatic 45, 3) := by decide +kernel
theorem dX9_unit_169 : decode cX9_unit 169 = .ok (.ifCond .eq 32, 3) := by decide +kernel
theorem dX9_unit_172 : decode cX9_unit 172 = .ok (.bipush 10, 2) := by decide +kernel
theorem dX9_unit_174 : decode cX9_unit 174 = .ok (.iload_n 3, 1) := by decide +kernel
theorem dX9_unit_175 : decode cX9_unit 175 = .ok (.imul, 1) := by decide +kernel
theorem dX9_unit_176 : decode cX9_unit 176 = .ok (.aload_n 0, 1) := by decide +kernel
theorem dX9_unit_177 : decode cX9_unit 177 = .ok (.invokevirtual 61, 3) := by decide +kernel
theorem dX9_unit_180 : decode cX9_unit 180 = .ok (.iadd, 1) := by decide +kernel
theorem dX9_unit_181 : decode cX9_unit 181 = .ok (.bipush 48, 2) := by decide +kernel
theorem dX9_unit_183 : decode cX9_unit 183 = .ok (.isub, 1) := by decide +kernel
theorem dX9_unit_184 : decode cX9_unit 184 = .ok (.istore_n 3, 1) := by decide +kernel
theorem dX9_unit_185 : decode cX9_unit 185 = .ok (.aload_n 0, 1) := by decide +kernel
theorem dX9_unit_186 : decode cX9_unit 186 = .ok (.dup, 1) := by decide +kernel
theorem dX9_unit_187 : decode cX9_unit 187 = .ok (.getfield 49, 3) := by decide +kernel
theorem dX9_unit_190 : decode cX9_unit 190 = .ok (.iconst 1, 1) := by decide +kernel
theorem dX9_unit_191 : decode cX9_unit 191 = .ok (.iadd, 1) := by decide +kernel
theorem dX9_unit_192 : decode cX9_unit 192 = .ok (.putfield 49, 3) := by decide +kernel
theorem dX9_unit_195 : decode cX9_unit 195 = .ok (.iinc 4 1, 3) := by decide +kernel
theorem dX9_unit_198 : decode cX9_unit 198 = .ok (.goto (-49), 3) := by decide +kernel
theorem dX9_unit_201 : decode cX9_unit 201 = .ok (.iload 4, 2) := by decide +kernel
theorem dX9_unit_203 : decode cX9_unit 203 = .ok (.ifCond .ne 10, 3) := by decide +kernel
theorem dX9_unit_206 : decode cX9_unit 206 = .ok (.aload_n 0, 1) := by decide +kernel
theorem dX9_unit_207 : decode cX9_unit 207 = .ok (.invokevirtual 87, 3) := by decide +kernel
theorem dX9_unit_210 : decode cX9_unit 210 = .ok (.goto 4, 3) := by decide +kernel
theorem dX9_unit_213 : decode cX9_unit 213 = .ok (.iload_n 3, 1) := by decide +kernel
theorem dX9_unit_214 : decode cX9_unit 214 = .ok (.ireturn, 1) := by decide +kernel
theorem dX9_worked_0 : decode cX9_worked 0 = .ok (.aload_n 0, 1) := by decide +kernel
theorem dX9_worked_1 : decode cX9_worked 1 = .ok (.iload_n 1, 1) := by decide +kernel
theorem dX9_worked_2 : decode cX9_worked 2 = .ok (.putfield 58, 3) := by decide +kernel
theorem dX9_worked_5 : decode cX9_worked 5 = .ok (.aload_n 0, 1) := by decide +kernel
theorem dX9_worked_6 : decode cX9_worked 6 = .ok (.iconst 0, 1) := by decide +kernel
theorem dX9_worked_7 : decode cX9_worked 7 = .ok (.putfield 49, 3) := by decide +kernel
theorem dX9_worked_10 : decode cX9_worked 10 = .ok (.aload_n 0, 1) := by decide +kernel
theorem dX9_worked_11 : decode cX9_worked 11 = .ok (.iload_n 2, 1) := by decide +kernel
theorem dX9_worked_12 : decode cX9_worked 12 = .ok (.putfield 52, 3) := by decide +kernel
theorem dX9_worked_15 : decode cX9_worked 15 = .ok (.aload_n 0, 1) := by decide +kernel
theorem dX9_worked_16 : decode cX9_worked 16 = .ok (.iconst (-1), 1) := by decide +kernel
theorem dX9_worked_17 : decode cX9_worked 17 = .ok (.putfield 55, 3) := by decide +kernel
theorem dX9_worked_20 : decode cX9_worked 20 = .ok (.aload_n 0, 1) := by decide +kernel
theorem dX9_worked_21 : decode cX9_worked 21 = .ok (.iconst 0, 1) := by decide +kernel
theorem dX9_worked_22 : decode cX9_worked 22 = .ok (.putfield 84, 3) := by decide +kernel
theorem dX9_worked_25 : decode cX9_worked 25 = .ok (.aload_n 0, 1) := by decide +kernel
theorem dX9_worked_26 : decode cX9_worked 26 = .ok (.invokevirtual 90, 3) := by decide +kernel
theorem dX9_worked_29 : decode cX9_worked 29 = .ok (.istore 4, 2) := by decide +kernel
theorem dX9_worked_31 : decode cX9_worked 31 = .ok (.aload_n 0, 1) := by decide +kernel
theorem dX9_worked_32 : decode cX9_worked 32 = .ok (.getfield 55, 3) := by decide +kernel
theorem dX9_worked_35 : decode cX9_worked 35 = .ok (.ifCond .ge 19, 3) := by decide +kernel
theorem dX9_worked_38 : decode cX9_worked 38 = .ok (.aload_n 0, 1) := by decide +kernel
theorem dX9_worked_39 : decode cX9_worked 39 = .ok (.getfield 49, 3) := by decide +kernel
theorem dX9_worked_42 : decode cX9_worked 42 = .ok (.aload_n 0, 1) := by decide +kernel
theorem dX9_worked_43 : decode cX9_worked 43 = .ok (.getfield 52, 3) := by decide +kernel
theorem dX9_worked_46 : decode cX9_worked 46 = .ok (.if_icmp .ge 8, 3) := by decide +kernel
theorem dX9_worked_49 : decode cX9_worked 49 = .ok (.aload_n 0, 1) := by decide +kernel
theorem dX9_worked_50 : decode cX9_worked 50 = .ok (.invokevirtual 87, 3) := by decide +kernel
theorem dX9_worked_53 : decode cX9_worked 53 = .ok (.ireturn, 1) := by decide +kernel
theorem dX9_worked_54 : decode cX9_worked 54 = .ok (.iload 4, 2) := by decide +kernel
theorem dX9_worked_56 : decode cX9_worked 56 = .ok (.ireturn, 1) := by decide +kernel
theorem dX9_feed_0 : decode cX9_feed 0 = .ok (.iload_n 3, 1) := by decide +kernel
theorem dX9_feed_1 : decode cX9_feed 1 = .ok (.i2l, 1) := by decide +kernel
theorem dX9_feed_2 : decode cX9_feed 2 = .ok (.lconst 1, 1) := by decide +kernel
theorem dX9_feed_3 : decode cX9_feed 3 = .ok (.ldc2_w 101, 3) := by decide +kernel
theorem dX9_feed_6 : decode cX9_feed 6 = .ok (.invokestatic 45, 3) := by decide +kernel
theorem dX9_feed_9 : decode cX9_feed 9 = .ok (.ifCond .ne 9, 3) := by decide +kernel
theorem dX9_feed_12 : decode cX9_feed 12 = .ok (.aload_n 0, 1) := by decide +kernel
theorem dX9_feed_13 : decode cX9_feed 13 = .ok (.iconst 1, 1) := by decide +kernel
theorem dX9_feed_14 : decode cX9_feed 14 = .ok (.invokevirtual 103, 3) := by decide +kernel
theorem dX9_feed_17 : decode cX9_feed 17 = .ok (.ireturn, 1) := by decide +kernel
theorem dX9_feed_18 : decode cX9_feed 18 = .ok (.aload_n 0, 1) := by decide +kernel
theorem dX9_feed_19 : decode cX9_feed 19 = .ok (.getfield 7, 3) := by decide +kernel
theorem dX9_feed_22 : decode cX9_feed 22 = .ok (.bipush 9, 2) := by decide +kernel
theorem dX9_feed_24 : decode cX9_feed 24 = .ok (.iaload, 1) := by decide +kernel
theorem dX9_feed_25 : decode cX9_feed 25 = .ok (.iload_n 3, 1) := by decide +kernel
theorem dX9_feed_26 : decode cX9_feed 26 = .ok (.iadd, 1) := by decide +kernel
theorem dX9_feed_27 : decode cX9_feed 27 = .ok (.bipush 50, 2) := by decide +kernel
theorem dX9_feed_29 : decode cX9_feed 29 = .ok (.if_icmp .le 9, 3) := by decide +kernel
theorem dX9_feed_32 : decode cX9_feed 32 = .ok (.aload_n 0, 1) := by decide +kernel
theorem dX9_feed_33 : decode cX9_feed 33 = .ok (.iconst 4, 1) := by decide +kernel
theorem dX9_feed_34 : decode cX9_feed 34 = .ok (.invokevirtual 103, 3) := by decide +kernel
theorem dX9_feed_37 : decode cX9_feed 37 = .ok (.ireturn, 1) := by decide +kernel
theorem dX9_feed_38 : decode cX9_feed 38 = .ok (.iconst 0, 1) := by decide +kernel
theorem dX9_feed_39 : decode cX9_feed 39 = .ok (.istore 4, 2) := by decide +kernel
theorem dX9_feed_41 : decode cX9_feed 41 = .ok (.iload 4, 2) := by decide +kernel
theorem dX9_feed_43 : decode cX9_feed 43 = .ok (.iload_n 3, 1) := by decide +kernel
theorem dX9_feed_44 : decode cX9_feed 44 = .ok (.if_icmp .ge 48, 3) := by decide +kernel
theorem dX9_feed_47 : decode cX9_feed 47 = .ok (.aload_n 0, 1) := by decide +kernel
theorem dX9_feed_48 : decode cX9_feed 48 = .ok (.getfield 7, 3) := by decide +kernel
theorem dX9_feed_51 : decode cX9_feed 51 = .ok (.sipush 212, 3) := by decide +kernel
theorem dX9_feed_54 : decode cX9_feed 54 = .ok (.aload_n 0, 1) := by decide +kernel
theorem dX9_feed_55 : decode cX9_feed 55 = .ok (.getfield 7, 3) := by decide +kernel
theorem dX9_feed_58 : decode cX9_feed 58 = .ok (.bipush 9, 2) := by decide +kernel
theorem dX9_feed_60 : decode cX9_feed 60 = .ok (.iaload, 1) := by decide +kernel
theorem dX9_feed_61 : decode cX9_feed 61 = .ok (.iadd, 1) := by decide +kernel
theorem dX9_feed_62 : decode cX9_feed 62 = .ok (.lload_n 1, 1) := by decide +kernel
theorem dX9_feed_63 : decode cX9_feed 63 = .ok (.bipush 8, 2) := by decide +kernel
theorem dX9_feed_65 : decode cX9_feed 65 = .ok (.iload 4, 2) := by decide +kernel
theorem dX9_feed_67 : decode cX9_feed 67 = .ok (.imul, 1) := by decide +kernel
theorem dX9_feed_68 : decode cX9_feed 68 = .ok (.lshr, 1) := by decide +kernel
theorem dX9_feed_69 : decode cX9_feed 69 = .ok (.ldc2_w 106, 3) := by decide +kernel
theorem dX9_feed_72 : decode cX9_feed 72 = .ok (.land, 1) := by decide +kernel
theorem dX9_feed_73 : decode cX9_feed 73 = .ok (.l2i, 1) := by decide +kernel
theorem dX9_feed_74 : decode cX9_feed 74 = .ok (.iastore, 1) := by decide +kernel
theorem dX9_feed_75 : decode cX9_feed 75 = .ok (.aload_n 0, 1) := by decide +kernel
theorem dX9_feed_76 : decode cX9_feed 76 = .ok (.getfield 7, 3) := by decide +kernel
theorem dX9_feed_79 : decode cX9_feed 79 = .ok (.bipush 9, 2) := by decide +kernel
theorem dX9_feed_81 : decode cX9_feed 81 = .ok (.dup2, 1) := by decide +kernel
theorem dX9_feed_82 : decode cX9_feed 82 = .ok (.iaload, 1) := by decide +kernel
theorem dX9_feed_83 : decode cX9_feed 83 = .ok (.iconst 1, 1) := by decide +kernel
theorem dX9_feed_84 : decode cX9_feed 84 = .ok (.iadd, 1) := by decide +kernel
theorem dX9_feed_85 : decode cX9_feed 85 = .ok (.iastore, 1) := by decide +kernel
theorem dX9_feed_86 : decode cX9_feed 86 = .ok (.iinc 4 1, 3) := by decide +kernel
theorem dX9_feed_89 : decode cX9_feed 89 = .ok (.goto (-48), 3) := by decide +kernel
theorem dX9_feed_92 : decode cX9_feed 92 = .ok (.aload_n 0, 1) := by decide +kernel
theorem dX9_feed_93 : decode cX9_feed 93 = .ok (.getfield 7, 3) := by decide +kernel
theorem dX9_feed_96 : decode cX9_feed 96 = .ok (.bipush 9, 2) := by decide +kernel
theorem dX9_feed_98 : decode cX9_feed 98 = .ok (.iaload, 1) := by decide +kernel
theorem dX9_feed_99 : decode cX9_feed 99 = .ok (.ireturn, 1) := by decide +kernel
theorem dX9_text_0 : decode cX9_text 0 = .ok (.iload_n 1, 1) := by decide +kernel
theorem dX9_text_1 : decode cX9_text 1 = .ok (.i2l, 1) := by decide +kernel
theorem dX9_text_2 : decode cX9_text 2 = .ok (.lconst 0, 1) := by decide +kernel
theorem dX9_text_3 : decode cX9_text 3 = .ok (.lconst 1, 1) := by decide +kernel
theorem dX9_text_4 : decode cX9_text 4 = .ok (.invokestatic 45, 3) := by decide +kernel
theorem dX9_text_7 : decode cX9_text 7 = .ok (.ifCond .ne 9, 3) := by decide +kernel
theorem dX9_text_10 : decode cX9_text 10 = .ok (.aload_n 0, 1) := by decide +kernel
theorem dX9_text_11 : decode cX9_text 11 = .ok (.iconst 1, 1) := by decide +kernel
theorem dX9_text_12 : decode cX9_text 12 = .ok (.invokevirtual 103, 3) := by decide +kernel
theorem dX9_text_15 : decode cX9_text 15 = .ok (.ireturn, 1) := by decide +kernel
theorem dX9_text_16 : decode cX9_text 16 = .ok (.aload_n 0, 1) := by decide +kernel
theorem dX9_text_17 : decode cX9_text 17 = .ok (.getfield 7, 3) := by decide +kernel
theorem dX9_text_20 : decode cX9_text 20 = .ok (.bipush 9, 2) := by decide +kernel
theorem dX9_text_22 : decode cX9_text 22 = .ok (.iaload, 1) := by decide +kernel
theorem dX9_text_23 : decode cX9_text 23 = .ok (.istore_n 2, 1) := by decide +kernel
theorem dX9_text_24 : decode cX9_text 24 = .ok (.aload_n 0, 1) := by decide +kernel
theorem dX9_text_25 : decode cX9_text 25 = .ok (.getfield 7, 3) := by decide +kernel
theorem dX9_text_28 : decode cX9_text 28 = .ok (.bipush 9, 2) := by decide +kernel
theorem dX9_text_30 : decode cX9_text 30 = .ok (.iconst 0, 1) := by decide +kernel
theorem dX9_text_31 : decode cX9_text 31 = .ok (.iastore, 1) := by decide +kernel
theorem dX9_text_32 : decode cX9_text 32 = .ok (.aload_n 0, 1) := by decide +kernel
theorem dX9_text_33 : decode cX9_text 33 = .ok (.sipush 212, 3) := by decide +kernel
theorem dX9_text_36 : decode cX9_text 36 = .ok (.iload_n 2, 1) := by decide +kernel
theorem dX9_text_37 : decode cX9_text 37 = .ok (.iload_n 1, 1) := by decide +kernel
theorem dX9_text_38 : decode cX9_text 38 = .ok (.invokevirtual 108, 3) := by decide +kernel
theorem dX9_text_41 : decode cX9_text 41 = .ok (.istore_n 3, 1) := by decide +kernel
theorem dX9_text_42 : decode cX9_text 42 = .ok (.aload_n 0, 1) := by decide +kernel
theorem dX9_text_43 : decode cX9_text 43 = .ok (.getfield 55, 3) := by decide +kernel
theorem dX9_text_46 : decode cX9_text 46 = .ok (.ifCond .lt 11, 3) := by decide +kernel
theorem dX9_text_49 : decode cX9_text 49 = .ok (.bipush (-10), 2) := by decide +kernel
theorem dX9_text_51 : decode cX9_text 51 = .ok (.aload_n 0, 1) := by decide +kernel
theorem dX9_text_52 : decode cX9_text 52 = .ok (.getfield 55, 3) := by decide +kernel
theorem dX9_text_55 : decode cX9_text 55 = .ok (.isub, 1) := by decide +kernel
theorem dX9_text_56 : decode cX9_text 56 = .ok (.ireturn, 1) := by decide +kernel
theorem dX9_text_57 : decode cX9_text 57 = .ok (.aload_n 0, 1) := by decide +kernel
theorem dX9_text_58 : decode cX9_text 58 = .ok (.getfield 7, 3) := by decide +kernel
theorem dX9_text_61 : decode cX9_text 61 = .ok (.bipush 90, 2) := by decide +kernel
theorem dX9_text_63 : decode cX9_text 63 = .ok (.iload_n 1, 1) := by decide +kernel
theorem dX9_text_64 : decode cX9_text 64 = .ok (.iadd, 1) := by decide +kernel
theorem dX9_text_65 : decode cX9_text 65 = .ok (.iload_n 2, 1) := by decide +kernel
theorem dX9_text_66 : decode cX9_text 66 = .ok (.iastore, 1) := by decide +kernel
theorem dX9_text_67 : decode cX9_text 67 = .ok (.iconst 0, 1) := by decide +kernel
theorem dX9_text_68 : decode cX9_text 68 = .ok (.istore 4, 2) := by decide +kernel
theorem dX9_text_70 : decode cX9_text 70 = .ok (.iload 4, 2) := by decide +kernel
theorem dX9_text_72 : decode cX9_text 72 = .ok (.iload_n 2, 1) := by decide +kernel
theorem dX9_text_73 : decode cX9_text 73 = .ok (.if_icmp .ge 35, 3) := by decide +kernel
theorem dX9_text_76 : decode cX9_text 76 = .ok (.aload_n 0, 1) := by decide +kernel
theorem dX9_text_77 : decode cX9_text 77 = .ok (.getfield 7, 3) := by decide +kernel
theorem dX9_text_80 : decode cX9_text 80 = .ok (.bipush 112, 2) := by decide +kernel
theorem dX9_text_82 : decode cX9_text 82 = .ok (.bipush 50, 2) := by decide +kernel
theorem dX9_text_84 : decode cX9_text 84 = .ok (.iload_n 1, 1) := by decide +kernel
theorem dX9_text_85 : decode cX9_text 85 = .ok (.imul, 1) := by decide +kernel
theorem dX9_text_86 : decode cX9_text 86 = .ok (.iadd, 1) := by decide +kernel
theorem dX9_text_87 : decode cX9_text 87 = .ok (.iload 4, 2) := by decide +kernel
theorem dX9_text_89 : decode cX9_text 89 = .ok (.iadd, 1) := by decide +kernel
theorem dX9_text_90 : decode cX9_text 90 = .ok (.aload_n 0, 1) := by decide +kernel
theorem dX9_text_91 : decode cX9_text 91 = .ok (.getfield 7, 3) := by decide +kernel
theorem dX9_text_94 : decode cX9_text 94 = .ok (.sipush 212, 3) := by decide +kernel
theorem dX9_text_97 : decode cX9_text 97 = .ok (.iload 4, 2) := by decide +kernel
theorem dX9_text_99 : decode cX9_text 99 = .ok (.iadd, 1) := by decide +kernel
theorem dX9_text_100 : decode cX9_text 100 = .ok (.iaload, 1) := by decide +kernel
theorem dX9_text_101 : decode cX9_text 101 = .ok (.iastore, 1) := by decide +kernel
theorem dX9_text_102 : decode cX9_text 102 = .ok (.iinc 4 1, 3) := by decide +kernel
theorem dX9_text_105 : decode cX9_text 105 = .ok (.goto (-35), 3) := by decide +kernel
theorem dX9_text_108 : decode cX9_text 108 = .ok (.iconst 1, 1) := by decide +kernel
theorem dX9_text_109 : decode cX9_text 109 = .ok (.ireturn, 1) := by decide +kernel
theorem dX9_textGives_0 : decode cX9_textGives 0 = .ok (.iload_n 1, 1) := by decide +kernel
theorem dX9_textGives_1 : decode cX9_textGives 1 = .ok (.ifCond .ne 11, 3) := by decide +kernel
theorem dX9_textGives_4 : decode cX9_textGives 4 = .ok (.iconst 3, 1) := by decide +kernel
theorem dX9_textGives_5 : decode cX9_textGives 5 = .ok (.iload_n 2, 1) := by decide +kernel
theorem dX9_textGives_6 : decode cX9_textGives 6 = .ok (.iconst 2, 1) := by decide +kernel
theorem dX9_textGives_7 : decode cX9_textGives 7 = .ok (.imul, 1) := by decide +kernel
theorem dX9_textGives_8 : decode cX9_textGives 8 = .ok (.iadd, 1) := by decide +kernel
theorem dX9_textGives_9 : decode cX9_textGives 9 = .ok (.goto 13, 3) := by decide +kernel
theorem dX9_textGives_12 : decode cX9_textGives 12 = .ok (.iload_n 3, 1) := by decide +kernel
theorem dX9_textGives_13 : decode cX9_textGives 13 = .ok (.iconst 3, 1) := by decide +kernel
theorem dX9_textGives_14 : decode cX9_textGives 14 = .ok (.imul, 1) := by decide +kernel
theorem dX9_textGives_15 : decode cX9_textGives 15 = .ok (.bipush 30, 2) := by decide +kernel
theorem dX9_textGives_17 : decode cX9_textGives 17 = .ok (.iadd, 1) := by decide +kernel
theorem dX9_textGives_18 : decode cX9_textGives 18 = .ok (.iload_n 2, 1) := by decide +kernel
theorem dX9_textGives_19 : decode cX9_textGives 19 = .ok (.iconst 2, 1) := by decide +kernel
theorem dX9_textGives_20 : decode cX9_textGives 20 = .ok (.imul, 1) := by decide +kernel
theorem dX9_textGives_21 : decode cX9_textGives 21 = .ok (.isub, 1) := by decide +kernel
theorem dX9_textGives_22 : decode cX9_textGives 22 = .ok (.istore 5, 2) := by decide +kernel
theorem dX9_textGives_24 : decode cX9_textGives 24 = .ok (.aload_n 0, 1) := by decide +kernel
theorem dX9_textGives_25 : decode cX9_textGives 25 = .ok (.getfield 7, 3) := by decide +kernel
theorem dX9_textGives_28 : decode cX9_textGives 28 = .ok (.bipush 90, 2) := by decide +kernel
theorem dX9_textGives_30 : decode cX9_textGives 30 = .ok (.iload_n 1, 1) := by decide +kernel
theorem dX9_textGives_31 : decode cX9_textGives 31 = .ok (.iadd, 1) := by decide +kernel
theorem dX9_textGives_32 : decode cX9_textGives 32 = .ok (.iaload, 1) := by decide +kernel
theorem dX9_textGives_33 : decode cX9_textGives 33 = .ok (.ifCond .le 48, 3) := by decide +kernel
theorem dX9_textGives_36 : decode cX9_textGives 36 = .ok (.aload_n 0, 1) := by decide +kernel
theorem dX9_textGives_37 : decode cX9_textGives 37 = .ok (.getfield 19, 3) := by decide +kernel
theorem dX9_textGives_40 : decode cX9_textGives 40 = .ok (.iconst 0, 1) := by decide +kernel
theorem dX9_textGives_41 : decode cX9_textGives 41 = .ok (.iload_n 2, 1) := by decide +kernel
theorem dX9_textGives_42 : decode cX9_textGives 42 = .ok (.iastore, 1) := by decide +kernel
theorem dX9_textGives_43 : decode cX9_textGives 43 = .ok (.aload_n 0, 1) := by decide +kernel
theorem dX9_textGives_44 : decode cX9_textGives 44 = .ok (.getfield 19, 3) := by decide +kernel
theorem dX9_textGives_47 : decode cX9_textGives 47 = .ok (.iconst 1, 1) := by decide +kernel
theorem dX9_textGives_48 : decode cX9_textGives 48 = .ok (.iload_n 3, 1) := by decide +kernel
theorem dX9_textGives_49 : decode cX9_textGives 49 = .ok (.iastore, 1) := by decide +kernel
theorem dX9_textGives_50 : decode cX9_textGives 50 = .ok (.aload_n 0, 1) := by decide +kernel
theorem dX9_textGives_51 : decode cX9_textGives 51 = .ok (.getfield 19, 3) := by decide +kernel
theorem dX9_textGives_54 : decode cX9_textGives 54 = .ok (.iconst 2, 1) := by decide +kernel
theorem dX9_textGives_55 : decode cX9_textGives 55 = .ok (.iload 4, 2) := by decide +kernel
theorem dX9_textGives_57 : decode cX9_textGives 57 = .ok (.iastore, 1) := by decide +kernel
theorem dX9_textGives_58 : decode cX9_textGives 58 = .ok (.aload_n 0, 1) := by decide +kernel
theorem dX9_textGives_59 : decode cX9_textGives 59 = .ok (.bipush 112, 2) := by decide +kernel
theorem dX9_textGives_61 : decode cX9_textGives 61 = .ok (.bipush 50, 2) := by decide +kernel
theorem dX9_textGives_63 : decode cX9_textGives 63 = .ok (.iload_n 1, 1) := by decide +kernel
theorem dX9_textGives_64 : decode cX9_textGives 64 = .ok (.imul, 1) := by decide +kernel
theorem dX9_textGives_65 : decode cX9_textGives 65 = .ok (.iadd, 1) := by decide +kernel
theorem dX9_textGives_66 : decode cX9_textGives 66 = .ok (.aload_n 0, 1) := by decide +kernel
theorem dX9_textGives_67 : decode cX9_textGives 67 = .ok (.getfield 7, 3) := by decide +kernel
theorem dX9_textGives_70 : decode cX9_textGives 70 = .ok (.bipush 90, 2) := by decide +kernel
theorem dX9_textGives_72 : decode cX9_textGives 72 = .ok (.iload_n 1, 1) := by decide +kernel
theorem dX9_textGives_73 : decode cX9_textGives 73 = .ok (.iadd, 1) := by decide +kernel
theorem dX9_textGives_74 : decode cX9_textGives 74 = .ok (.iaload, 1) := by decide +kernel
theorem dX9_textGives_75 : decode cX9_textGives 75 = .ok (.iload_n 1, 1) := by decide +kernel
theorem dX9_textGives_76 : decode cX9_textGives 76 = .ok (.invokevirtual 108, 3) := by decide +kernel
theorem dX9_textGives_79 : decode cX9_textGives 79 = .ok (.istore 5, 2) := by decide +kernel
theorem dX9_textGives_81 : decode cX9_textGives 81 = .ok (.iload_n 1, 1) := by decide +kernel
theorem dX9_textGives_82 : decode cX9_textGives 82 = .ok (.ifCond .ne 14, 3) := by decide +kernel
theorem dX9_textGives_85 : decode cX9_textGives 85 = .ok (.iload 5, 2) := by decide +kernel
theorem dX9_textGives_87 : decode cX9_textGives 87 = .ok (.iconst 1, 1) := by decide +kernel
theorem dX9_textGives_88 : decode cX9_textGives 88 = .ok (.bipush 30, 2) := by decide +kernel
theorem dX9_textGives_90 : decode cX9_textGives 90 = .ok (.invokestatic 112, 3) := by decide +kernel
theorem dX9_textGives_93 : decode cX9_textGives 93 = .ok (.goto 12, 3) := by decide +kernel
theorem dX9_textGives_96 : decode cX9_textGives 96 = .ok (.iload 5, 2) := by decide +kernel
theorem dX9_textGives_98 : decode cX9_textGives 98 = .ok (.bipush (-99), 2) := by decide +kernel
theorem dX9_textGives_100 : decode cX9_textGives 100 = .ok (.bipush 99, 2) := by decide +kernel
theorem dX9_textGives_102 : decode cX9_textGives 102 = .ok (.invokestatic 112, 3) := by decide +kernel
theorem dX9_textGives_105 : decode cX9_textGives 105 = .ok (.ireturn, 1) := by decide +kernel
theorem dX9_law_0 : decode cX9_law 0 = .ok (.iload_n 1, 1) := by decide +kernel
theorem dX9_law_1 : decode cX9_law 1 = .ok (.i2l, 1) := by decide +kernel
theorem dX9_law_2 : decode cX9_law 2 = .ok (.lconst 0, 1) := by decide +kernel
theorem dX9_law_3 : decode cX9_law 3 = .ok (.lconst 1, 1) := by decide +kernel
theorem dX9_law_4 : decode cX9_law 4 = .ok (.invokestatic 45, 3) := by decide +kernel
theorem dX9_law_7 : decode cX9_law 7 = .ok (.ifCond .eq 15, 3) := by decide +kernel
theorem dX9_law_10 : decode cX9_law 10 = .ok (.aload_n 0, 1) := by decide +kernel
theorem dX9_law_11 : decode cX9_law 11 = .ok (.iload_n 1, 1) := by decide +kernel
theorem dX9_law_12 : decode cX9_law 12 = .ok (.iload_n 2, 1) := by decide +kernel
theorem dX9_law_13 : decode cX9_law 13 = .ok (.iload_n 3, 1) := by decide +kernel
theorem dX9_law_14 : decode cX9_law 14 = .ok (.iload 4, 2) := by decide +kernel
theorem dX9_law_16 : decode cX9_law 16 = .ok (.invokevirtual 115, 3) := by decide +kernel
theorem dX9_law_19 : decode cX9_law 19 = .ok (.goto 8, 3) := by decide +kernel
theorem dX9_law_22 : decode cX9_law 22 = .ok (.aload_n 0, 1) := by decide +kernel
theorem dX9_law_23 : decode cX9_law 23 = .ok (.iconst 1, 1) := by decide +kernel
theorem dX9_law_24 : decode cX9_law 24 = .ok (.invokevirtual 103, 3) := by decide +kernel
theorem dX9_law_27 : decode cX9_law 27 = .ok (.ireturn, 1) := by decide +kernel
theorem dX9_isSwing_0 : decode cX9_isSwing 0 = .ok (.iload_n 0, 1) := by decide +kernel
theorem dX9_isSwing_1 : decode cX9_isSwing 1 = .ok (.i2l, 1) := by decide +kernel
theorem dX9_isSwing_2 : decode cX9_isSwing 2 = .ok (.lconst 0, 1) := by decide +kernel
theorem dX9_isSwing_3 : decode cX9_isSwing 3 = .ok (.lconst 1, 1) := by decide +kernel
theorem dX9_isSwing_4 : decode cX9_isSwing 4 = .ok (.invokestatic 45, 3) := by decide +kernel
theorem dX9_isSwing_7 : decode cX9_isSwing 7 = .ok (.ireturn, 1) := by decide +kernel
theorem dX9_barOf_0 : decode cX9_barOf 0 = .ok (.aload_n 0, 1) := by decide +kernel
theorem dX9_barOf_1 : decode cX9_barOf 1 = .ok (.getfield 7, 3) := by decide +kernel
theorem dX9_barOf_4 : decode cX9_barOf 4 = .ok (.bipush 12, 2) := by decide +kernel
theorem dX9_barOf_6 : decode cX9_barOf 6 = .ok (.iconst 3, 1) := by decide +kernel
theorem dX9_barOf_7 : decode cX9_barOf 7 = .ok (.iload_n 1, 1) := by decide +kernel
theorem dX9_barOf_8 : decode cX9_barOf 8 = .ok (.imul, 1) := by decide +kernel
theorem dX9_barOf_9 : decode cX9_barOf 9 = .ok (.iadd, 1) := by decide +kernel
theorem dX9_barOf_10 : decode cX9_barOf 10 = .ok (.iaload, 1) := by decide +kernel
theorem dX9_barOf_11 : decode cX9_barOf 11 = .ok (.istore_n 3, 1) := by decide +kernel
theorem dX9_barOf_12 : decode cX9_barOf 12 = .ok (.aload_n 0, 1) := by decide +kernel
theorem dX9_barOf_13 : decode cX9_barOf 13 = .ok (.getfield 7, 3) := by decide +kernel
theorem dX9_barOf_16 : decode cX9_barOf 16 = .ok (.bipush 12, 2) := by decide +kernel
theorem dX9_barOf_18 : decode cX9_barOf 18 = .ok (.iconst 3, 1) := by decide +kernel
theorem dX9_barOf_19 : decode cX9_barOf 19 = .ok (.iload_n 1, 1) := by decide +kernel
theorem dX9_barOf_20 : decode cX9_barOf 20 = .ok (.imul, 1) := by decide +kernel
theorem dX9_barOf_21 : decode cX9_barOf 21 = .ok (.iadd, 1) := by decide +kernel
theorem dX9_barOf_22 : decode cX9_barOf 22 = .ok (.iconst 1, 1) := by decide +kernel
theorem dX9_barOf_23 : decode cX9_barOf 23 = .ok (.iadd, 1) := by decide +kernel
theorem dX9_barOf_24 : decode cX9_barOf 24 = .ok (.iaload, 1) := by decide +kernel
theorem dX9_barOf_25 : decode cX9_barOf 25 = .ok (.istore 4, 2) := by decide +kernel
theorem dX9_barOf_27 : decode cX9_barOf 27 = .ok (.iload_n 2, 1) := by decide +kernel
theorem dX9_barOf_28 : decode cX9_barOf 28 = .ok (.aload_n 0, 1) := by decide +kernel
theorem dX9_barOf_29 : decode cX9_barOf 29 = .ok (.getfield 7, 3) := by decide +kernel
theorem dX9_barOf_32 : decode cX9_barOf 32 = .ok (.bipush 12, 2) := by decide +kernel
theorem dX9_barOf_34 : decode cX9_barOf 34 = .ok (.iconst 3, 1) := by decide +kernel
theorem dX9_barOf_35 : decode cX9_barOf 35 = .ok (.iload_n 1, 1) := by decide +kernel
theorem dX9_barOf_36 : decode cX9_barOf 36 = .ok (.imul, 1) := by decide +kernel
theorem dX9_barOf_37 : decode cX9_barOf 37 = .ok (.iadd, 1) := by decide +kernel
theorem dX9_barOf_38 : decode cX9_barOf 38 = .ok (.iconst 2, 1) := by decide +kernel
theorem dX9_barOf_39 : decode cX9_barOf 39 = .ok (.iadd, 1) := by decide +kernel
theorem dX9_barOf_40 : decode cX9_barOf 40 = .ok (.iaload, 1) := by decide +kernel
theorem dX9_barOf_41 : decode cX9_barOf 41 = .ok (.iadd, 1) := by decide +kernel
theorem dX9_barOf_42 : decode cX9_barOf 42 = .ok (.iload_n 3, 1) := by decide +kernel
theorem dX9_barOf_43 : decode cX9_barOf 43 = .ok (.irem, 1) := by decide +kernel
theorem dX9_barOf_44 : decode cX9_barOf 44 = .ok (.istore 5, 2) := by decide +kernel
theorem dX9_barOf_46 : decode cX9_barOf 46 = .ok (.iload 5, 2) := by decide +kernel
theorem dX9_barOf_48 : decode cX9_barOf 48 = .ok (.iload 5, 2) := by decide +kernel
theorem dX9_barOf_50 : decode cX9_barOf 50 = .ok (.ifCond .ge 7, 3) := by decide +kernel
theorem dX9_barOf_53 : decode cX9_barOf 53 = .ok (.iload_n 3, 1) := by decide +kernel
theorem dX9_barOf_54 : decode cX9_barOf 54 = .ok (.goto 4, 3) := by decide +kernel
theorem dX9_barOf_57 : decode cX9_barOf 57 = .ok (.iconst 0, 1) := by decide +kernel
theorem dX9_barOf_58 : decode cX9_barOf 58 = .ok (.iadd, 1) := by decide +kernel
theorem dX9_barOf_59 : decode cX9_barOf 59 = .ok (.istore 5, 2) := by decide +kernel
theorem dX9_barOf_61 : decode cX9_barOf 61 = .ok (.iconst 2, 1) := by decide +kernel
theorem dX9_barOf_62 : decode cX9_barOf 62 = .ok (.iload 5, 2) := by decide +kernel
theorem dX9_barOf_64 : decode cX9_barOf 64 = .ok (.imul, 1) := by decide +kernel
theorem dX9_barOf_65 : decode cX9_barOf 65 = .ok (.iload_n 3, 1) := by decide +kernel
theorem dX9_barOf_66 : decode cX9_barOf 66 = .ok (.isub, 1) := by decide +kernel
theorem dX9_barOf_67 : decode cX9_barOf 67 = .ok (.istore 6, 2) := by decide +kernel
theorem dX9_barOf_69 : decode cX9_barOf 69 = .ok (.iconst 2, 1) := by decide +kernel
theorem dX9_barOf_70 : decode cX9_barOf 70 = .ok (.iload 4, 2) := by decide +kernel
theorem dX9_barOf_72 : decode cX9_barOf 72 = .ok (.imul, 1) := by decide +kernel
theorem dX9_barOf_73 : decode cX9_barOf 73 = .ok (.iload 6, 2) := by decide +kernel
theorem dX9_barOf_75 : decode cX9_barOf 75 = .ok (.ifCond .ge 9, 3) := by decide +kernel
theorem dX9_barOf_78 : decode cX9_barOf 78 = .ok (.iload 6, 2) := by decide +kernel
theorem dX9_barOf_80 : decode cX9_barOf 80 = .ok (.ineg, 1) := by decide +kernel
theorem dX9_barOf_81 : decode cX9_barOf 81 = .ok (.goto 5, 3) := by decide +kernel
theorem dX9_barOf_84 : decode cX9_barOf 84 = .ok (.iload 6, 2) := by decide +kernel
theorem dX9_barOf_86 : decode cX9_barOf 86 = .ok (.imul, 1) := by decide +kernel
theorem dX9_barOf_87 : decode cX9_barOf 87 = .ok (.iload_n 3, 1) := by decide +kernel
theorem dX9_barOf_88 : decode cX9_barOf 88 = .ok (.idiv, 1) := by decide +kernel
theorem dX9_barOf_89 : decode cX9_barOf 89 = .ok (.iload 4, 2) := by decide +kernel
theorem dX9_barOf_91 : decode cX9_barOf 91 = .ok (.isub, 1) := by decide +kernel
theorem dX9_barOf_92 : decode cX9_barOf 92 = .ok (.ireturn, 1) := by decide +kernel
theorem dX9_catcherAt_0 : decode cX9_catcherAt 0 = .ok (.aload_n 0, 1) := by decide +kernel
theorem dX9_catcherAt_1 : decode cX9_catcherAt 1 = .ok (.getfield 7, 3) := by decide +kernel
theorem dX9_catcherAt_4 : decode cX9_catcherAt 4 = .ok (.iconst 5, 1) := by decide +kernel
theorem dX9_catcherAt_5 : decode cX9_catcherAt 5 = .ok (.iaload, 1) := by decide +kernel
theorem dX9_catcherAt_6 : decode cX9_catcherAt 6 = .ok (.aload_n 0, 1) := by decide +kernel
theorem dX9_catcherAt_7 : decode cX9_catcherAt 7 = .ok (.iconst 1, 1) := by decide +kernel
theorem dX9_catcherAt_8 : decode cX9_catcherAt 8 = .ok (.iload_n 1, 1) := by decide +kernel
theorem dX9_catcherAt_9 : decode cX9_catcherAt 9 = .ok (.invokevirtual 119, 3) := by decide +kernel
theorem dX9_catcherAt_12 : decode cX9_catcherAt 12 = .ok (.isub, 1) := by decide +kernel
theorem dX9_catcherAt_13 : decode cX9_catcherAt 13 = .ok (.ireturn, 1) := by decide +kernel
theorem dX9_swing_0 : decode cX9_swing 0 = .ok (.iload_n 1, 1) := by decide +kernel
theorem dX9_swing_1 : decode cX9_swing 1 = .ok (.invokestatic 123, 3) := by decide +kernel
theorem dX9_swing_4 : decode cX9_swing 4 = .ok (.ifCond .eq 15, 3) := by decide +kernel
theorem dX9_swing_7 : decode cX9_swing 7 = .ok (.iload_n 2, 1) := by decide +kernel
theorem dX9_swing_8 : decode cX9_swing 8 = .ok (.i2l, 1) := by decide +kernel
theorem dX9_swing_9 : decode cX9_swing 9 = .ok (.lconst 0, 1) := by decide +kernel
theorem dX9_swing_10 : decode cX9_swing 10 = .ok (.ldc2_w 126, 3) := by decide +kernel
theorem dX9_swing_13 : decode cX9_swing 13 = .ok (.invokestatic 45, 3) := by decide +kernel
theorem dX9_swing_16 : decode cX9_swing 16 = .ok (.ifCond .ne 9, 3) := by decide +kernel
theorem dX9_swing_19 : decode cX9_swing 19 = .ok (.aload_n 0, 1) := by decide +kernel
theorem dX9_swing_20 : decode cX9_swing 20 = .ok (.iconst 1, 1) := by decide +kernel
theorem dX9_swing_21 : decode cX9_swing 21 = .ok (.invokevirtual 103, 3) := by decide +kernel
theorem dX9_swing_24 : decode cX9_swing 24 = .ok (.ireturn, 1) := by decide +kernel
theorem dX9_swing_25 : decode cX9_swing 25 = .ok (.bipush 12, 2) := by decide +kernel
theorem dX9_swing_27 : decode cX9_swing 27 = .ok (.iconst 3, 1) := by decide +kernel
theorem dX9_swing_28 : decode cX9_swing 28 = .ok (.iload_n 1, 1) := by decide +kernel
theorem dX9_swing_29 : decode cX9_swing 29 = .ok (.imul, 1) := by decide +kernel
theorem dX9_swing_30 : decode cX9_swing 30 = .ok (.iadd, 1) := by decide +kernel
theorem dX9_swing_31 : decode cX9_swing 31 = .ok (.istore 4, 2) := by decide +kernel
theorem dX9_swing_33 : decode cX9_swing 33 = .ok (.iload_n 2, 1) := by decide +kernel
theorem dX9_swing_34 : decode cX9_swing 34 = .ok (.ifCond .ne 17, 3) := by decide +kernel
theorem dX9_swing_37 : decode cX9_swing 37 = .ok (.iload_n 3, 1) := by decide +kernel
theorem dX9_swing_38 : decode cX9_swing 38 = .ok (.i2l, 1) := by decide +kernel
theorem dX9_swing_39 : decode cX9_swing 39 = .ok (.ldc2_w 128, 3) := by decide +kernel
theorem dX9_swing_42 : decode cX9_swing 42 = .ok (.ldc2_w 130, 3) := by decide +kernel
theorem dX9_swing_45 : decode cX9_swing 45 = .ok (.invokestatic 45, 3) := by decide +kernel
theorem dX9_swing_48 : decode cX9_swing 48 = .ok (.goto 36, 3) := by decide +kernel
theorem dX9_swing_51 : decode cX9_swing 51 = .ok (.iload_n 2, 1) := by decide +kernel
theorem dX9_swing_52 : decode cX9_swing 52 = .ok (.iconst 1, 1) := by decide +kernel
theorem dX9_swing_53 : decode cX9_swing 53 = .ok (.if_icmp .ne 15, 3) := by decide +kernel
theorem dX9_swing_56 : decode cX9_swing 56 = .ok (.iload_n 3, 1) := by decide +kernel
theorem dX9_swing_57 : decode cX9_swing 57 = .ok (.i2l, 1) := by decide +kernel
theorem dX9_swing_58 : decode cX9_swing 58 = .ok (.lconst 1, 1) := by decide +kernel
theorem dX9_swing_59 : decode cX9_swing 59 = .ok (.ldc2_w 132, 3) := by decide +kernel
theorem dX9_swing_62 : decode cX9_swing 62 = .ok (.invokestatic 45, 3) := by decide +kernel
theorem dX9_swing_65 : decode cX9_swing 65 = .ok (.goto 19, 3) := by decide +kernel
theorem dX9_swing_68 : decode cX9_swing 68 = .ok (.iload_n 3, 1) := by decide +kernel
theorem dX9_swing_69 : decode cX9_swing 69 = .ok (.i2l, 1) := by decide +kernel
theorem dX9_swing_70 : decode cX9_swing 70 = .ok (.lconst 0, 1) := by decide +kernel
theorem dX9_swing_71 : decode cX9_swing 71 = .ok (.aload_n 0, 1) := by decide +kernel
theorem dX9_swing_72 : decode cX9_swing 72 = .ok (.getfield 7, 3) := by decide +kernel
theorem dX9_swing_75 : decode cX9_swing 75 = .ok (.iload 4, 2) := by decide +kernel
theorem dX9_swing_77 : decode cX9_swing 77 = .ok (.iaload, 1) := by decide +kernel
theorem dX9_swing_78 : decode cX9_swing 78 = .ok (.iconst 1, 1) := by decide +kernel
theorem dX9_swing_79 : decode cX9_swing 79 = .ok (.isub, 1) := by decide +kernel
theorem dX9_swing_80 : decode cX9_swing 80 = .ok (.i2l, 1) := by decide +kernel
theorem dX9_swing_81 : decode cX9_swing 81 = .ok (.invokestatic 45, 3) := by decide +kernel
theorem dX9_swing_84 : decode cX9_swing 84 = .ok (.istore 5, 2) := by decide +kernel
theorem dX9_swing_86 : decode cX9_swing 86 = .ok (.iload 5, 2) := by decide +kernel
theorem dX9_swing_88 : decode cX9_swing 88 = .ok (.ifCond .ne 9, 3) := by decide +kernel
theorem dX9_swing_91 : decode cX9_swing 91 = .ok (.aload_n 0, 1) := by decide +kernel
theorem dX9_swing_92 : decode cX9_swing 92 = .ok (.iconst 1, 1) := by decide +kernel
theorem dX9_swing_93 : decode cX9_swing 93 = .ok (.invokevirtual 103, 3) := by decide +kernel
theorem dX9_swing_96 : decode cX9_swing 96 = .ok (.ireturn, 1) := by decide +kernel
theorem dX9_swing_97 : decode cX9_swing 97 = .ok (.aload_n 0, 1) := by decide +kernel
theorem dX9_swing_98 : decode cX9_swing 98 = .ok (.getfield 7, 3) := by decide +kernel
theorem dX9_swing_101 : decode cX9_swing 101 = .ok (.iload 4, 2) := by decide +kernel
theorem dX9_swing_103 : decode cX9_swing 103 = .ok (.iload_n 2, 1) := by decide +kernel
theorem dX9_swing_104 : decode cX9_swing 104 = .ok (.iadd, 1) := by decide +kernel
theorem dX9_swing_105 : decode cX9_swing 105 = .ok (.iaload, 1) := by decide +kernel
theorem dX9_swing_106 : decode cX9_swing 106 = .ok (.istore 6, 2) := by decide +kernel
theorem dX9_swing_108 : decode cX9_swing 108 = .ok (.aload_n 0, 1) := by decide +kernel
theorem dX9_swing_109 : decode cX9_swing 109 = .ok (.getfield 7, 3) := by decide +kernel
theorem dX9_swing_112 : decode cX9_swing 112 = .ok (.iload 4, 2) := by decide +kernel
theorem dX9_swing_114 : decode cX9_swing 114 = .ok (.iload_n 2, 1) := by decide +kernel
theorem dX9_swing_115 : decode cX9_swing 115 = .ok (.iadd, 1) := by decide +kernel
theorem dX9_swing_116 : decode cX9_swing 116 = .ok (.iload_n 3, 1) := by decide +kernel
theorem dX9_swing_117 : decode cX9_swing 117 = .ok (.iastore, 1) := by decide +kernel
theorem dX9_swing_118 : decode cX9_swing 118 = .ok (.aload_n 0, 1) := by decide +kernel
theorem dX9_swing_119 : decode cX9_swing 119 = .ok (.getfield 7, 3) := by decide +kernel
theorem dX9_swing_122 : decode cX9_swing 122 = .ok (.iload 4, 2) := by decide +kernel
theorem dX9_swing_124 : decode cX9_swing 124 = .ok (.iconst 2, 1) := by decide +kernel
theorem dX9_swing_125 : decode cX9_swing 125 = .ok (.iadd, 1) := by decide +kernel
theorem dX9_swing_126 : decode cX9_swing 126 = .ok (.dup2, 1) := by decide +kernel
theorem dX9_swing_127 : decode cX9_swing 127 = .ok (.iaload, 1) := by decide +kernel
theorem dX9_swing_128 : decode cX9_swing 128 = .ok (.aload_n 0, 1) := by decide +kernel
theorem dX9_swing_129 : decode cX9_swing 129 = .ok (.getfield 7, 3) := by decide +kernel
theorem dX9_swing_132 : decode cX9_swing 132 = .ok (.iload 4, 2) := by decide +kernel
theorem dX9_swing_134 : decode cX9_swing 134 = .ok (.iaload, 1) := by decide +kernel
theorem dX9_swing_135 : decode cX9_swing 135 = .ok (.irem, 1) := by decide +kernel
theorem dX9_swing_136 : decode cX9_swing 136 = .ok (.iastore, 1) := by decide +kernel
theorem dX9_swing_137 : decode cX9_swing 137 = .ok (.iload 6, 2) := by decide +kernel
theorem dX9_swing_139 : decode cX9_swing 139 = .ok (.ireturn, 1) := by decide +kernel
theorem dX9_bar_0 : decode cX9_bar 0 = .ok (.iload_n 1, 1) := by decide +kernel
theorem dX9_bar_1 : decode cX9_bar 1 = .ok (.invokestatic 123, 3) := by decide +kernel
theorem dX9_bar_4 : decode cX9_bar 4 = .ok (.ifCond .eq 24, 3) := by decide +kernel
theorem dX9_bar_7 : decode cX9_bar 7 = .ok (.iload_n 2, 1) := by decide +kernel
theorem dX9_bar_8 : decode cX9_bar 8 = .ok (.i2l, 1) := by decide +kernel
theorem dX9_bar_9 : decode cX9_bar 9 = .ok (.lconst 0, 1) := by decide +kernel
theorem dX9_bar_10 : decode cX9_bar 10 = .ok (.ldc2_w 134, 3) := by decide +kernel
theorem dX9_bar_13 : decode cX9_bar 13 = .ok (.invokestatic 45, 3) := by decide +kernel
theorem dX9_bar_16 : decode cX9_bar 16 = .ok (.ifCond .eq 12, 3) := by decide +kernel
theorem dX9_bar_19 : decode cX9_bar 19 = .ok (.aload_n 0, 1) := by decide +kernel
theorem dX9_bar_20 : decode cX9_bar 20 = .ok (.iload_n 1, 1) := by decide +kernel
theorem dX9_bar_21 : decode cX9_bar 21 = .ok (.iload_n 2, 1) := by decide +kernel
theorem dX9_bar_22 : decode cX9_bar 22 = .ok (.invokevirtual 119, 3) := by decide +kernel
theorem dX9_bar_25 : decode cX9_bar 25 = .ok (.goto 8, 3) := by decide +kernel
theorem dX9_bar_28 : decode cX9_bar 28 = .ok (.aload_n 0, 1) := by decide +kernel
theorem dX9_bar_29 : decode cX9_bar 29 = .ok (.iconst 1, 1) := by decide +kernel
theorem dX9_bar_30 : decode cX9_bar 30 = .ok (.invokevirtual 103, 3) := by decide +kernel
theorem dX9_bar_33 : decode cX9_bar 33 = .ok (.ireturn, 1) := by decide +kernel
theorem dX9_set_0 : decode cX9_set 0 = .ok (.iload_n 1, 1) := by decide +kernel
theorem dX9_set_1 : decode cX9_set 1 = .ok (.ifCond .ne 15, 3) := by decide +kernel
theorem dX9_set_4 : decode cX9_set 4 = .ok (.iload_n 2, 1) := by decide +kernel
theorem dX9_set_5 : decode cX9_set 5 = .ok (.i2l, 1) := by decide +kernel
theorem dX9_set_6 : decode cX9_set 6 = .ok (.lconst 0, 1) := by decide +kernel
theorem dX9_set_7 : decode cX9_set 7 = .ok (.ldc2_w 136, 3) := by decide +kernel
theorem dX9_set_10 : decode cX9_set 10 = .ok (.invokestatic 45, 3) := by decide +kernel
theorem dX9_set_13 : decode cX9_set 13 = .ok (.goto 44, 3) := by decide +kernel
theorem dX9_set_16 : decode cX9_set 16 = .ok (.iload_n 1, 1) := by decide +kernel
theorem dX9_set_17 : decode cX9_set 17 = .ok (.iconst 1, 1) := by decide +kernel
theorem dX9_set_18 : decode cX9_set 18 = .ok (.if_icmp .ne 15, 3) := by decide +kernel
theorem dX9_set_21 : decode cX9_set 21 = .ok (.iload_n 2, 1) := by decide +kernel
theorem dX9_set_22 : decode cX9_set 22 = .ok (.i2l, 1) := by decide +kernel
theorem dX9_set_23 : decode cX9_set 23 = .ok (.lconst 0, 1) := by decide +kernel
theorem dX9_set_24 : decode cX9_set 24 = .ok (.ldc2_w 138, 3) := by decide +kernel
theorem dX9_set_27 : decode cX9_set 27 = .ok (.invokestatic 45, 3) := by decide +kernel
theorem dX9_set_30 : decode cX9_set 30 = .ok (.goto 27, 3) := by decide +kernel
theorem dX9_set_33 : decode cX9_set 33 = .ok (.iload_n 1, 1) := by decide +kernel
theorem dX9_set_34 : decode cX9_set 34 = .ok (.iconst 2, 1) := by decide +kernel
theorem dX9_set_35 : decode cX9_set 35 = .ok (.if_icmp .ne 21, 3) := by decide +kernel
theorem dX9_set_38 : decode cX9_set 38 = .ok (.iload_n 2, 1) := by decide +kernel
theorem dX9_set_39 : decode cX9_set 39 = .ok (.i2l, 1) := by decide +kernel
theorem dX9_set_40 : decode cX9_set 40 = .ok (.ldc2_w 140, 3) := by decide +kernel
theorem dX9_set_43 : decode cX9_set 43 = .ok (.ldc2_w 142, 3) := by decide +kernel
theorem dX9_set_46 : decode cX9_set 46 = .ok (.invokestatic 45, 3) := by decide +kernel
theorem dX9_set_49 : decode cX9_set 49 = .ok (.ifCond .eq 7, 3) := by decide +kernel
theorem dX9_set_52 : decode cX9_set 52 = .ok (.iconst 1, 1) := by decide +kernel
theorem dX9_set_53 : decode cX9_set 53 = .ok (.goto 4, 3) := by decide +kernel
theorem dX9_set_56 : decode cX9_set 56 = .ok (.iconst 0, 1) := by decide +kernel
theorem dX9_set_57 : decode cX9_set 57 = .ok (.istore_n 3, 1) := by decide +kernel
theorem dX9_set_58 : decode cX9_set 58 = .ok (.iload_n 3, 1) := by decide +kernel
theorem dX9_set_59 : decode cX9_set 59 = .ok (.ifCond .ne 9, 3) := by decide +kernel
theorem dX9_set_62 : decode cX9_set 62 = .ok (.aload_n 0, 1) := by decide +kernel
theorem dX9_set_63 : decode cX9_set 63 = .ok (.iconst 1, 1) := by decide +kernel
theorem dX9_set_64 : decode cX9_set 64 = .ok (.invokevirtual 103, 3) := by decide +kernel
theorem dX9_set_67 : decode cX9_set 67 = .ok (.ireturn, 1) := by decide +kernel
theorem dX9_set_68 : decode cX9_set 68 = .ok (.aload_n 0, 1) := by decide +kernel
theorem dX9_set_69 : decode cX9_set 69 = .ok (.getfield 7, 3) := by decide +kernel
theorem dX9_set_72 : decode cX9_set 72 = .ok (.iconst 5, 1) := by decide +kernel
theorem dX9_set_73 : decode cX9_set 73 = .ok (.iload_n 1, 1) := by decide +kernel
theorem dX9_set_74 : decode cX9_set 74 = .ok (.iadd, 1) := by decide +kernel
theorem dX9_set_75 : decode cX9_set 75 = .ok (.iaload, 1) := by decide +kernel
theorem dX9_set_76 : decode cX9_set 76 = .ok (.istore 4, 2) := by decide +kernel
theorem dX9_set_78 : decode cX9_set 78 = .ok (.aload_n 0, 1) := by decide +kernel
theorem dX9_set_79 : decode cX9_set 79 = .ok (.getfield 7, 3) := by decide +kernel
theorem dX9_set_82 : decode cX9_set 82 = .ok (.iconst 5, 1) := by decide +kernel
theorem dX9_set_83 : decode cX9_set 83 = .ok (.iload_n 1, 1) := by decide +kernel
theorem dX9_set_84 : decode cX9_set 84 = .ok (.iadd, 1) := by decide +kernel
theorem dX9_set_85 : decode cX9_set 85 = .ok (.iload_n 2, 1) := by decide +kernel
theorem dX9_set_86 : decode cX9_set 86 = .ok (.iastore, 1) := by decide +kernel
theorem dX9_set_87 : decode cX9_set 87 = .ok (.iload 4, 2) := by decide +kernel
theorem dX9_set_89 : decode cX9_set 89 = .ok (.ireturn, 1) := by decide +kernel
theorem dX9_lagOf_0 : decode cX9_lagOf 0 = .ok (.aload_n 0, 1) := by decide +kernel
theorem dX9_lagOf_1 : decode cX9_lagOf 1 = .ok (.iload_n 1, 1) := by decide +kernel
theorem dX9_lagOf_2 : decode cX9_lagOf 2 = .ok (.iconst 1, 1) := by decide +kernel
theorem dX9_lagOf_3 : decode cX9_lagOf 3 = .ok (.invokevirtual 144, 3) := by decide +kernel
theorem dX9_lagOf_6 : decode cX9_lagOf 6 = .ok (.istore_n 2, 1) := by decide +kernel
theorem dX9_lagOf_7 : decode cX9_lagOf 7 = .ok (.aload_n 0, 1) := by decide +kernel
theorem dX9_lagOf_8 : decode cX9_lagOf 8 = .ok (.getfield 22, 3) := by decide +kernel
theorem dX9_lagOf_11 : decode cX9_lagOf 11 = .ok (.ifCond .lt 8, 3) := by decide +kernel
theorem dX9_lagOf_14 : decode cX9_lagOf 14 = .ok (.aload_n 0, 1) := by decide +kernel
theorem dX9_lagOf_15 : decode cX9_lagOf 15 = .ok (.getfield 22, 3) := by decide +kernel
theorem dX9_lagOf_18 : decode cX9_lagOf 18 = .ok (.ireturn, 1) := by decide +kernel
theorem dX9_lagOf_19 : decode cX9_lagOf 19 = .ok (.aload_n 0, 1) := by decide +kernel
theorem dX9_lagOf_20 : decode cX9_lagOf 20 = .ok (.iload_n 1, 1) := by decide +kernel
theorem dX9_lagOf_21 : decode cX9_lagOf 21 = .ok (.iconst 0, 1) := by decide +kernel
theorem dX9_lagOf_22 : decode cX9_lagOf 22 = .ok (.invokevirtual 144, 3) := by decide +kernel
theorem dX9_lagOf_25 : decode cX9_lagOf 25 = .ok (.tableswitch 61 2 6 #[35, 45, 61, 41, 45], 35) := by decide +kernel
theorem dX9_lagOf_60 : decode cX9_lagOf 60 = .ok (.iconst 1, 1) := by decide +kernel
theorem dX9_lagOf_61 : decode cX9_lagOf 61 = .ok (.iload_n 2, 1) := by decide +kernel
theorem dX9_lagOf_62 : decode cX9_lagOf 62 = .ok (.iconst 3, 1) := by decide +kernel
theorem dX9_lagOf_63 : decode cX9_lagOf 63 = .ok (.irem, 1) := by decide +kernel
theorem dX9_lagOf_64 : decode cX9_lagOf 64 = .ok (.iadd, 1) := by decide +kernel
theorem dX9_lagOf_65 : decode cX9_lagOf 65 = .ok (.ireturn, 1) := by decide +kernel
theorem dX9_lagOf_66 : decode cX9_lagOf 66 = .ok (.iload_n 2, 1) := by decide +kernel
theorem dX9_lagOf_67 : decode cX9_lagOf 67 = .ok (.iconst 3, 1) := by decide +kernel
theorem dX9_lagOf_68 : decode cX9_lagOf 68 = .ok (.irem, 1) := by decide +kernel
theorem dX9_lagOf_69 : decode cX9_lagOf 69 = .ok (.ireturn, 1) := by decide +kernel
theorem dX9_lagOf_70 : decode cX9_lagOf 70 = .ok (.aload_n 0, 1) := by decide +kernel
theorem dX9_lagOf_71 : decode cX9_lagOf 71 = .ok (.iload_n 1, 1) := by decide +kernel
theorem dX9_lagOf_72 : decode cX9_lagOf 72 = .ok (.iconst 3, 1) := by decide +kernel
theorem dX9_lagOf_73 : decode cX9_lagOf 73 = .ok (.invokevirtual 144, 3) := by decide +kernel
theorem dX9_lagOf_76 : decode cX9_lagOf 76 = .ok (.iload_n 2, 1) := by decide +kernel
theorem dX9_lagOf_77 : decode cX9_lagOf 77 = .ok (.if_icmp .le 7, 3) := by decide +kernel
theorem dX9_lagOf_80 : decode cX9_lagOf 80 = .ok (.iconst 1, 1) := by decide +kernel
theorem dX9_lagOf_81 : decode cX9_lagOf 81 = .ok (.goto 4, 3) := by decide +kernel
theorem dX9_lagOf_84 : decode cX9_lagOf 84 = .ok (.iconst 0, 1) := by decide +kernel
theorem dX9_lagOf_85 : decode cX9_lagOf 85 = .ok (.ireturn, 1) := by decide +kernel
theorem dX9_lagOf_86 : decode cX9_lagOf 86 = .ok (.iconst 0, 1) := by decide +kernel
theorem dX9_lagOf_87 : decode cX9_lagOf 87 = .ok (.ireturn, 1) := by decide +kernel
theorem dX9_holdsOf_0 : decode cX9_holdsOf 0 = .ok (.aload_n 0, 1) := by decide +kernel
theorem dX9_holdsOf_1 : decode cX9_holdsOf 1 = .ok (.getfield 7, 3) := by decide +kernel
theorem dX9_holdsOf_4 : decode cX9_holdsOf 4 = .ok (.bipush 6, 2) := by decide +kernel
theorem dX9_holdsOf_6 : decode cX9_holdsOf 6 = .ok (.iaload, 1) := by decide +kernel
theorem dX9_holdsOf_7 : decode cX9_holdsOf 7 = .ok (.istore_n 2, 1) := by decide +kernel
theorem dX9_holdsOf_8 : decode cX9_holdsOf 8 = .ok (.iload_n 2, 1) := by decide +kernel
theorem dX9_holdsOf_9 : decode cX9_holdsOf 9 = .ok (.aload_n 0, 1) := by decide +kernel
theorem dX9_holdsOf_10 : decode cX9_holdsOf 10 = .ok (.iload_n 1, 1) := by decide +kernel
theorem dX9_holdsOf_11 : decode cX9_holdsOf 11 = .ok (.iconst 3, 1) := by decide +kernel
theorem dX9_holdsOf_12 : decode cX9_holdsOf 12 = .ok (.invokevirtual 144, 3) := by decide +kernel
theorem dX9_holdsOf_15 : decode cX9_holdsOf 15 = .ok (.iconst 3, 1) := by decide +kernel
theorem dX9_holdsOf_16 : decode cX9_holdsOf 16 = .ok (.idiv, 1) := by decide +kernel
theorem dX9_holdsOf_17 : decode cX9_holdsOf 17 = .ok (.isub, 1) := by decide +kernel
theorem dX9_holdsOf_18 : decode cX9_holdsOf 18 = .ok (.istore_n 3, 1) := by decide +kernel
theorem dX9_holdsOf_19 : decode cX9_holdsOf 19 = .ok (.aload_n 0, 1) := by decide +kernel
theorem dX9_holdsOf_20 : decode cX9_holdsOf 20 = .ok (.iload_n 1, 1) := by decide +kernel
theorem dX9_holdsOf_21 : decode cX9_holdsOf 21 = .ok (.iconst 0, 1) := by decide +kernel
theorem dX9_holdsOf_22 : decode cX9_holdsOf 22 = .ok (.invokevirtual 144, 3) := by decide +kernel
theorem dX9_holdsOf_25 : decode cX9_holdsOf 25 = .ok (.tableswitch 64 1 6 #[39, 64, 54, 43, 64, 54], 39) := by decide +kernel
theorem dX9_holdsOf_64 : decode cX9_holdsOf 64 = .ok (.iload_n 2, 1) := by decide +kernel
theorem dX9_holdsOf_65 : decode cX9_holdsOf 65 = .ok (.iconst 1, 1) := by decide +kernel
theorem dX9_holdsOf_66 : decode cX9_holdsOf 66 = .ok (.iadd, 1) := by decide +kernel
theorem dX9_holdsOf_67 : decode cX9_holdsOf 67 = .ok (.ireturn, 1) := by decide +kernel
theorem dX9_holdsOf_68 : decode cX9_holdsOf 68 = .ok (.iload_n 2, 1) := by decide +kernel
theorem dX9_holdsOf_69 : decode cX9_holdsOf 69 = .ok (.iconst 1, 1) := by decide +kernel
theorem dX9_holdsOf_70 : decode cX9_holdsOf 70 = .ok (.iadd, 1) := by decide +kernel
theorem dX9_holdsOf_71 : decode cX9_holdsOf 71 = .ok (.aload_n 0, 1) := by decide +kernel
theorem dX9_holdsOf_72 : decode cX9_holdsOf 72 = .ok (.iload_n 1, 1) := by decide +kernel
theorem dX9_holdsOf_73 : decode cX9_holdsOf 73 = .ok (.iconst 1, 1) := by decide +kernel
theorem dX9_holdsOf_74 : decode cX9_holdsOf 74 = .ok (.invokevirtual 144, 3) := by decide +kernel
theorem dX9_holdsOf_77 : decode cX9_holdsOf 77 = .ok (.iadd, 1) := by decide +kernel
theorem dX9_holdsOf_78 : decode cX9_holdsOf 78 = .ok (.ireturn, 1) := by decide +kernel
theorem dX9_holdsOf_79 : decode cX9_holdsOf 79 = .ok (.iload_n 3, 1) := by decide +kernel
theorem dX9_holdsOf_80 : decode cX9_holdsOf 80 = .ok (.ifCond .ge 7, 3) := by decide +kernel
theorem dX9_holdsOf_83 : decode cX9_holdsOf 83 = .ok (.iconst 0, 1) := by decide +kernel
theorem dX9_holdsOf_84 : decode cX9_holdsOf 84 = .ok (.goto 4, 3) := by decide +kernel
theorem dX9_holdsOf_87 : decode cX9_holdsOf 87 = .ok (.iload_n 3, 1) := by decide +kernel
theorem dX9_holdsOf_88 : decode cX9_holdsOf 88 = .ok (.ireturn, 1) := by decide +kernel
theorem dX9_holdsOf_89 : decode cX9_holdsOf 89 = .ok (.iload_n 2, 1) := by decide +kernel
theorem dX9_holdsOf_90 : decode cX9_holdsOf 90 = .ok (.ireturn, 1) := by decide +kernel
theorem dX9_harmOf_0 : decode cX9_harmOf 0 = .ok (.aload_n 0, 1) := by decide +kernel
theorem dX9_harmOf_1 : decode cX9_harmOf 1 = .ok (.iload_n 1, 1) := by decide +kernel
theorem dX9_harmOf_2 : decode cX9_harmOf 2 = .ok (.iconst 0, 1) := by decide +kernel
theorem dX9_harmOf_3 : decode cX9_harmOf 3 = .ok (.invokevirtual 144, 3) := by decide +kernel
theorem dX9_harmOf_6 : decode cX9_harmOf 6 = .ok (.istore_n 3, 1) := by decide +kernel
theorem dX9_harmOf_7 : decode cX9_harmOf 7 = .ok (.iload_n 3, 1) := by decide +kernel
theorem dX9_harmOf_8 : decode cX9_harmOf 8 = .ok (.iconst 3, 1) := by decide +kernel
theorem dX9_harmOf_9 : decode cX9_harmOf 9 = .ok (.if_icmp .ne 14, 3) := by decide +kernel
theorem dX9_harmOf_12 : decode cX9_harmOf 12 = .ok (.iload_n 2, 1) := by decide +kernel
theorem dX9_harmOf_13 : decode cX9_harmOf 13 = .ok (.aload_n 0, 1) := by decide +kernel
theorem dX9_harmOf_14 : decode cX9_harmOf 14 = .ok (.iload_n 1, 1) := by decide +kernel
theorem dX9_harmOf_15 : decode cX9_harmOf 15 = .ok (.iconst 3, 1) := by decide +kernel
theorem dX9_harmOf_16 : decode cX9_harmOf 16 = .ok (.invokevirtual 144, 3) := by decide +kernel
theorem dX9_harmOf_19 : decode cX9_harmOf 19 = .ok (.iadd, 1) := by decide +kernel
theorem dX9_harmOf_20 : decode cX9_harmOf 20 = .ok (.goto 23, 3) := by decide +kernel
theorem dX9_harmOf_23 : decode cX9_harmOf 23 = .ok (.iload_n 3, 1) := by decide +kernel
theorem dX9_harmOf_24 : decode cX9_harmOf 24 = .ok (.bipush 6, 2) := by decide +kernel
theorem dX9_harmOf_26 : decode cX9_harmOf 26 = .ok (.if_icmp .ne 16, 3) := by decide +kernel
theorem dX9_harmOf_29 : decode cX9_harmOf 29 = .ok (.iload_n 2, 1) := by decide +kernel
theorem dX9_harmOf_30 : decode cX9_harmOf 30 = .ok (.aload_n 0, 1) := by decide +kernel
theorem dX9_harmOf_31 : decode cX9_harmOf 31 = .ok (.iload_n 1, 1) := by decide +kernel
theorem dX9_harmOf_32 : decode cX9_harmOf 32 = .ok (.iconst 3, 1) := by decide +kernel
theorem dX9_harmOf_33 : decode cX9_harmOf 33 = .ok (.invokevirtual 144, 3) := by decide +kernel
theorem dX9_harmOf_36 : decode cX9_harmOf 36 = .ok (.iadd, 1) := by decide +kernel
theorem dX9_harmOf_37 : decode cX9_harmOf 37 = .ok (.iconst 2, 1) := by decide +kernel
theorem dX9_harmOf_38 : decode cX9_harmOf 38 = .ok (.idiv, 1) := by decide +kernel
theorem dX9_harmOf_39 : decode cX9_harmOf 39 = .ok (.goto 4, 3) := by decide +kernel
theorem dX9_harmOf_42 : decode cX9_harmOf 42 = .ok (.iload_n 2, 1) := by decide +kernel
theorem dX9_harmOf_43 : decode cX9_harmOf 43 = .ok (.ireturn, 1) := by decide +kernel
theorem dX9_flyer_0 : decode cX9_flyer 0 = .ok (.iload_n 1, 1) := by decide +kernel
theorem dX9_flyer_1 : decode cX9_flyer 1 = .ok (.i2l, 1) := by decide +kernel
theorem dX9_flyer_2 : decode cX9_flyer 2 = .ok (.lconst 0, 1) := by decide +kernel
theorem dX9_flyer_3 : decode cX9_flyer 3 = .ok (.ldc2_w 147, 3) := by decide +kernel
theorem dX9_flyer_6 : decode cX9_flyer 6 = .ok (.invokestatic 45, 3) := by decide +kernel
theorem dX9_flyer_9 : decode cX9_flyer 9 = .ok (.ifCond .ne 9, 3) := by decide +kernel
theorem dX9_flyer_12 : decode cX9_flyer 12 = .ok (.aload_n 0, 1) := by decide +kernel
theorem dX9_flyer_13 : decode cX9_flyer 13 = .ok (.iconst 1, 1) := by decide +kernel
theorem dX9_flyer_14 : decode cX9_flyer 14 = .ok (.invokevirtual 103, 3) := by decide +kernel
theorem dX9_flyer_17 : decode cX9_flyer 17 = .ok (.ireturn, 1) := by decide +kernel
theorem dX9_flyer_18 : decode cX9_flyer 18 = .ok (.aload_n 0, 1) := by decide +kernel
theorem dX9_flyer_19 : decode cX9_flyer 19 = .ok (.getfield 7, 3) := by decide +kernel
theorem dX9_flyer_22 : decode cX9_flyer 22 = .ok (.iconst 0, 1) := by decide +kernel
theorem dX9_flyer_23 : decode cX9_flyer 23 = .ok (.iaload, 1) := by decide +kernel
theorem dX9_flyer_24 : decode cX9_flyer 24 = .ok (.bipush 6, 2) := by decide +kernel
theorem dX9_flyer_26 : decode cX9_flyer 26 = .ok (.if_icmp .ne 9, 3) := by decide +kernel
theorem dX9_flyer_29 : decode cX9_flyer 29 = .ok (.aload_n 0, 1) := by decide +kernel
theorem dX9_flyer_30 : decode cX9_flyer 30 = .ok (.iconst 4, 1) := by decide +kernel
theorem dX9_flyer_31 : decode cX9_flyer 31 = .ok (.invokevirtual 103, 3) := by decide +kernel
theorem dX9_flyer_34 : decode cX9_flyer 34 = .ok (.ireturn, 1) := by decide +kernel
theorem dX9_flyer_35 : decode cX9_flyer 35 = .ok (.aload_n 0, 1) := by decide +kernel
theorem dX9_flyer_36 : decode cX9_flyer 36 = .ok (.getfield 7, 3) := by decide +kernel
theorem dX9_flyer_39 : decode cX9_flyer 39 = .ok (.iconst 0, 1) := by decide +kernel
theorem dX9_flyer_40 : decode cX9_flyer 40 = .ok (.iaload, 1) := by decide +kernel
theorem dX9_flyer_41 : decode cX9_flyer 41 = .ok (.istore_n 2, 1) := by decide +kernel
theorem dX9_flyer_42 : decode cX9_flyer 42 = .ok (.aload_n 0, 1) := by decide +kernel
theorem dX9_flyer_43 : decode cX9_flyer 43 = .ok (.getfield 7, 3) := by decide +kernel
theorem dX9_flyer_46 : decode cX9_flyer 46 = .ok (.iconst 0, 1) := by decide +kernel
theorem dX9_flyer_47 : decode cX9_flyer 47 = .ok (.dup2, 1) := by decide +kernel
theorem dX9_flyer_48 : decode cX9_flyer 48 = .ok (.iaload, 1) := by decide +kernel
theorem dX9_flyer_49 : decode cX9_flyer 49 = .ok (.iconst 1, 1) := by decide +kernel
theorem dX9_flyer_50 : decode cX9_flyer 50 = .ok (.iadd, 1) := by decide +kernel
theorem dX9_flyer_51 : decode cX9_flyer 51 = .ok (.iastore, 1) := by decide +kernel
theorem dX9_flyer_52 : decode cX9_flyer 52 = .ok (.aload_n 0, 1) := by decide +kernel
theorem dX9_flyer_53 : decode cX9_flyer 53 = .ok (.iload_n 2, 1) := by decide +kernel
theorem dX9_flyer_54 : decode cX9_flyer 54 = .ok (.iconst 0, 1) := by decide +kernel
theorem dX9_flyer_55 : decode cX9_flyer 55 = .ok (.iload_n 1, 1) := by decide +kernel
theorem dX9_flyer_56 : decode cX9_flyer 56 = .ok (.bipush 10, 2) := by decide +kernel
theorem dX9_flyer_58 : decode cX9_flyer 58 = .ok (.idiv, 1) := by decide +kernel
theorem dX9_flyer_59 : decode cX9_flyer 59 = .ok (.invokevirtual 149, 3) := by decide +kernel
theorem dX9_flyer_62 : decode cX9_flyer 62 = .ok (.aload_n 0, 1) := by decide +kernel
theorem dX9_flyer_63 : decode cX9_flyer 63 = .ok (.iload_n 2, 1) := by decide +kernel
theorem dX9_flyer_64 : decode cX9_flyer 64 = .ok (.iconst 1, 1) := by decide +kernel
theorem dX9_flyer_65 : decode cX9_flyer 65 = .ok (.iload_n 1, 1) := by decide +kernel
theorem dX9_flyer_66 : decode cX9_flyer 66 = .ok (.bipush 10, 2) := by decide +kernel
theorem dX9_flyer_68 : decode cX9_flyer 68 = .ok (.irem, 1) := by decide +kernel
theorem dX9_flyer_69 : decode cX9_flyer 69 = .ok (.invokevirtual 149, 3) := by decide +kernel
theorem dX9_flyer_72 : decode cX9_flyer 72 = .ok (.aload_n 0, 1) := by decide +kernel
theorem dX9_flyer_73 : decode cX9_flyer 73 = .ok (.iload_n 2, 1) := by decide +kernel
theorem dX9_flyer_74 : decode cX9_flyer 74 = .ok (.iconst 2, 1) := by decide +kernel
theorem dX9_flyer_75 : decode cX9_flyer 75 = .ok (.iconst 1, 1) := by decide +kernel
theorem dX9_flyer_76 : decode cX9_flyer 76 = .ok (.invokevirtual 149, 3) := by decide +kernel
theorem dX9_flyer_79 : decode cX9_flyer 79 = .ok (.aload_n 0, 1) := by decide +kernel
theorem dX9_flyer_80 : decode cX9_flyer 80 = .ok (.iload_n 2, 1) := by decide +kernel
theorem dX9_flyer_81 : decode cX9_flyer 81 = .ok (.iconst 3, 1) := by decide +kernel
theorem dX9_flyer_82 : decode cX9_flyer 82 = .ok (.iconst 0, 1) := by decide +kernel
theorem dX9_flyer_83 : decode cX9_flyer 83 = .ok (.invokevirtual 149, 3) := by decide +kernel
theorem dX9_flyer_86 : decode cX9_flyer 86 = .ok (.iload_n 2, 1) := by decide +kernel
theorem dX9_flyer_87 : decode cX9_flyer 87 = .ok (.ireturn, 1) := by decide +kernel
theorem dX9_ofFlyer_0 : decode cX9_ofFlyer 0 = .ok (.aload_n 0, 1) := by decide +kernel
theorem dX9_ofFlyer_1 : decode cX9_ofFlyer 1 = .ok (.iload_n 1, 1) := by decide +kernel
theorem dX9_ofFlyer_2 : decode cX9_ofFlyer 2 = .ok (.invokevirtual 153, 3) := by decide +kernel
theorem dX9_ofFlyer_5 : decode cX9_ofFlyer 5 = .ok (.ifCond .eq 15, 3) := by decide +kernel
theorem dX9_ofFlyer_8 : decode cX9_ofFlyer 8 = .ok (.iload_n 2, 1) := by decide +kernel
theorem dX9_ofFlyer_9 : decode cX9_ofFlyer 9 = .ok (.i2l, 1) := by decide +kernel
theorem dX9_ofFlyer_10 : decode cX9_ofFlyer 10 = .ok (.lconst 0, 1) := by decide +kernel
theorem dX9_ofFlyer_11 : decode cX9_ofFlyer 11 = .ok (.ldc2_w 156, 3) := by decide +kernel
theorem dX9_ofFlyer_14 : decode cX9_ofFlyer 14 = .ok (.invokestatic 45, 3) := by decide +kernel
theorem dX9_ofFlyer_17 : decode cX9_ofFlyer 17 = .ok (.ifCond .ne 9, 3) := by decide +kernel
theorem dX9_ofFlyer_20 : decode cX9_ofFlyer 20 = .ok (.aload_n 0, 1) := by decide +kernel
theorem dX9_ofFlyer_21 : decode cX9_ofFlyer 21 = .ok (.iconst 1, 1) := by decide +kernel
theorem dX9_ofFlyer_22 : decode cX9_ofFlyer 22 = .ok (.invokevirtual 103, 3) := by decide +kernel
theorem dX9_ofFlyer_25 : decode cX9_ofFlyer 25 = .ok (.ireturn, 1) := by decide +kernel
theorem dX9_ofFlyer_26 : decode cX9_ofFlyer 26 = .ok (.iload_n 2, 1) := by decide +kernel
theorem dX9_ofFlyer_27 : decode cX9_ofFlyer 27 = .ok (.tableswitch 45 4 6 #[25, 31, 37], 25) := by decide +kernel
theorem dX9_ofFlyer_52 : decode cX9_ofFlyer 52 = .ok (.aload_n 0, 1) := by decide +kernel
theorem dX9_ofFlyer_53 : decode cX9_ofFlyer 53 = .ok (.iload_n 1, 1) := by decide +kernel
theorem dX9_ofFlyer_54 : decode cX9_ofFlyer 54 = .ok (.invokevirtual 158, 3) := by decide +kernel
theorem dX9_ofFlyer_57 : decode cX9_ofFlyer 57 = .ok (.ireturn, 1) := by decide +kernel
theorem dX9_ofFlyer_58 : decode cX9_ofFlyer 58 = .ok (.aload_n 0, 1) := by decide +kernel
theorem dX9_ofFlyer_59 : decode cX9_ofFlyer 59 = .ok (.iload_n 1, 1) := by decide +kernel
theorem dX9_ofFlyer_60 : decode cX9_ofFlyer 60 = .ok (.invokevirtual 161, 3) := by decide +kernel
theorem dX9_ofFlyer_63 : decode cX9_ofFlyer 63 = .ok (.ireturn, 1) := by decide +kernel
theorem dX9_ofFlyer_64 : decode cX9_ofFlyer 64 = .ok (.aload_n 0, 1) := by decide +kernel
theorem dX9_ofFlyer_65 : decode cX9_ofFlyer 65 = .ok (.iload_n 1, 1) := by decide +kernel
theorem dX9_ofFlyer_66 : decode cX9_ofFlyer 66 = .ok (.bipush 10, 2) := by decide +kernel
theorem dX9_ofFlyer_68 : decode cX9_ofFlyer 68 = .ok (.invokevirtual 164, 3) := by decide +kernel
theorem dX9_ofFlyer_71 : decode cX9_ofFlyer 71 = .ok (.ireturn, 1) := by decide +kernel
theorem dX9_ofFlyer_72 : decode cX9_ofFlyer 72 = .ok (.aload_n 0, 1) := by decide +kernel
theorem dX9_ofFlyer_73 : decode cX9_ofFlyer 73 = .ok (.iload_n 1, 1) := by decide +kernel
theorem dX9_ofFlyer_74 : decode cX9_ofFlyer 74 = .ok (.iload_n 2, 1) := by decide +kernel
theorem dX9_ofFlyer_75 : decode cX9_ofFlyer 75 = .ok (.invokevirtual 144, 3) := by decide +kernel
theorem dX9_ofFlyer_78 : decode cX9_ofFlyer 78 = .ok (.ireturn, 1) := by decide +kernel
theorem dX9_become_0 : decode cX9_become 0 = .ok (.aload_n 0, 1) := by decide +kernel
theorem dX9_become_1 : decode cX9_become 1 = .ok (.iload_n 1, 1) := by decide +kernel
theorem dX9_become_2 : decode cX9_become 2 = .ok (.invokevirtual 153, 3) := by decide +kernel
theorem dX9_become_5 : decode cX9_become 5 = .ok (.ifCond .eq 15, 3) := by decide +kernel
theorem dX9_become_8 : decode cX9_become 8 = .ok (.iload_n 2, 1) := by decide +kernel
theorem dX9_become_9 : decode cX9_become 9 = .ok (.i2l, 1) := by decide +kernel
theorem dX9_become_10 : decode cX9_become 10 = .ok (.lconst 0, 1) := by decide +kernel
theorem dX9_become_11 : decode cX9_become 11 = .ok (.ldc2_w 147, 3) := by decide +kernel
theorem dX9_become_14 : decode cX9_become 14 = .ok (.invokestatic 45, 3) := by decide +kernel
theorem dX9_become_17 : decode cX9_become 17 = .ok (.ifCond .ne 9, 3) := by decide +kernel
theorem dX9_become_20 : decode cX9_become 20 = .ok (.aload_n 0, 1) := by decide +kernel
theorem dX9_become_21 : decode cX9_become 21 = .ok (.iconst 1, 1) := by decide +kernel
theorem dX9_become_22 : decode cX9_become 22 = .ok (.invokevirtual 103, 3) := by decide +kernel
theorem dX9_become_25 : decode cX9_become 25 = .ok (.ireturn, 1) := by decide +kernel
theorem dX9_become_26 : decode cX9_become 26 = .ok (.aload_n 0, 1) := by decide +kernel
theorem dX9_become_27 : decode cX9_become 27 = .ok (.iload_n 1, 1) := by decide +kernel
theorem dX9_become_28 : decode cX9_become 28 = .ok (.iconst 0, 1) := by decide +kernel
theorem dX9_become_29 : decode cX9_become 29 = .ok (.invokevirtual 144, 3) := by decide +kernel
theorem dX9_become_32 : decode cX9_become 32 = .ok (.istore_n 3, 1) := by decide +kernel
theorem dX9_become_33 : decode cX9_become 33 = .ok (.aload_n 0, 1) := by decide +kernel
theorem dX9_become_34 : decode cX9_become 34 = .ok (.iload_n 1, 1) := by decide +kernel
theorem dX9_become_35 : decode cX9_become 35 = .ok (.iconst 0, 1) := by decide +kernel
theorem dX9_become_36 : decode cX9_become 36 = .ok (.iload_n 2, 1) := by decide +kernel
theorem dX9_become_37 : decode cX9_become 37 = .ok (.bipush 10, 2) := by decide +kernel
theorem dX9_become_39 : decode cX9_become 39 = .ok (.idiv, 1) := by decide +kernel
theorem dX9_become_40 : decode cX9_become 40 = .ok (.invokevirtual 149, 3) := by decide +kernel
theorem dX9_become_43 : decode cX9_become 43 = .ok (.aload_n 0, 1) := by decide +kernel
theorem dX9_become_44 : decode cX9_become 44 = .ok (.iload_n 1, 1) := by decide +kernel
theorem dX9_become_45 : decode cX9_become 45 = .ok (.iconst 1, 1) := by decide +kernel
theorem dX9_become_46 : decode cX9_become 46 = .ok (.iload_n 2, 1) := by decide +kernel
theorem dX9_become_47 : decode cX9_become 47 = .ok (.bipush 10, 2) := by decide +kernel
theorem dX9_become_49 : decode cX9_become 49 = .ok (.irem, 1) := by decide +kernel
theorem dX9_become_50 : decode cX9_become 50 = .ok (.invokevirtual 149, 3) := by decide +kernel
theorem dX9_become_53 : decode cX9_become 53 = .ok (.iload_n 3, 1) := by decide +kernel
theorem dX9_become_54 : decode cX9_become 54 = .ok (.ireturn, 1) := by decide +kernel
theorem dX9_above_0 : decode cX9_above 0 = .ok (.iload_n 0, 1) := by decide +kernel
theorem dX9_above_1 : decode cX9_above 1 = .ok (.iconst 4, 1) := by decide +kernel
theorem dX9_above_2 : decode cX9_above 2 = .ok (.if_icmp .ge 7, 3) := by decide +kernel
theorem dX9_above_5 : decode cX9_above 5 = .ok (.iconst 0, 1) := by decide +kernel
theorem dX9_above_6 : decode cX9_above 6 = .ok (.goto 6, 3) := by decide +kernel
theorem dX9_above_9 : decode cX9_above 9 = .ok (.iload_n 0, 1) := by decide +kernel
theorem dX9_above_10 : decode cX9_above 10 = .ok (.iconst 3, 1) := by decide +kernel
theorem dX9_above_11 : decode cX9_above 11 = .ok (.isub, 1) := by decide +kernel
theorem dX9_above_12 : decode cX9_above 12 = .ok (.ireturn, 1) := by decide +kernel
theorem dX9_as_0 : decode cX9_as 0 = .ok (.aload_n 0, 1) := by decide +kernel
theorem dX9_as_1 : decode cX9_as 1 = .ok (.iload_n 1, 1) := by decide +kernel
theorem dX9_as_2 : decode cX9_as 2 = .ok (.invokevirtual 153, 3) := by decide +kernel
theorem dX9_as_5 : decode cX9_as 5 = .ok (.ifCond .eq 15, 3) := by decide +kernel
theorem dX9_as_8 : decode cX9_as 8 = .ok (.iload_n 2, 1) := by decide +kernel
theorem dX9_as_9 : decode cX9_as 9 = .ok (.i2l, 1) := by decide +kernel
theorem dX9_as_10 : decode cX9_as 10 = .ok (.lconst 0, 1) := by decide +kernel
theorem dX9_as_11 : decode cX9_as 11 = .ok (.ldc2_w 156, 3) := by decide +kernel
theorem dX9_as_14 : decode cX9_as 14 = .ok (.invokestatic 45, 3) := by decide +kernel
theorem dX9_as_17 : decode cX9_as 17 = .ok (.ifCond .ne 9, 3) := by decide +kernel
theorem dX9_as_20 : decode cX9_as 20 = .ok (.aload_n 0, 1) := by decide +kernel
theorem dX9_as_21 : decode cX9_as 21 = .ok (.iconst 1, 1) := by decide +kernel
theorem dX9_as_22 : decode cX9_as 22 = .ok (.invokevirtual 103, 3) := by decide +kernel
theorem dX9_as_25 : decode cX9_as 25 = .ok (.ireturn, 1) := by decide +kernel
theorem dX9_as_26 : decode cX9_as 26 = .ok (.aload_n 0, 1) := by decide +kernel
theorem dX9_as_27 : decode cX9_as 27 = .ok (.iload_n 1, 1) := by decide +kernel
theorem dX9_as_28 : decode cX9_as 28 = .ok (.iconst 0, 1) := by decide +kernel
theorem dX9_as_29 : decode cX9_as 29 = .ok (.invokevirtual 144, 3) := by decide +kernel
theorem dX9_as_32 : decode cX9_as 32 = .ok (.istore_n 3, 1) := by decide +kernel
theorem dX9_as_33 : decode cX9_as 33 = .ok (.iload_n 2, 1) := by decide +kernel
theorem dX9_as_34 : decode cX9_as 34 = .ok (.ifCond .eq 16, 3) := by decide +kernel
theorem dX9_as_37 : decode cX9_as 37 = .ok (.iload_n 2, 1) := by decide +kernel
theorem dX9_as_38 : decode cX9_as 38 = .ok (.iload_n 3, 1) := by decide +kernel
theorem dX9_as_39 : decode cX9_as 39 = .ok (.if_icmp .eq 11, 3) := by decide +kernel
theorem dX9_as_42 : decode cX9_as 42 = .ok (.iload_n 2, 1) := by decide +kernel
theorem dX9_as_43 : decode cX9_as 43 = .ok (.iload_n 3, 1) := by decide +kernel
theorem dX9_as_44 : decode cX9_as 44 = .ok (.invokestatic 167, 3) := by decide +kernel
theorem dX9_as_47 : decode cX9_as 47 = .ok (.if_icmp .ne 12, 3) := by decide +kernel
theorem dX9_as_50 : decode cX9_as 50 = .ok (.aload_n 0, 1) := by decide +kernel
theorem dX9_as_51 : decode cX9_as 51 = .ok (.iload_n 1, 1) := by decide +kernel
theorem dX9_as_52 : decode cX9_as 52 = .ok (.iconst 1, 1) := by decide +kernel
theorem dX9_as_53 : decode cX9_as 53 = .ok (.invokevirtual 144, 3) := by decide +kernel
theorem dX9_as_56 : decode cX9_as 56 = .ok (.goto 8, 3) := by decide +kernel
theorem dX9_as_59 : decode cX9_as 59 = .ok (.aload_n 0, 1) := by decide +kernel
theorem dX9_as_60 : decode cX9_as 60 = .ok (.iconst 5, 1) := by decide +kernel
theorem dX9_as_61 : decode cX9_as 61 = .ok (.invokevirtual 103, 3) := by decide +kernel
theorem dX9_as_64 : decode cX9_as 64 = .ok (.ireturn, 1) := by decide +kernel
theorem dX9_turn_0 : decode cX9_turn 0 = .ok (.aload_n 0, 1) := by decide +kernel
theorem dX9_turn_1 : decode cX9_turn 1 = .ok (.iload_n 1, 1) := by decide +kernel
theorem dX9_turn_2 : decode cX9_turn 2 = .ok (.invokevirtual 153, 3) := by decide +kernel
theorem dX9_turn_5 : decode cX9_turn 5 = .ok (.ifCond .eq 15, 3) := by decide +kernel
theorem dX9_turn_8 : decode cX9_turn 8 = .ok (.iload_n 2, 1) := by decide +kernel
theorem dX9_turn_9 : decode cX9_turn 9 = .ok (.i2l, 1) := by decide +kernel
theorem dX9_turn_10 : decode cX9_turn 10 = .ok (.lconst 1, 1) := by decide +kernel
theorem dX9_turn_11 : decode cX9_turn 11 = .ok (.ldc2_w 170, 3) := by decide +kernel
theorem dX9_turn_14 : decode cX9_turn 14 = .ok (.invokestatic 45, 3) := by decide +kernel
theorem dX9_turn_17 : decode cX9_turn 17 = .ok (.ifCond .ne 9, 3) := by decide +kernel
theorem dX9_turn_20 : decode cX9_turn 20 = .ok (.aload_n 0, 1) := by decide +kernel
theorem dX9_turn_21 : decode cX9_turn 21 = .ok (.iconst 1, 1) := by decide +kernel
theorem dX9_turn_22 : decode cX9_turn 22 = .ok (.invokevirtual 103, 3) := by decide +kernel
theorem dX9_turn_25 : decode cX9_turn 25 = .ok (.ireturn, 1) := by decide +kernel
theorem dX9_turn_26 : decode cX9_turn 26 = .ok (.aload_n 0, 1) := by decide +kernel
theorem dX9_turn_27 : decode cX9_turn 27 = .ok (.iload_n 1, 1) := by decide +kernel
theorem dX9_turn_28 : decode cX9_turn 28 = .ok (.iconst 2, 1) := by decide +kernel
theorem dX9_turn_29 : decode cX9_turn 29 = .ok (.invokevirtual 144, 3) := by decide +kernel
theorem dX9_turn_32 : decode cX9_turn 32 = .ok (.istore_n 3, 1) := by decide +kernel
theorem dX9_turn_33 : decode cX9_turn 33 = .ok (.aload_n 0, 1) := by decide +kernel
theorem dX9_turn_34 : decode cX9_turn 34 = .ok (.iload_n 1, 1) := by decide +kernel
theorem dX9_turn_35 : decode cX9_turn 35 = .ok (.iconst 2, 1) := by decide +kernel
theorem dX9_turn_36 : decode cX9_turn 36 = .ok (.iload_n 2, 1) := by decide +kernel
theorem dX9_turn_37 : decode cX9_turn 37 = .ok (.invokevirtual 149, 3) := by decide +kernel
theorem dX9_turn_40 : decode cX9_turn 40 = .ok (.iload_n 3, 1) := by decide +kernel
theorem dX9_turn_41 : decode cX9_turn 41 = .ok (.ireturn, 1) := by decide +kernel
theorem dX9_letsGo_0 : decode cX9_letsGo 0 = .ok (.aload_n 0, 1) := by decide +kernel
theorem dX9_letsGo_1 : decode cX9_letsGo 1 = .ok (.iconst 0, 1) := by decide +kernel
theorem dX9_letsGo_2 : decode cX9_letsGo 2 = .ok (.iload_n 2, 1) := by decide +kernel
theorem dX9_letsGo_3 : decode cX9_letsGo 3 = .ok (.invokevirtual 119, 3) := by decide +kernel
theorem dX9_letsGo_6 : decode cX9_letsGo 6 = .ok (.istore_n 3, 1) := by decide +kernel
theorem dX9_letsGo_7 : decode cX9_letsGo 7 = .ok (.iload_n 3, 1) := by decide +kernel
theorem dX9_letsGo_8 : decode cX9_letsGo 8 = .ok (.aload_n 0, 1) := by decide +kernel
theorem dX9_letsGo_9 : decode cX9_letsGo 9 = .ok (.iconst 0, 1) := by decide +kernel
theorem dX9_letsGo_10 : decode cX9_letsGo 10 = .ok (.iload_n 2, 1) := by decide +kernel
theorem dX9_letsGo_11 : decode cX9_letsGo 11 = .ok (.iconst 1, 1) := by decide +kernel
theorem dX9_letsGo_12 : decode cX9_letsGo 12 = .ok (.isub, 1) := by decide +kernel
theorem dX9_letsGo_13 : decode cX9_letsGo 13 = .ok (.invokevirtual 119, 3) := by decide +kernel
theorem dX9_letsGo_16 : decode cX9_letsGo 16 = .ok (.isub, 1) := by decide +kernel
theorem dX9_letsGo_17 : decode cX9_letsGo 17 = .ok (.istore 4, 2) := by decide +kernel
theorem dX9_letsGo_19 : decode cX9_letsGo 19 = .ok (.aload_n 0, 1) := by decide +kernel
theorem dX9_letsGo_20 : decode cX9_letsGo 20 = .ok (.iload_n 2, 1) := by decide +kernel
theorem dX9_letsGo_21 : decode cX9_letsGo 21 = .ok (.aload_n 0, 1) := by decide +kernel
theorem dX9_letsGo_22 : decode cX9_letsGo 22 = .ok (.iconst 0, 1) := by decide +kernel
theorem dX9_letsGo_23 : decode cX9_letsGo 23 = .ok (.aload_n 0, 1) := by decide +kernel
theorem dX9_letsGo_24 : decode cX9_letsGo 24 = .ok (.iload_n 1, 1) := by decide +kernel
theorem dX9_letsGo_25 : decode cX9_letsGo 25 = .ok (.iconst 2, 1) := by decide +kernel
theorem dX9_letsGo_26 : decode cX9_letsGo 26 = .ok (.invokevirtual 144, 3) := by decide +kernel
theorem dX9_letsGo_29 : decode cX9_letsGo 29 = .ok (.iload 4, 2) := by decide +kernel
theorem dX9_letsGo_31 : decode cX9_letsGo 31 = .ok (.aload_n 0, 1) := by decide +kernel
theorem dX9_letsGo_32 : decode cX9_letsGo 32 = .ok (.iload_n 1, 1) := by decide +kernel
theorem dX9_letsGo_33 : decode cX9_letsGo 33 = .ok (.iconst 1, 1) := by decide +kernel
theorem dX9_letsGo_34 : decode cX9_letsGo 34 = .ok (.invokevirtual 144, 3) := by decide +kernel
theorem dX9_letsGo_37 : decode cX9_letsGo 37 = .ok (.invokevirtual 115, 3) := by decide +kernel
theorem dX9_letsGo_40 : decode cX9_letsGo 40 = .ok (.iadd, 1) := by decide +kernel
theorem dX9_letsGo_41 : decode cX9_letsGo 41 = .ok (.putfield 172, 3) := by decide +kernel
theorem dX9_letsGo_44 : decode cX9_letsGo 44 = .ok (.aload_n 0, 1) := by decide +kernel
theorem dX9_letsGo_45 : decode cX9_letsGo 45 = .ok (.iload_n 3, 1) := by decide +kernel
theorem dX9_letsGo_46 : decode cX9_letsGo 46 = .ok (.aload_n 0, 1) := by decide +kernel
theorem dX9_letsGo_47 : decode cX9_letsGo 47 = .ok (.iconst 1, 1) := by decide +kernel
theorem dX9_letsGo_48 : decode cX9_letsGo 48 = .ok (.aload_n 0, 1) := by decide +kernel
theorem dX9_letsGo_49 : decode cX9_letsGo 49 = .ok (.iload_n 1, 1) := by decide +kernel
theorem dX9_letsGo_50 : decode cX9_letsGo 50 = .ok (.iconst 2, 1) := by decide +kernel
theorem dX9_letsGo_51 : decode cX9_letsGo 51 = .ok (.invokevirtual 144, 3) := by decide +kernel
theorem dX9_letsGo_54 : decode cX9_letsGo 54 = .ok (.iload 4, 2) := by decide +kernel
theorem dX9_letsGo_56 : decode cX9_letsGo 56 = .ok (.aload_n 0, 1) := by decide +kernel
theorem dX9_letsGo_57 : decode cX9_letsGo 57 = .ok (.iload_n 1, 1) := by decide +kernel
theorem dX9_letsGo_58 : decode cX9_letsGo 58 = .ok (.iconst 1, 1) := by decide +kernel
theorem dX9_letsGo_59 : decode cX9_letsGo 59 = .ok (.invokevirtual 144, 3) := by decide +kernel
theorem dX9_letsGo_62 : decode cX9_letsGo 62 = .ok (.invokevirtual 115, 3) := by decide +kernel
theorem dX9_letsGo_65 : decode cX9_letsGo 65 = .ok (.iadd, 1) := by decide +kernel
theorem dX9_letsGo_66 : decode cX9_letsGo 66 = .ok (.putfield 175, 3) := by decide +kernel
theorem dX9_letsGo_69 : decode cX9_letsGo 69 = .ok (.return_, 1) := by decide +kernel
theorem dX9_size0_0 : decode cX9_size0 0 = .ok (.iload_n 0, 1) := by decide +kernel
theorem dX9_size0_1 : decode cX9_size0 1 = .ok (.ifCond .ge 8, 3) := by decide +kernel
theorem dX9_size0_4 : decode cX9_size0 4 = .ok (.iload_n 0, 1) := by decide +kernel
theorem dX9_size0_5 : decode cX9_size0 5 = .ok (.ineg, 1) := by decide +kernel
theorem dX9_size0_6 : decode cX9_size0 6 = .ok (.goto 4, 3) := by decide +kernel
theorem dX9_size0_9 : decode cX9_size0 9 = .ok (.iload_n 0, 1) := by decide +kernel
theorem dX9_size0_10 : decode cX9_size0 10 = .ok (.ireturn, 1) := by decide +kernel
theorem dX9_offNow_0 : decode cX9_offNow 0 = .ok (.aload_n 0, 1) := by decide +kernel
theorem dX9_offNow_1 : decode cX9_offNow 1 = .ok (.getfield 175, 3) := by decide +kernel
theorem dX9_offNow_4 : decode cX9_offNow 4 = .ok (.aload_n 0, 1) := by decide +kernel
theorem dX9_offNow_5 : decode cX9_offNow 5 = .ok (.aload_n 0, 1) := by decide +kernel
theorem dX9_offNow_6 : decode cX9_offNow 6 = .ok (.getfield 172, 3) := by decide +kernel
theorem dX9_offNow_9 : decode cX9_offNow 9 = .ok (.invokevirtual 178, 3) := by decide +kernel
theorem dX9_offNow_12 : decode cX9_offNow 12 = .ok (.isub, 1) := by decide +kernel
theorem dX9_offNow_13 : decode cX9_offNow 13 = .ok (.ireturn, 1) := by decide +kernel
theorem dX9_isTold_0 : decode cX9_isTold 0 = .ok (.aload_n 0, 1) := by decide +kernel
theorem dX9_isTold_1 : decode cX9_isTold 1 = .ok (.iload_n 1, 1) := by decide +kernel
theorem dX9_isTold_2 : decode cX9_isTold 2 = .ok (.iload_n 2, 1) := by decide +kernel
theorem dX9_isTold_3 : decode cX9_isTold 3 = .ok (.aload_n 0, 1) := by decide +kernel
theorem dX9_isTold_4 : decode cX9_isTold 4 = .ok (.iload_n 1, 1) := by decide +kernel
theorem dX9_isTold_5 : decode cX9_isTold 5 = .ok (.invokevirtual 158, 3) := by decide +kernel
theorem dX9_isTold_8 : decode cX9_isTold 8 = .ok (.iadd, 1) := by decide +kernel
theorem dX9_isTold_9 : decode cX9_isTold 9 = .ok (.invokevirtual 181, 3) := by decide +kernel
theorem dX9_isTold_12 : decode cX9_isTold 12 = .ok (.return_, 1) := by decide +kernel
theorem dX9_isCaught_0 : decode cX9_isCaught 0 = .ok (.aload_n 0, 1) := by decide +kernel
theorem dX9_isCaught_1 : decode cX9_isCaught 1 = .ok (.invokevirtual 185, 3) := by decide +kernel
theorem dX9_isCaught_4 : decode cX9_isCaught 4 = .ok (.invokestatic 188, 3) := by decide +kernel
theorem dX9_isCaught_7 : decode cX9_isCaught 7 = .ok (.aload_n 0, 1) := by decide +kernel
theorem dX9_isCaught_8 : decode cX9_isCaught 8 = .ok (.iload_n 1, 1) := by decide +kernel
theorem dX9_isCaught_9 : decode cX9_isCaught 9 = .ok (.invokevirtual 161, 3) := by decide +kernel
theorem dX9_isCaught_12 : decode cX9_isCaught 12 = .ok (.if_icmp .gt 7, 3) := by decide +kernel
theorem dX9_isCaught_15 : decode cX9_isCaught 15 = .ok (.iconst 1, 1) := by decide +kernel
theorem dX9_isCaught_16 : decode cX9_isCaught 16 = .ok (.goto 4, 3) := by decide +kernel
theorem dX9_isCaught_19 : decode cX9_isCaught 19 = .ok (.iconst 0, 1) := by decide +kernel
theorem dX9_isCaught_20 : decode cX9_isCaught 20 = .ok (.ireturn, 1) := by decide +kernel
theorem dX9_fallHarm_0 : decode cX9_fallHarm 0 = .ok (.aload_n 0, 1) := by decide +kernel
theorem dX9_fallHarm_1 : decode cX9_fallHarm 1 = .ok (.iload_n 1, 1) := by decide +kernel
theorem dX9_fallHarm_2 : decode cX9_fallHarm 2 = .ok (.aload_n 0, 1) := by decide +kernel
theorem dX9_fallHarm_3 : decode cX9_fallHarm 3 = .ok (.getfield 175, 3) := by decide +kernel
theorem dX9_fallHarm_6 : decode cX9_fallHarm 6 = .ok (.iload_n 2, 1) := by decide +kernel
theorem dX9_fallHarm_7 : decode cX9_fallHarm 7 = .ok (.isub, 1) := by decide +kernel
theorem dX9_fallHarm_8 : decode cX9_fallHarm 8 = .ok (.invokestatic 188, 3) := by decide +kernel
theorem dX9_fallHarm_11 : decode cX9_fallHarm 11 = .ok (.invokevirtual 164, 3) := by decide +kernel
theorem dX9_fallHarm_14 : decode cX9_fallHarm 14 = .ok (.ireturn, 1) := by decide +kernel
theorem dX9_goes_0 : decode cX9_goes 0 = .ok (.aload_n 0, 1) := by decide +kernel
theorem dX9_goes_1 : decode cX9_goes 1 = .ok (.iload_n 1, 1) := by decide +kernel
theorem dX9_goes_2 : decode cX9_goes 2 = .ok (.iload_n 2, 1) := by decide +kernel
theorem dX9_goes_3 : decode cX9_goes 3 = .ok (.invokevirtual 191, 3) := by decide +kernel
theorem dX9_goes_6 : decode cX9_goes 6 = .ok (.aload_n 0, 1) := by decide +kernel
theorem dX9_goes_7 : decode cX9_goes 7 = .ok (.iload_n 1, 1) := by decide +kernel
theorem dX9_goes_8 : decode cX9_goes 8 = .ok (.invokevirtual 194, 3) := by decide +kernel
theorem dX9_goes_11 : decode cX9_goes 11 = .ok (.ifCond .eq 7, 3) := by decide +kernel
theorem dX9_goes_14 : decode cX9_goes 14 = .ok (.iconst 0, 1) := by decide +kernel
theorem dX9_goes_15 : decode cX9_goes 15 = .ok (.goto 17, 3) := by decide +kernel
theorem dX9_goes_18 : decode cX9_goes 18 = .ok (.iconst 1, 1) := by decide +kernel
theorem dX9_goes_19 : decode cX9_goes 19 = .ok (.aload_n 0, 1) := by decide +kernel
theorem dX9_goes_20 : decode cX9_goes 20 = .ok (.iload_n 1, 1) := by decide +kernel
theorem dX9_goes_21 : decode cX9_goes 21 = .ok (.aload_n 0, 1) := by decide +kernel
theorem dX9_goes_22 : decode cX9_goes 22 = .ok (.getfield 7, 3) := by decide +kernel
theorem dX9_goes_25 : decode cX9_goes 25 = .ok (.bipush 7, 2) := by decide +kernel
theorem dX9_goes_27 : decode cX9_goes 27 = .ok (.iaload, 1) := by decide +kernel
theorem dX9_goes_28 : decode cX9_goes 28 = .ok (.invokevirtual 197, 3) := by decide +kernel
theorem dX9_goes_31 : decode cX9_goes 31 = .ok (.iadd, 1) := by decide +kernel
theorem dX9_goes_32 : decode cX9_goes 32 = .ok (.istore_n 3, 1) := by decide +kernel
theorem dX9_goes_33 : decode cX9_goes 33 = .ok (.iload_n 3, 1) := by decide +kernel
theorem dX9_goes_34 : decode cX9_goes 34 = .ok (.ifCond .ne 7, 3) := by decide +kernel
theorem dX9_goes_37 : decode cX9_goes 37 = .ok (.iconst 2, 1) := by decide +kernel
theorem dX9_goes_38 : decode cX9_goes 38 = .ok (.goto 4, 3) := by decide +kernel
theorem dX9_goes_41 : decode cX9_goes 41 = .ok (.iconst 3, 1) := by decide +kernel
theorem dX9_goes_42 : decode cX9_goes 42 = .ok (.istore 4, 2) := by decide +kernel
theorem dX9_goes_44 : decode cX9_goes 44 = .ok (.aload_n 0, 1) := by decide +kernel
theorem dX9_goes_45 : decode cX9_goes 45 = .ok (.getfield 7, 3) := by decide +kernel
theorem dX9_goes_48 : decode cX9_goes 48 = .ok (.iload 4, 2) := by decide +kernel
theorem dX9_goes_50 : decode cX9_goes 50 = .ok (.aload_n 0, 1) := by decide +kernel
theorem dX9_goes_51 : decode cX9_goes 51 = .ok (.getfield 7, 3) := by decide +kernel
theorem dX9_goes_54 : decode cX9_goes 54 = .ok (.iload 4, 2) := by decide +kernel
theorem dX9_goes_56 : decode cX9_goes 56 = .ok (.iaload, 1) := by decide +kernel
theorem dX9_goes_57 : decode cX9_goes 57 = .ok (.iconst 1, 1) := by decide +kernel
theorem dX9_goes_58 : decode cX9_goes 58 = .ok (.iadd, 1) := by decide +kernel
theorem dX9_goes_59 : decode cX9_goes 59 = .ok (.iconst 0, 1) := by decide +kernel
theorem dX9_goes_60 : decode cX9_goes 60 = .ok (.sipush 9999, 3) := by decide +kernel
theorem dX9_goes_63 : decode cX9_goes 63 = .ok (.invokestatic 112, 3) := by decide +kernel
theorem dX9_goes_66 : decode cX9_goes 66 = .ok (.iastore, 1) := by decide +kernel
theorem dX9_goes_67 : decode cX9_goes 67 = .ok (.aload_n 0, 1) := by decide +kernel
theorem dX9_goes_68 : decode cX9_goes 68 = .ok (.getfield 7, 3) := by decide +kernel
theorem dX9_goes_71 : decode cX9_goes 71 = .ok (.iconst 4, 1) := by decide +kernel
theorem dX9_goes_72 : decode cX9_goes 72 = .ok (.aload_n 0, 1) := by decide +kernel
theorem dX9_goes_73 : decode cX9_goes 73 = .ok (.getfield 7, 3) := by decide +kernel
theorem dX9_goes_76 : decode cX9_goes 76 = .ok (.iconst 4, 1) := by decide +kernel
theorem dX9_goes_77 : decode cX9_goes 77 = .ok (.iaload, 1) := by decide +kernel
theorem dX9_goes_78 : decode cX9_goes 78 = .ok (.iload_n 3, 1) := by decide +kernel
theorem dX9_goes_79 : decode cX9_goes 79 = .ok (.ifCond .ne 7, 3) := by decide +kernel
theorem dX9_goes_82 : decode cX9_goes 82 = .ok (.iconst 0, 1) := by decide +kernel
theorem dX9_goes_83 : decode cX9_goes 83 = .ok (.goto 6, 3) := by decide +kernel
theorem dX9_goes_86 : decode cX9_goes 86 = .ok (.iload_n 3, 1) := by decide +kernel
theorem dX9_goes_87 : decode cX9_goes 87 = .ok (.iconst 1, 1) := by decide +kernel
theorem dX9_goes_88 : decode cX9_goes 88 = .ok (.isub, 1) := by decide +kernel
theorem dX9_goes_89 : decode cX9_goes 89 = .ok (.iadd, 1) := by decide +kernel
theorem dX9_goes_90 : decode cX9_goes 90 = .ok (.iconst 0, 1) := by decide +kernel
theorem dX9_goes_91 : decode cX9_goes 91 = .ok (.ldc 200, 2) := by decide +kernel
theorem dX9_goes_93 : decode cX9_goes 93 = .ok (.invokestatic 112, 3) := by decide +kernel
theorem dX9_goes_96 : decode cX9_goes 96 = .ok (.iastore, 1) := by decide +kernel
theorem dX9_goes_97 : decode cX9_goes 97 = .ok (.aload_n 0, 1) := by decide +kernel
theorem dX9_goes_98 : decode cX9_goes 98 = .ok (.iload_n 1, 1) := by decide +kernel
theorem dX9_goes_99 : decode cX9_goes 99 = .ok (.iconst 3, 1) := by decide +kernel
theorem dX9_goes_100 : decode cX9_goes 100 = .ok (.aload_n 0, 1) := by decide +kernel
theorem dX9_goes_101 : decode cX9_goes 101 = .ok (.iload_n 1, 1) := by decide +kernel
theorem dX9_goes_102 : decode cX9_goes 102 = .ok (.iconst 3, 1) := by decide +kernel
theorem dX9_goes_103 : decode cX9_goes 103 = .ok (.invokevirtual 144, 3) := by decide +kernel
theorem dX9_goes_106 : decode cX9_goes 106 = .ok (.iconst 1, 1) := by decide +kernel
theorem dX9_goes_107 : decode cX9_goes 107 = .ok (.iadd, 1) := by decide +kernel
theorem dX9_goes_108 : decode cX9_goes 108 = .ok (.iconst 0, 1) := by decide +kernel
theorem dX9_goes_109 : decode cX9_goes 109 = .ok (.bipush 99, 2) := by decide +kernel
theorem dX9_goes_111 : decode cX9_goes 111 = .ok (.invokestatic 112, 3) := by decide +kernel
theorem dX9_goes_114 : decode cX9_goes 114 = .ok (.invokevirtual 149, 3) := by decide +kernel
theorem dX9_goes_117 : decode cX9_goes 117 = .ok (.iload_n 3, 1) := by decide +kernel
theorem dX9_goes_118 : decode cX9_goes 118 = .ok (.ireturn, 1) := by decide +kernel
theorem dX9_go_0 : decode cX9_go 0 = .ok (.aload_n 0, 1) := by decide +kernel
theorem dX9_go_1 : decode cX9_go 1 = .ok (.iload_n 1, 1) := by decide +kernel
theorem dX9_go_2 : decode cX9_go 2 = .ok (.invokevirtual 153, 3) := by decide +kernel
theorem dX9_go_5 : decode cX9_go 5 = .ok (.ifCond .eq 17, 3) := by decide +kernel
theorem dX9_go_8 : decode cX9_go 8 = .ok (.aload_n 0, 1) := by decide +kernel
theorem dX9_go_9 : decode cX9_go 9 = .ok (.iload_n 1, 1) := by decide +kernel
theorem dX9_go_10 : decode cX9_go 10 = .ok (.aload_n 0, 1) := by decide +kernel
theorem dX9_go_11 : decode cX9_go 11 = .ok (.getfield 7, 3) := by decide +kernel
theorem dX9_go_14 : decode cX9_go 14 = .ok (.iconst 1, 1) := by decide +kernel
theorem dX9_go_15 : decode cX9_go 15 = .ok (.iaload, 1) := by decide +kernel
theorem dX9_go_16 : decode cX9_go 16 = .ok (.invokevirtual 201, 3) := by decide +kernel
theorem dX9_go_19 : decode cX9_go 19 = .ok (.goto 8, 3) := by decide +kernel
theorem dX9_go_22 : decode cX9_go 22 = .ok (.aload_n 0, 1) := by decide +kernel
theorem dX9_go_23 : decode cX9_go 23 = .ok (.iconst 1, 1) := by decide +kernel
theorem dX9_go_24 : decode cX9_go 24 = .ok (.invokevirtual 103, 3) := by decide +kernel
theorem dX9_go_27 : decode cX9_go 27 = .ok (.ireturn, 1) := by decide +kernel
theorem dX9_ticks_0 : decode cX9_ticks 0 = .ok (.iload_n 1, 1) := by decide +kernel
theorem dX9_ticks_1 : decode cX9_ticks 1 = .ok (.i2l, 1) := by decide +kernel
theorem dX9_ticks_2 : decode cX9_ticks 2 = .ok (.lconst 1, 1) := by decide +kernel
theorem dX9_ticks_3 : decode cX9_ticks 3 = .ok (.ldc2_w 136, 3) := by decide +kernel
theorem dX9_ticks_6 : decode cX9_ticks 6 = .ok (.invokestatic 45, 3) := by decide +kernel
theorem dX9_ticks_9 : decode cX9_ticks 9 = .ok (.ifCond .ne 9, 3) := by decide +kernel
theorem dX9_ticks_12 : decode cX9_ticks 12 = .ok (.aload_n 0, 1) := by decide +kernel
theorem dX9_ticks_13 : decode cX9_ticks 13 = .ok (.iconst 1, 1) := by decide +kernel
theorem dX9_ticks_14 : decode cX9_ticks 14 = .ok (.invokevirtual 103, 3) := by decide +kernel
theorem dX9_ticks_17 : decode cX9_ticks 17 = .ok (.ireturn, 1) := by decide +kernel
theorem dX9_ticks_18 : decode cX9_ticks 18 = .ok (.aload_n 0, 1) := by decide +kernel
theorem dX9_ticks_19 : decode cX9_ticks 19 = .ok (.getfield 7, 3) := by decide +kernel
theorem dX9_ticks_22 : decode cX9_ticks 22 = .ok (.iconst 1, 1) := by decide +kernel
theorem dX9_ticks_23 : decode cX9_ticks 23 = .ok (.iaload, 1) := by decide +kernel
theorem dX9_ticks_24 : decode cX9_ticks 24 = .ok (.iload_n 1, 1) := by decide +kernel
theorem dX9_ticks_25 : decode cX9_ticks 25 = .ok (.iadd, 1) := by decide +kernel
theorem dX9_ticks_26 : decode cX9_ticks 26 = .ok (.sipush 9999, 3) := by decide +kernel
theorem dX9_ticks_29 : decode cX9_ticks 29 = .ok (.if_icmp .le 9, 3) := by decide +kernel
theorem dX9_ticks_32 : decode cX9_ticks 32 = .ok (.aload_n 0, 1) := by decide +kernel
theorem dX9_ticks_33 : decode cX9_ticks 33 = .ok (.iconst 3, 1) := by decide +kernel
theorem dX9_ticks_34 : decode cX9_ticks 34 = .ok (.invokevirtual 103, 3) := by decide +kernel
theorem dX9_ticks_37 : decode cX9_ticks 37 = .ok (.ireturn, 1) := by decide +kernel
theorem dX9_ticks_38 : decode cX9_ticks 38 = .ok (.aload_n 0, 1) := by decide +kernel
theorem dX9_ticks_39 : decode cX9_ticks 39 = .ok (.getfield 7, 3) := by decide +kernel
theorem dX9_ticks_42 : decode cX9_ticks 42 = .ok (.iconst 1, 1) := by decide +kernel
theorem dX9_ticks_43 : decode cX9_ticks 43 = .ok (.dup2, 1) := by decide +kernel
theorem dX9_ticks_44 : decode cX9_ticks 44 = .ok (.iaload, 1) := by decide +kernel
theorem dX9_ticks_45 : decode cX9_ticks 45 = .ok (.iload_n 1, 1) := by decide +kernel
theorem dX9_ticks_46 : decode cX9_ticks 46 = .ok (.iadd, 1) := by decide +kernel
theorem dX9_ticks_47 : decode cX9_ticks 47 = .ok (.iastore, 1) := by decide +kernel
theorem dX9_ticks_48 : decode cX9_ticks 48 = .ok (.aload_n 0, 1) := by decide +kernel
theorem dX9_ticks_49 : decode cX9_ticks 49 = .ok (.getfield 7, 3) := by decide +kernel
theorem dX9_ticks_52 : decode cX9_ticks 52 = .ok (.iconst 1, 1) := by decide +kernel
theorem dX9_ticks_53 : decode cX9_ticks 53 = .ok (.iaload, 1) := by decide +kernel
theorem dX9_ticks_54 : decode cX9_ticks 54 = .ok (.ireturn, 1) := by decide +kernel
theorem dX9_drawn_0 : decode cX9_drawn 0 = .ok (.aload_n 0, 1) := by decide +kernel
theorem dX9_drawn_1 : decode cX9_drawn 1 = .ok (.getfield 7, 3) := by decide +kernel
theorem dX9_drawn_4 : decode cX9_drawn 4 = .ok (.bipush 8, 2) := by decide +kernel
theorem dX9_drawn_6 : decode cX9_drawn 6 = .ok (.aload_n 0, 1) := by decide +kernel
theorem dX9_drawn_7 : decode cX9_drawn 7 = .ok (.getfield 7, 3) := by decide +kernel
theorem dX9_drawn_10 : decode cX9_drawn 10 = .ok (.bipush 8, 2) := by decide +kernel
theorem dX9_drawn_12 : decode cX9_drawn 12 = .ok (.iaload, 1) := by decide +kernel
theorem dX9_drawn_13 : decode cX9_drawn 13 = .ok (.ldc 204, 2) := by decide +kernel
theorem dX9_drawn_15 : decode cX9_drawn 15 = .ok (.imul, 1) := by decide +kernel
theorem dX9_drawn_16 : decode cX9_drawn 16 = .ok (.sipush 12345, 3) := by decide +kernel
theorem dX9_drawn_19 : decode cX9_drawn 19 = .ok (.iadd, 1) := by decide +kernel
theorem dX9_drawn_20 : decode cX9_drawn 20 = .ok (.iastore, 1) := by decide +kernel
theorem dX9_drawn_21 : decode cX9_drawn 21 = .ok (.aload_n 0, 1) := by decide +kernel
theorem dX9_drawn_22 : decode cX9_drawn 22 = .ok (.getfield 7, 3) := by decide +kernel
theorem dX9_drawn_25 : decode cX9_drawn 25 = .ok (.bipush 8, 2) := by decide +kernel
theorem dX9_drawn_27 : decode cX9_drawn 27 = .ok (.iaload, 1) := by decide +kernel
theorem dX9_drawn_28 : decode cX9_drawn 28 = .ok (.bipush 8, 2) := by decide +kernel
theorem dX9_drawn_30 : decode cX9_drawn 30 = .ok (.iushr, 1) := by decide +kernel
theorem dX9_drawn_31 : decode cX9_drawn 31 = .ok (.ireturn, 1) := by decide +kernel
theorem dX9_evenings_0 : decode cX9_evenings 0 = .ok (.iload_n 1, 1) := by decide +kernel
theorem dX9_evenings_1 : decode cX9_evenings 1 = .ok (.i2l, 1) := by decide +kernel
theorem dX9_evenings_2 : decode cX9_evenings 2 = .ok (.lconst 1, 1) := by decide +kernel
theorem dX9_evenings_3 : decode cX9_evenings 3 = .ok (.ldc2_w 130, 3) := by decide +kernel
theorem dX9_evenings_6 : decode cX9_evenings 6 = .ok (.invokestatic 45, 3) := by decide +kernel
theorem dX9_evenings_9 : decode cX9_evenings 9 = .ok (.ifCond .ne 9, 3) := by decide +kernel
theorem dX9_evenings_12 : decode cX9_evenings 12 = .ok (.aload_n 0, 1) := by decide +kernel
theorem dX9_evenings_13 : decode cX9_evenings 13 = .ok (.iconst 1, 1) := by decide +kernel
theorem dX9_evenings_14 : decode cX9_evenings 14 = .ok (.invokevirtual 103, 3) := by decide +kernel
theorem dX9_evenings_17 : decode cX9_evenings 17 = .ok (.ireturn, 1) := by decide +kernel
theorem dX9_evenings_18 : decode cX9_evenings 18 = .ok (.aload_n 0, 1) := by decide +kernel
theorem dX9_evenings_19 : decode cX9_evenings 19 = .ok (.getfield 7, 3) := by decide +kernel
theorem dX9_evenings_22 : decode cX9_evenings 22 = .ok (.iconst 1, 1) := by decide +kernel
theorem dX9_evenings_23 : decode cX9_evenings 23 = .ok (.iaload, 1) := by decide +kernel
theorem dX9_evenings_24 : decode cX9_evenings 24 = .ok (.bipush 12, 2) := by decide +kernel
theorem dX9_evenings_26 : decode cX9_evenings 26 = .ok (.iload_n 1, 1) := by decide +kernel
theorem dX9_evenings_27 : decode cX9_evenings 27 = .ok (.imul, 1) := by decide +kernel
theorem dX9_evenings_28 : decode cX9_evenings 28 = .ok (.iadd, 1) := by decide +kernel
theorem dX9_evenings_29 : decode cX9_evenings 29 = .ok (.sipush 9999, 3) := by decide +kernel
theorem dX9_evenings_32 : decode cX9_evenings 32 = .ok (.if_icmp .le 9, 3) := by decide +kernel
theorem dX9_evenings_35 : decode cX9_evenings 35 = .ok (.aload_n 0, 1) := by decide +kernel
theorem dX9_evenings_36 : decode cX9_evenings 36 = .ok (.iconst 3, 1) := by decide +kernel
theorem dX9_evenings_37 : decode cX9_evenings 37 = .ok (.invokevirtual 103, 3) := by decide +kernel
theorem dX9_evenings_40 : decode cX9_evenings 40 = .ok (.ireturn, 1) := by decide +kernel
theorem dX9_evenings_41 : decode cX9_evenings 41 = .ok (.iconst 0, 1) := by decide +kernel
theorem dX9_evenings_42 : decode cX9_evenings 42 = .ok (.istore_n 2, 1) := by decide +kernel
theorem dX9_evenings_43 : decode cX9_evenings 43 = .ok (.iload_n 2, 1) := by decide +kernel
theorem dX9_evenings_44 : decode cX9_evenings 44 = .ok (.iload_n 1, 1) := by decide +kernel
theorem dX9_evenings_45 : decode cX9_evenings 45 = .ok (.if_icmp .ge 63, 3) := by decide +kernel
theorem dX9_evenings_48 : decode cX9_evenings 48 = .ok (.iconst 0, 1) := by decide +kernel
theorem dX9_evenings_49 : decode cX9_evenings 49 = .ok (.istore_n 3, 1) := by decide +kernel
theorem dX9_evenings_50 : decode cX9_evenings 50 = .ok (.iload_n 3, 1) := by decide +kernel
theorem dX9_evenings_51 : decode cX9_evenings 51 = .ok (.aload_n 0, 1) := by decide +kernel
theorem dX9_evenings_52 : decode cX9_evenings 52 = .ok (.getfield 7, 3) := by decide +kernel
theorem dX9_evenings_55 : decode cX9_evenings 55 = .ok (.iconst 0, 1) := by decide +kernel
theorem dX9_evenings_56 : decode cX9_evenings 56 = .ok (.iaload, 1) := by decide +kernel
theorem dX9_evenings_57 : decode cX9_evenings 57 = .ok (.if_icmp .ge 34, 3) := by decide +kernel
theorem dX9_evenings_60 : decode cX9_evenings 60 = .ok (.aload_n 0, 1) := by decide +kernel
theorem dX9_evenings_61 : decode cX9_evenings 61 = .ok (.invokevirtual 205, 3) := by decide +kernel
theorem dX9_evenings_64 : decode cX9_evenings 64 = .ok (.bipush 12, 2) := by decide +kernel
theorem dX9_evenings_66 : decode cX9_evenings 66 = .ok (.irem, 1) := by decide +kernel
theorem dX9_evenings_67 : decode cX9_evenings 67 = .ok (.istore 4, 2) := by decide +kernel
theorem dX9_evenings_69 : decode cX9_evenings 69 = .ok (.aload_n 0, 1) := by decide +kernel
theorem dX9_evenings_70 : decode cX9_evenings 70 = .ok (.iload_n 3, 1) := by decide +kernel
theorem dX9_evenings_71 : decode cX9_evenings 71 = .ok (.aload_n 0, 1) := by decide +kernel
theorem dX9_evenings_72 : decode cX9_evenings 72 = .ok (.getfield 7, 3) := by decide +kernel
theorem dX9_evenings_75 : decode cX9_evenings 75 = .ok (.iconst 1, 1) := by decide +kernel
theorem dX9_evenings_76 : decode cX9_evenings 76 = .ok (.iaload, 1) := by decide +kernel
theorem dX9_evenings_77 : decode cX9_evenings 77 = .ok (.iload 4, 2) := by decide +kernel
theorem dX9_evenings_79 : decode cX9_evenings 79 = .ok (.iadd, 1) := by decide +kernel
theorem dX9_evenings_80 : decode cX9_evenings 80 = .ok (.invokevirtual 201, 3) := by decide +kernel
theorem dX9_evenings_83 : decode cX9_evenings 83 = .ok (.istore 5, 2) := by decide +kernel
theorem dX9_evenings_85 : decode cX9_evenings 85 = .ok (.iinc 3 1, 3) := by decide +kernel
theorem dX9_evenings_88 : decode cX9_evenings 88 = .ok (.goto (-38), 3) := by decide +kernel
theorem dX9_evenings_91 : decode cX9_evenings 91 = .ok (.aload_n 0, 1) := by decide +kernel
theorem dX9_evenings_92 : decode cX9_evenings 92 = .ok (.getfield 7, 3) := by decide +kernel
theorem dX9_evenings_95 : decode cX9_evenings 95 = .ok (.iconst 1, 1) := by decide +kernel
theorem dX9_evenings_96 : decode cX9_evenings 96 = .ok (.dup2, 1) := by decide +kernel
theorem dX9_evenings_97 : decode cX9_evenings 97 = .ok (.iaload, 1) := by decide +kernel
theorem dX9_evenings_98 : decode cX9_evenings 98 = .ok (.bipush 12, 2) := by decide +kernel
theorem dX9_evenings_100 : decode cX9_evenings 100 = .ok (.iadd, 1) := by decide +kernel
theorem dX9_evenings_101 : decode cX9_evenings 101 = .ok (.iastore, 1) := by decide +kernel
theorem dX9_evenings_102 : decode cX9_evenings 102 = .ok (.iinc 2 1, 3) := by decide +kernel
theorem dX9_evenings_105 : decode cX9_evenings 105 = .ok (.goto (-62), 3) := by decide +kernel
theorem dX9_evenings_108 : decode cX9_evenings 108 = .ok (.aload_n 0, 1) := by decide +kernel
theorem dX9_evenings_109 : decode cX9_evenings 109 = .ok (.getfield 7, 3) := by decide +kernel
theorem dX9_evenings_112 : decode cX9_evenings 112 = .ok (.iconst 2, 1) := by decide +kernel
theorem dX9_evenings_113 : decode cX9_evenings 113 = .ok (.iaload, 1) := by decide +kernel
theorem dX9_evenings_114 : decode cX9_evenings 114 = .ok (.ireturn, 1) := by decide +kernel
theorem dX9_rest_0 : decode cX9_rest 0 = .ok (.iconst 0, 1) := by decide +kernel
theorem dX9_rest_1 : decode cX9_rest 1 = .ok (.istore_n 1, 1) := by decide +kernel
theorem dX9_rest_2 : decode cX9_rest 2 = .ok (.iconst 0, 1) := by decide +kernel
theorem dX9_rest_3 : decode cX9_rest 3 = .ok (.istore_n 2, 1) := by decide +kernel
theorem dX9_rest_4 : decode cX9_rest 4 = .ok (.iload_n 2, 1) := by decide +kernel
theorem dX9_rest_5 : decode cX9_rest 5 = .ok (.aload_n 0, 1) := by decide +kernel
theorem dX9_rest_6 : decode cX9_rest 6 = .ok (.getfield 7, 3) := by decide +kernel
theorem dX9_rest_9 : decode cX9_rest 9 = .ok (.iconst 0, 1) := by decide +kernel
theorem dX9_rest_10 : decode cX9_rest 10 = .ok (.iaload, 1) := by decide +kernel
theorem dX9_rest_11 : decode cX9_rest 11 = .ok (.if_icmp .ge 25, 3) := by decide +kernel
theorem dX9_rest_14 : decode cX9_rest 14 = .ok (.iload_n 1, 1) := by decide +kernel
theorem dX9_rest_15 : decode cX9_rest 15 = .ok (.aload_n 0, 1) := by decide +kernel
theorem dX9_rest_16 : decode cX9_rest 16 = .ok (.iload_n 2, 1) := by decide +kernel
theorem dX9_rest_17 : decode cX9_rest 17 = .ok (.iconst 3, 1) := by decide +kernel
theorem dX9_rest_18 : decode cX9_rest 18 = .ok (.invokevirtual 144, 3) := by decide +kernel
theorem dX9_rest_21 : decode cX9_rest 21 = .ok (.iadd, 1) := by decide +kernel
theorem dX9_rest_22 : decode cX9_rest 22 = .ok (.istore_n 1, 1) := by decide +kernel
theorem dX9_rest_23 : decode cX9_rest 23 = .ok (.aload_n 0, 1) := by decide +kernel
theorem dX9_rest_24 : decode cX9_rest 24 = .ok (.iload_n 2, 1) := by decide +kernel
theorem dX9_rest_25 : decode cX9_rest 25 = .ok (.iconst 3, 1) := by decide +kernel
theorem dX9_rest_26 : decode cX9_rest 26 = .ok (.iconst 0, 1) := by decide +kernel
theorem dX9_rest_27 : decode cX9_rest 27 = .ok (.invokevirtual 149, 3) := by decide +kernel
theorem dX9_rest_30 : decode cX9_rest 30 = .ok (.iinc 2 1, 3) := by decide +kernel
theorem dX9_rest_33 : decode cX9_rest 33 = .ok (.goto (-29), 3) := by decide +kernel
theorem dX9_rest_36 : decode cX9_rest 36 = .ok (.iload_n 1, 1) := by decide +kernel
theorem dX9_rest_37 : decode cX9_rest 37 = .ok (.ireturn, 1) := by decide +kernel
theorem dX9_isSoon_0 : decode cX9_isSoon 0 = .ok (.iload_n 0, 1) := by decide +kernel
theorem dX9_isSoon_1 : decode cX9_isSoon 1 = .ok (.i2l, 1) := by decide +kernel
theorem dX9_isSoon_2 : decode cX9_isSoon 2 = .ok (.lconst 0, 1) := by decide +kernel
theorem dX9_isSoon_3 : decode cX9_isSoon 3 = .ok (.ldc2_w 132, 3) := by decide +kernel
theorem dX9_isSoon_6 : decode cX9_isSoon 6 = .ok (.invokestatic 45, 3) := by decide +kernel
theorem dX9_isSoon_9 : decode cX9_isSoon 9 = .ok (.ireturn, 1) := by decide +kernel
theorem dX9_isSpan_0 : decode cX9_isSpan 0 = .ok (.iload_n 0, 1) := by decide +kernel
theorem dX9_isSpan_1 : decode cX9_isSpan 1 = .ok (.i2l, 1) := by decide +kernel
theorem dX9_isSpan_2 : decode cX9_isSpan 2 = .ok (.lconst 1, 1) := by decide +kernel
theorem dX9_isSpan_3 : decode cX9_isSpan 3 = .ok (.ldc2_w 132, 3) := by decide +kernel
theorem dX9_isSpan_6 : decode cX9_isSpan 6 = .ok (.invokestatic 45, 3) := by decide +kernel
theorem dX9_isSpan_9 : decode cX9_isSpan 9 = .ok (.ireturn, 1) := by decide +kernel
theorem dX9_then_0 : decode cX9_then 0 = .ok (.aload_n 0, 1) := by decide +kernel
theorem dX9_then_1 : decode cX9_then 1 = .ok (.iload_n 1, 1) := by decide +kernel
theorem dX9_then_2 : decode cX9_then 2 = .ok (.invokevirtual 153, 3) := by decide +kernel
theorem dX9_then_5 : decode cX9_then 5 = .ok (.ifCond .eq 22, 3) := by decide +kernel
theorem dX9_then_8 : decode cX9_then 8 = .ok (.iload_n 2, 1) := by decide +kernel
theorem dX9_then_9 : decode cX9_then 9 = .ok (.invokestatic 208, 3) := by decide +kernel
theorem dX9_then_12 : decode cX9_then 12 = .ok (.ifCond .eq 15, 3) := by decide +kernel
theorem dX9_then_15 : decode cX9_then 15 = .ok (.iload_n 3, 1) := by decide +kernel
theorem dX9_then_16 : decode cX9_then 16 = .ok (.i2l, 1) := by decide +kernel
theorem dX9_then_17 : decode cX9_then 17 = .ok (.lconst 0, 1) := by decide +kernel
theorem dX9_then_18 : decode cX9_then 18 = .ok (.ldc2_w 128, 3) := by decide +kernel
theorem dX9_then_21 : decode cX9_then 21 = .ok (.invokestatic 45, 3) := by decide +kernel
theorem dX9_then_24 : decode cX9_then 24 = .ok (.ifCond .ne 9, 3) := by decide +kernel
theorem dX9_then_27 : decode cX9_then 27 = .ok (.aload_n 0, 1) := by decide +kernel
theorem dX9_then_28 : decode cX9_then 28 = .ok (.iconst 1, 1) := by decide +kernel
theorem dX9_then_29 : decode cX9_then 29 = .ok (.invokevirtual 103, 3) := by decide +kernel
theorem dX9_then_32 : decode cX9_then 32 = .ok (.ireturn, 1) := by decide +kernel
theorem dX9_then_33 : decode cX9_then 33 = .ok (.aload_n 0, 1) := by decide +kernel
theorem dX9_then_34 : decode cX9_then 34 = .ok (.iload_n 1, 1) := by decide +kernel
theorem dX9_then_35 : decode cX9_then 35 = .ok (.aload_n 0, 1) := by decide +kernel
theorem dX9_then_36 : decode cX9_then 36 = .ok (.getfield 7, 3) := by decide +kernel
theorem dX9_then_39 : decode cX9_then 39 = .ok (.iconst 1, 1) := by decide +kernel
theorem dX9_then_40 : decode cX9_then 40 = .ok (.iaload, 1) := by decide +kernel
theorem dX9_then_41 : decode cX9_then 41 = .ok (.iload_n 2, 1) := by decide +kernel
theorem dX9_then_42 : decode cX9_then 42 = .ok (.iadd, 1) := by decide +kernel
theorem dX9_then_43 : decode cX9_then 43 = .ok (.invokevirtual 191, 3) := by decide +kernel
theorem dX9_then_46 : decode cX9_then 46 = .ok (.iload_n 3, 1) := by decide +kernel
theorem dX9_then_47 : decode cX9_then 47 = .ok (.tableswitch 58 0 3 #[29, 34, 48, 53], 29) := by decide +kernel
theorem dX9_then_76 : decode cX9_then 76 = .ok (.aload_n 0, 1) := by decide +kernel
theorem dX9_then_77 : decode cX9_then 77 = .ok (.invokevirtual 185, 3) := by decide +kernel
theorem dX9_then_80 : decode cX9_then 80 = .ok (.ireturn, 1) := by decide +kernel
theorem dX9_then_81 : decode cX9_then 81 = .ok (.aload_n 0, 1) := by decide +kernel
theorem dX9_then_82 : decode cX9_then 82 = .ok (.iload_n 1, 1) := by decide +kernel
theorem dX9_then_83 : decode cX9_then 83 = .ok (.invokevirtual 194, 3) := by decide +kernel
theorem dX9_then_86 : decode cX9_then 86 = .ok (.ifCond .eq 7, 3) := by decide +kernel
theorem dX9_then_89 : decode cX9_then 89 = .ok (.iconst 1, 1) := by decide +kernel
theorem dX9_then_90 : decode cX9_then 90 = .ok (.goto 4, 3) := by decide +kernel
theorem dX9_then_93 : decode cX9_then 93 = .ok (.iconst 0, 1) := by decide +kernel
theorem dX9_then_94 : decode cX9_then 94 = .ok (.ireturn, 1) := by decide +kernel
theorem dX9_then_95 : decode cX9_then 95 = .ok (.aload_n 0, 1) := by decide +kernel
theorem dX9_then_96 : decode cX9_then 96 = .ok (.getfield 172, 3) := by decide +kernel
theorem dX9_then_99 : decode cX9_then 99 = .ok (.ireturn, 1) := by decide +kernel
theorem dX9_then_100 : decode cX9_then 100 = .ok (.aload_n 0, 1) := by decide +kernel
theorem dX9_then_101 : decode cX9_then 101 = .ok (.getfield 175, 3) := by decide +kernel
theorem dX9_then_104 : decode cX9_then 104 = .ok (.ireturn, 1) := by decide +kernel
theorem dX9_then_105 : decode cX9_then 105 = .ok (.aload_n 0, 1) := by decide +kernel
theorem dX9_then_106 : decode cX9_then 106 = .ok (.iload_n 1, 1) := by decide +kernel
theorem dX9_then_107 : decode cX9_then 107 = .ok (.aload_n 0, 1) := by decide +kernel
theorem dX9_then_108 : decode cX9_then 108 = .ok (.getfield 7, 3) := by decide +kernel
theorem dX9_then_111 : decode cX9_then 111 = .ok (.bipush 7, 2) := by decide +kernel
theorem dX9_then_113 : decode cX9_then 113 = .ok (.iaload, 1) := by decide +kernel
theorem dX9_then_114 : decode cX9_then 114 = .ok (.invokevirtual 197, 3) := by decide +kernel
theorem dX9_then_117 : decode cX9_then 117 = .ok (.ireturn, 1) := by decide +kernel
theorem dX9_findCan_0 : decode cX9_findCan 0 = .ok (.aload_n 0, 1) := by decide +kernel
theorem dX9_findCan_1 : decode cX9_findCan 1 = .ok (.iconst 0, 1) := by decide +kernel
theorem dX9_findCan_2 : decode cX9_findCan 2 = .ok (.putfield 211, 3) := by decide +kernel
theorem dX9_findCan_5 : decode cX9_findCan 5 = .ok (.aload_n 0, 1) := by decide +kernel
theorem dX9_findCan_6 : decode cX9_findCan 6 = .ok (.iconst (-1), 1) := by decide +kernel
theorem dX9_findCan_7 : decode cX9_findCan 7 = .ok (.putfield 214, 3) := by decide +kernel
theorem dX9_findCan_10 : decode cX9_findCan 10 = .ok (.iload_n 2, 1) := by decide +kernel
theorem dX9_findCan_11 : decode cX9_findCan 11 = .ok (.iconst 1, 1) := by decide +kernel
theorem dX9_findCan_12 : decode cX9_findCan 12 = .ok (.isub, 1) := by decide +kernel
theorem dX9_findCan_13 : decode cX9_findCan 13 = .ok (.istore_n 3, 1) := by decide +kernel
theorem dX9_findCan_14 : decode cX9_findCan 14 = .ok (.iload_n 3, 1) := by decide +kernel
theorem dX9_findCan_15 : decode cX9_findCan 15 = .ok (.ifCond .lt 45, 3) := by decide +kernel
theorem dX9_findCan_18 : decode cX9_findCan 18 = .ok (.aload_n 0, 1) := by decide +kernel
theorem dX9_findCan_19 : decode cX9_findCan 19 = .ok (.iload_n 1, 1) := by decide +kernel
theorem dX9_findCan_20 : decode cX9_findCan 20 = .ok (.aload_n 0, 1) := by decide +kernel
theorem dX9_findCan_21 : decode cX9_findCan 21 = .ok (.getfield 7, 3) := by decide +kernel
theorem dX9_findCan_24 : decode cX9_findCan 24 = .ok (.iconst 1, 1) := by decide +kernel
theorem dX9_findCan_25 : decode cX9_findCan 25 = .ok (.iaload, 1) := by decide +kernel
theorem dX9_findCan_26 : decode cX9_findCan 26 = .ok (.iload_n 3, 1) := by decide +kernel
theorem dX9_findCan_27 : decode cX9_findCan 27 = .ok (.iadd, 1) := by decide +kernel
theorem dX9_findCan_28 : decode cX9_findCan 28 = .ok (.invokevirtual 191, 3) := by decide +kernel
theorem dX9_findCan_31 : decode cX9_findCan 31 = .ok (.aload_n 0, 1) := by decide +kernel
theorem dX9_findCan_32 : decode cX9_findCan 32 = .ok (.iload_n 1, 1) := by decide +kernel
theorem dX9_findCan_33 : decode cX9_findCan 33 = .ok (.invokevirtual 194, 3) := by decide +kernel
theorem dX9_findCan_36 : decode cX9_findCan 36 = .ok (.ifCond .eq 18, 3) := by decide +kernel
theorem dX9_findCan_39 : decode cX9_findCan 39 = .ok (.aload_n 0, 1) := by decide +kernel
theorem dX9_findCan_40 : decode cX9_findCan 40 = .ok (.dup, 1) := by decide +kernel
theorem dX9_findCan_41 : decode cX9_findCan 41 = .ok (.getfield 211, 3) := by decide +kernel
theorem dX9_findCan_44 : decode cX9_findCan 44 = .ok (.iconst 1, 1) := by decide +kernel
theorem dX9_findCan_45 : decode cX9_findCan 45 = .ok (.iadd, 1) := by decide +kernel
theorem dX9_findCan_46 : decode cX9_findCan 46 = .ok (.putfield 211, 3) := by decide +kernel
theorem dX9_findCan_49 : decode cX9_findCan 49 = .ok (.aload_n 0, 1) := by decide +kernel
theorem dX9_findCan_50 : decode cX9_findCan 50 = .ok (.iload_n 3, 1) := by decide +kernel
theorem dX9_findCan_51 : decode cX9_findCan 51 = .ok (.putfield 214, 3) := by decide +kernel
theorem dX9_findCan_54 : decode cX9_findCan 54 = .ok (.iinc 3 (-1), 3) := by decide +kernel
theorem dX9_findCan_57 : decode cX9_findCan 57 = .ok (.goto (-43), 3) := by decide +kernel
theorem dX9_findCan_60 : decode cX9_findCan 60 = .ok (.return_, 1) := by decide +kernel
theorem dX9_can_0 : decode cX9_can 0 = .ok (.aload_n 0, 1) := by decide +kernel
theorem dX9_can_1 : decode cX9_can 1 = .ok (.iload_n 1, 1) := by decide +kernel
theorem dX9_can_2 : decode cX9_can 2 = .ok (.invokevirtual 153, 3) := by decide +kernel
theorem dX9_can_5 : decode cX9_can 5 = .ok (.ifCond .eq 20, 3) := by decide +kernel
theorem dX9_can_8 : decode cX9_can 8 = .ok (.iload_n 2, 1) := by decide +kernel
theorem dX9_can_9 : decode cX9_can 9 = .ok (.invokestatic 217, 3) := by decide +kernel
theorem dX9_can_12 : decode cX9_can 12 = .ok (.ifCond .eq 13, 3) := by decide +kernel
theorem dX9_can_15 : decode cX9_can 15 = .ok (.iload_n 3, 1) := by decide +kernel
theorem dX9_can_16 : decode cX9_can 16 = .ok (.i2l, 1) := by decide +kernel
theorem dX9_can_17 : decode cX9_can 17 = .ok (.lconst 0, 1) := by decide +kernel
theorem dX9_can_18 : decode cX9_can 18 = .ok (.lconst 1, 1) := by decide +kernel
theorem dX9_can_19 : decode cX9_can 19 = .ok (.invokestatic 45, 3) := by decide +kernel
theorem dX9_can_22 : decode cX9_can 22 = .ok (.ifCond .ne 9, 3) := by decide +kernel
theorem dX9_can_25 : decode cX9_can 25 = .ok (.aload_n 0, 1) := by decide +kernel
theorem dX9_can_26 : decode cX9_can 26 = .ok (.iconst 1, 1) := by decide +kernel
theorem dX9_can_27 : decode cX9_can 27 = .ok (.invokevirtual 103, 3) := by decide +kernel
theorem dX9_can_30 : decode cX9_can 30 = .ok (.ireturn, 1) := by decide +kernel
theorem dX9_can_31 : decode cX9_can 31 = .ok (.aload_n 0, 1) := by decide +kernel
theorem dX9_can_32 : decode cX9_can 32 = .ok (.iload_n 1, 1) := by decide +kernel
theorem dX9_can_33 : decode cX9_can 33 = .ok (.iload_n 2, 1) := by decide +kernel
theorem dX9_can_34 : decode cX9_can 34 = .ok (.invokevirtual 220, 3) := by decide +kernel
theorem dX9_can_37 : decode cX9_can 37 = .ok (.iload_n 3, 1) := by decide +kernel
theorem dX9_can_38 : decode cX9_can 38 = .ok (.ifCond .ne 8, 3) := by decide +kernel
theorem dX9_can_41 : decode cX9_can 41 = .ok (.aload_n 0, 1) := by decide +kernel
theorem dX9_can_42 : decode cX9_can 42 = .ok (.getfield 211, 3) := by decide +kernel
theorem dX9_can_45 : decode cX9_can 45 = .ok (.ireturn, 1) := by decide +kernel
theorem dX9_can_46 : decode cX9_can 46 = .ok (.aload_n 0, 1) := by decide +kernel
theorem dX9_can_47 : decode cX9_can 47 = .ok (.getfield 214, 3) := by decide +kernel
theorem dX9_can_50 : decode cX9_can 50 = .ok (.ifCond .ge 11, 3) := by decide +kernel
theorem dX9_can_53 : decode cX9_can 53 = .ok (.aload_n 0, 1) := by decide +kernel
theorem dX9_can_54 : decode cX9_can 54 = .ok (.iconst 2, 1) := by decide +kernel
theorem dX9_can_55 : decode cX9_can 55 = .ok (.invokevirtual 103, 3) := by decide +kernel
theorem dX9_can_58 : decode cX9_can 58 = .ok (.goto 7, 3) := by decide +kernel
theorem dX9_can_61 : decode cX9_can 61 = .ok (.aload_n 0, 1) := by decide +kernel
theorem dX9_can_62 : decode cX9_can 62 = .ok (.getfield 214, 3) := by decide +kernel
theorem dX9_can_65 : decode cX9_can 65 = .ok (.ireturn, 1) := by decide +kernel
theorem dX9_casesAt_0 : decode cX9_casesAt 0 = .ok (.iconst 0, 1) := by decide +kernel
theorem dX9_casesAt_1 : decode cX9_casesAt 1 = .ok (.istore_n 3, 1) := by decide +kernel
theorem dX9_casesAt_2 : decode cX9_casesAt 2 = .ok (.iconst (-1), 1) := by decide +kernel
theorem dX9_casesAt_3 : decode cX9_casesAt 3 = .ok (.istore 4, 2) := by decide +kernel
theorem dX9_casesAt_5 : decode cX9_casesAt 5 = .ok (.iload 4, 2) := by decide +kernel
theorem dX9_casesAt_7 : decode cX9_casesAt 7 = .ok (.iconst 1, 1) := by decide +kernel
theorem dX9_casesAt_8 : decode cX9_casesAt 8 = .ok (.if_icmp .gt 74, 3) := by decide +kernel
theorem dX9_casesAt_11 : decode cX9_casesAt 11 = .ok (.aload_n 0, 1) := by decide +kernel
theorem dX9_casesAt_12 : decode cX9_casesAt 12 = .ok (.iload_n 1, 1) := by decide +kernel
theorem dX9_casesAt_13 : decode cX9_casesAt 13 = .ok (.iload_n 2, 1) := by decide +kernel
theorem dX9_casesAt_14 : decode cX9_casesAt 14 = .ok (.aload_n 0, 1) := by decide +kernel
theorem dX9_casesAt_15 : decode cX9_casesAt 15 = .ok (.iload_n 1, 1) := by decide +kernel
theorem dX9_casesAt_16 : decode cX9_casesAt 16 = .ok (.invokevirtual 158, 3) := by decide +kernel
theorem dX9_casesAt_19 : decode cX9_casesAt 19 = .ok (.iadd, 1) := by decide +kernel
theorem dX9_casesAt_20 : decode cX9_casesAt 20 = .ok (.iload 4, 2) := by decide +kernel
theorem dX9_casesAt_22 : decode cX9_casesAt 22 = .ok (.iadd, 1) := by decide +kernel
theorem dX9_casesAt_23 : decode cX9_casesAt 23 = .ok (.invokevirtual 181, 3) := by decide +kernel
theorem dX9_casesAt_26 : decode cX9_casesAt 26 = .ok (.iconst (-1), 1) := by decide +kernel
theorem dX9_casesAt_27 : decode cX9_casesAt 27 = .ok (.istore 5, 2) := by decide +kernel
theorem dX9_casesAt_29 : decode cX9_casesAt 29 = .ok (.iload 5, 2) := by decide +kernel
theorem dX9_casesAt_31 : decode cX9_casesAt 31 = .ok (.iconst 1, 1) := by decide +kernel
theorem dX9_casesAt_32 : decode cX9_casesAt 32 = .ok (.if_icmp .gt 44, 3) := by decide +kernel
theorem dX9_casesAt_35 : decode cX9_casesAt 35 = .ok (.iload_n 3, 1) := by decide +kernel
theorem dX9_casesAt_36 : decode cX9_casesAt 36 = .ok (.aload_n 0, 1) := by decide +kernel
theorem dX9_casesAt_37 : decode cX9_casesAt 37 = .ok (.getfield 175, 3) := by decide +kernel
theorem dX9_casesAt_40 : decode cX9_casesAt 40 = .ok (.aload_n 0, 1) := by decide +kernel
theorem dX9_casesAt_41 : decode cX9_casesAt 41 = .ok (.aload_n 0, 1) := by decide +kernel
theorem dX9_casesAt_42 : decode cX9_casesAt 42 = .ok (.getfield 172, 3) := by decide +kernel
theorem dX9_casesAt_45 : decode cX9_casesAt 45 = .ok (.iload 5, 2) := by decide +kernel
theorem dX9_casesAt_47 : decode cX9_casesAt 47 = .ok (.iadd, 1) := by decide +kernel
theorem dX9_casesAt_48 : decode cX9_casesAt 48 = .ok (.invokevirtual 178, 3) := by decide +kernel
theorem dX9_casesAt_51 : decode cX9_casesAt 51 = .ok (.isub, 1) := by decide +kernel
theorem dX9_casesAt_52 : decode cX9_casesAt 52 = .ok (.invokestatic 188, 3) := by decide +kernel
theorem dX9_casesAt_55 : decode cX9_casesAt 55 = .ok (.aload_n 0, 1) := by decide +kernel
theorem dX9_casesAt_56 : decode cX9_casesAt 56 = .ok (.iload_n 1, 1) := by decide +kernel
theorem dX9_casesAt_57 : decode cX9_casesAt 57 = .ok (.invokevirtual 161, 3) := by decide +kernel
theorem dX9_casesAt_60 : decode cX9_casesAt 60 = .ok (.if_icmp .gt 7, 3) := by decide +kernel
theorem dX9_casesAt_63 : decode cX9_casesAt 63 = .ok (.iconst 1, 1) := by decide +kernel
theorem dX9_casesAt_64 : decode cX9_casesAt 64 = .ok (.goto 4, 3) := by decide +kernel
theorem dX9_casesAt_67 : decode cX9_casesAt 67 = .ok (.iconst 0, 1) := by decide +kernel
theorem dX9_casesAt_68 : decode cX9_casesAt 68 = .ok (.iadd, 1) := by decide +kernel
theorem dX9_casesAt_69 : decode cX9_casesAt 69 = .ok (.istore_n 3, 1) := by decide +kernel
theorem dX9_casesAt_70 : decode cX9_casesAt 70 = .ok (.iinc 5 1, 3) := by decide +kernel
theorem dX9_casesAt_73 : decode cX9_casesAt 73 = .ok (.goto (-44), 3) := by decide +kernel
theorem dX9_casesAt_76 : decode cX9_casesAt 76 = .ok (.iinc 4 1, 3) := by decide +kernel
theorem dX9_casesAt_79 : decode cX9_casesAt 79 = .ok (.goto (-74), 3) := by decide +kernel
theorem dX9_casesAt_82 : decode cX9_casesAt 82 = .ok (.iload_n 3, 1) := by decide +kernel
theorem dX9_casesAt_83 : decode cX9_casesAt 83 = .ok (.ireturn, 1) := by decide +kernel
theorem dX9_surestOf_0 : decode cX9_surestOf 0 = .ok (.iconst 0, 1) := by decide +kernel
theorem dX9_surestOf_1 : decode cX9_surestOf 1 = .ok (.istore_n 3, 1) := by decide +kernel
theorem dX9_surestOf_2 : decode cX9_surestOf 2 = .ok (.iconst (-1), 1) := by decide +kernel
theorem dX9_surestOf_3 : decode cX9_surestOf 3 = .ok (.istore 4, 2) := by decide +kernel
theorem dX9_surestOf_5 : decode cX9_surestOf 5 = .ok (.iconst 0, 1) := by decide +kernel
theorem dX9_surestOf_6 : decode cX9_surestOf 6 = .ok (.istore 5, 2) := by decide +kernel
theorem dX9_surestOf_8 : decode cX9_surestOf 8 = .ok (.iload 5, 2) := by decide +kernel
theorem dX9_surestOf_10 : decode cX9_surestOf 10 = .ok (.iload_n 2, 1) := by decide +kernel
theorem dX9_surestOf_11 : decode cX9_surestOf 11 = .ok (.if_icmp .ge 55, 3) := by decide +kernel
theorem dX9_surestOf_14 : decode cX9_surestOf 14 = .ok (.aload_n 0, 1) := by decide +kernel
theorem dX9_surestOf_15 : decode cX9_surestOf 15 = .ok (.iload_n 1, 1) := by decide +kernel
theorem dX9_surestOf_16 : decode cX9_surestOf 16 = .ok (.aload_n 0, 1) := by decide +kernel
theorem dX9_surestOf_17 : decode cX9_surestOf 17 = .ok (.getfield 7, 3) := by decide +kernel
theorem dX9_surestOf_20 : decode cX9_surestOf 20 = .ok (.iconst 1, 1) := by decide +kernel
theorem dX9_surestOf_21 : decode cX9_surestOf 21 = .ok (.iaload, 1) := by decide +kernel
theorem dX9_surestOf_22 : decode cX9_surestOf 22 = .ok (.iload 5, 2) := by decide +kernel
theorem dX9_surestOf_24 : decode cX9_surestOf 24 = .ok (.iadd, 1) := by decide +kernel
theorem dX9_surestOf_25 : decode cX9_surestOf 25 = .ok (.invokevirtual 223, 3) := by decide +kernel
theorem dX9_surestOf_28 : decode cX9_surestOf 28 = .ok (.istore 6, 2) := by decide +kernel
theorem dX9_surestOf_30 : decode cX9_surestOf 30 = .ok (.iload 6, 2) := by decide +kernel
theorem dX9_surestOf_32 : decode cX9_surestOf 32 = .ok (.iload 4, 2) := by decide +kernel
theorem dX9_surestOf_34 : decode cX9_surestOf 34 = .ok (.if_icmp .le 8, 3) := by decide +kernel
theorem dX9_surestOf_37 : decode cX9_surestOf 37 = .ok (.iload 5, 2) := by decide +kernel
theorem dX9_surestOf_39 : decode cX9_surestOf 39 = .ok (.goto 4, 3) := by decide +kernel
theorem dX9_surestOf_42 : decode cX9_surestOf 42 = .ok (.iload_n 3, 1) := by decide +kernel
theorem dX9_surestOf_43 : decode cX9_surestOf 43 = .ok (.istore_n 3, 1) := by decide +kernel
theorem dX9_surestOf_44 : decode cX9_surestOf 44 = .ok (.iload 6, 2) := by decide +kernel
theorem dX9_surestOf_46 : decode cX9_surestOf 46 = .ok (.iload 4, 2) := by decide +kernel
theorem dX9_surestOf_48 : decode cX9_surestOf 48 = .ok (.if_icmp .le 8, 3) := by decide +kernel
theorem dX9_surestOf_51 : decode cX9_surestOf 51 = .ok (.iload 6, 2) := by decide +kernel
theorem dX9_surestOf_53 : decode cX9_surestOf 53 = .ok (.goto 5, 3) := by decide +kernel
theorem dX9_surestOf_56 : decode cX9_surestOf 56 = .ok (.iload 4, 2) := by decide +kernel
theorem dX9_surestOf_58 : decode cX9_surestOf 58 = .ok (.istore 4, 2) := by decide +kernel
theorem dX9_surestOf_60 : decode cX9_surestOf 60 = .ok (.iinc 5 1, 3) := by decide +kernel
theorem dX9_surestOf_63 : decode cX9_surestOf 63 = .ok (.goto (-55), 3) := by decide +kernel
theorem dX9_surestOf_66 : decode cX9_surestOf 66 = .ok (.iload_n 3, 1) := by decide +kernel
theorem dX9_surestOf_67 : decode cX9_surestOf 67 = .ok (.ireturn, 1) := by decide +kernel
theorem dX9_surest_0 : decode cX9_surest 0 = .ok (.aload_n 0, 1) := by decide +kernel
theorem dX9_surest_1 : decode cX9_surest 1 = .ok (.iload_n 1, 1) := by decide +kernel
theorem dX9_surest_2 : decode cX9_surest 2 = .ok (.invokevirtual 153, 3) := by decide +kernel
theorem dX9_surest_5 : decode cX9_surest 5 = .ok (.ifCond .eq 19, 3) := by decide +kernel
theorem dX9_surest_8 : decode cX9_surest 8 = .ok (.iload_n 2, 1) := by decide +kernel
theorem dX9_surest_9 : decode cX9_surest 9 = .ok (.invokestatic 217, 3) := by decide +kernel
theorem dX9_surest_12 : decode cX9_surest 12 = .ok (.ifCond .eq 12, 3) := by decide +kernel
theorem dX9_surest_15 : decode cX9_surest 15 = .ok (.aload_n 0, 1) := by decide +kernel
theorem dX9_surest_16 : decode cX9_surest 16 = .ok (.iload_n 1, 1) := by decide +kernel
theorem dX9_surest_17 : decode cX9_surest 17 = .ok (.iload_n 2, 1) := by decide +kernel
theorem dX9_surest_18 : decode cX9_surest 18 = .ok (.invokevirtual 226, 3) := by decide +kernel
theorem dX9_surest_21 : decode cX9_surest 21 = .ok (.goto 8, 3) := by decide +kernel
theorem dX9_surest_24 : decode cX9_surest 24 = .ok (.aload_n 0, 1) := by decide +kernel
theorem dX9_surest_25 : decode cX9_surest 25 = .ok (.iconst 1, 1) := by decide +kernel
theorem dX9_surest_26 : decode cX9_surest 26 = .ok (.invokevirtual 103, 3) := by decide +kernel
theorem dX9_surest_29 : decode cX9_surest 29 = .ok (.ireturn, 1) := by decide +kernel
theorem dX9_common_0 : decode cX9_common 0 = .ok (.lload_n 0, 1) := by decide +kernel
theorem dX9_common_1 : decode cX9_common 1 = .ok (.lconst 0, 1) := by decide +kernel
theorem dX9_common_2 : decode cX9_common 2 = .ok (.lcmp, 1) := by decide +kernel
theorem dX9_common_3 : decode cX9_common 3 = .ok (.ifCond .ge 8, 3) := by decide +kernel
theorem dX9_common_6 : decode cX9_common 6 = .ok (.lload_n 0, 1) := by decide +kernel
theorem dX9_common_7 : decode cX9_common 7 = .ok (.lneg, 1) := by decide +kernel
theorem dX9_common_8 : decode cX9_common 8 = .ok (.goto 4, 3) := by decide +kernel
theorem dX9_common_11 : decode cX9_common 11 = .ok (.lload_n 0, 1) := by decide +kernel
theorem dX9_common_12 : decode cX9_common 12 = .ok (.lstore 4, 2) := by decide +kernel
theorem dX9_common_14 : decode cX9_common 14 = .ok (.lload_n 2, 1) := by decide +kernel
theorem dX9_common_15 : decode cX9_common 15 = .ok (.lstore 6, 2) := by decide +kernel
theorem dX9_common_17 : decode cX9_common 17 = .ok (.lload 6, 2) := by decide +kernel
theorem dX9_common_19 : decode cX9_common 19 = .ok (.lconst 0, 1) := by decide +kernel
theorem dX9_common_20 : decode cX9_common 20 = .ok (.lcmp, 1) := by decide +kernel
theorem dX9_common_21 : decode cX9_common 21 = .ok (.ifCond .eq 21, 3) := by decide +kernel
theorem dX9_common_24 : decode cX9_common 24 = .ok (.lload 4, 2) := by decide +kernel
theorem dX9_common_26 : decode cX9_common 26 = .ok (.lload 6, 2) := by decide +kernel
theorem dX9_common_28 : decode cX9_common 28 = .ok (.lrem, 1) := by decide +kernel
theorem dX9_common_29 : decode cX9_common 29 = .ok (.lstore 8, 2) := by decide +kernel
theorem dX9_common_31 : decode cX9_common 31 = .ok (.lload 6, 2) := by decide +kernel
theorem dX9_common_33 : decode cX9_common 33 = .ok (.lstore 4, 2) := by decide +kernel
theorem dX9_common_35 : decode cX9_common 35 = .ok (.lload 8, 2) := by decide +kernel
theorem dX9_common_37 : decode cX9_common 37 = .ok (.lstore 6, 2) := by decide +kernel
theorem dX9_common_39 : decode cX9_common 39 = .ok (.goto (-22), 3) := by decide +kernel
theorem dX9_common_42 : decode cX9_common 42 = .ok (.lload 4, 2) := by decide +kernel
theorem dX9_common_44 : decode cX9_common 44 = .ok (.lreturn, 1) := by decide +kernel
theorem dX9_odds_0 : decode cX9_odds 0 = .ok (.aload_n 0, 1) := by decide +kernel
theorem dX9_odds_1 : decode cX9_odds 1 = .ok (.iload_n 1, 1) := by decide +kernel
theorem dX9_odds_2 : decode cX9_odds 2 = .ok (.invokevirtual 153, 3) := by decide +kernel
theorem dX9_odds_5 : decode cX9_odds 5 = .ok (.ifCond .eq 20, 3) := by decide +kernel
theorem dX9_odds_8 : decode cX9_odds 8 = .ok (.iload_n 2, 1) := by decide +kernel
theorem dX9_odds_9 : decode cX9_odds 9 = .ok (.invokestatic 208, 3) := by decide +kernel
theorem dX9_odds_12 : decode cX9_odds 12 = .ok (.ifCond .eq 13, 3) := by decide +kernel
theorem dX9_odds_15 : decode cX9_odds 15 = .ok (.iload_n 3, 1) := by decide +kernel
theorem dX9_odds_16 : decode cX9_odds 16 = .ok (.i2l, 1) := by decide +kernel
theorem dX9_odds_17 : decode cX9_odds 17 = .ok (.lconst 0, 1) := by decide +kernel
theorem dX9_odds_18 : decode cX9_odds 18 = .ok (.lconst 1, 1) := by decide +kernel
theorem dX9_odds_19 : decode cX9_odds 19 = .ok (.invokestatic 45, 3) := by decide +kernel
theorem dX9_odds_22 : decode cX9_odds 22 = .ok (.ifCond .ne 9, 3) := by decide +kernel
theorem dX9_odds_25 : decode cX9_odds 25 = .ok (.aload_n 0, 1) := by decide +kernel
theorem dX9_odds_26 : decode cX9_odds 26 = .ok (.iconst 1, 1) := by decide +kernel
theorem dX9_odds_27 : decode cX9_odds 27 = .ok (.invokevirtual 103, 3) := by decide +kernel
theorem dX9_odds_30 : decode cX9_odds 30 = .ok (.ireturn, 1) := by decide +kernel
theorem dX9_odds_31 : decode cX9_odds 31 = .ok (.aload_n 0, 1) := by decide +kernel
theorem dX9_odds_32 : decode cX9_odds 32 = .ok (.iload_n 1, 1) := by decide +kernel
theorem dX9_odds_33 : decode cX9_odds 33 = .ok (.aload_n 0, 1) := by decide +kernel
theorem dX9_odds_34 : decode cX9_odds 34 = .ok (.getfield 7, 3) := by decide +kernel
theorem dX9_odds_37 : decode cX9_odds 37 = .ok (.iconst 1, 1) := by decide +kernel
theorem dX9_odds_38 : decode cX9_odds 38 = .ok (.iaload, 1) := by decide +kernel
theorem dX9_odds_39 : decode cX9_odds 39 = .ok (.iload_n 2, 1) := by decide +kernel
theorem dX9_odds_40 : decode cX9_odds 40 = .ok (.iadd, 1) := by decide +kernel
theorem dX9_odds_41 : decode cX9_odds 41 = .ok (.invokevirtual 223, 3) := by decide +kernel
theorem dX9_odds_44 : decode cX9_odds 44 = .ok (.istore 4, 2) := by decide +kernel
theorem dX9_odds_46 : decode cX9_odds 46 = .ok (.iload 4, 2) := by decide +kernel
theorem dX9_odds_48 : decode cX9_odds 48 = .ok (.i2l, 1) := by decide +kernel
theorem dX9_odds_49 : decode cX9_odds 49 = .ok (.ldc2_w 229, 3) := by decide +kernel
theorem dX9_odds_52 : decode cX9_odds 52 = .ok (.invokestatic 231, 3) := by decide +kernel
theorem dX9_odds_55 : decode cX9_odds 55 = .ok (.l2i, 1) := by decide +kernel
theorem dX9_odds_56 : decode cX9_odds 56 = .ok (.istore 5, 2) := by decide +kernel
theorem dX9_odds_58 : decode cX9_odds 58 = .ok (.iload_n 3, 1) := by decide +kernel
theorem dX9_odds_59 : decode cX9_odds 59 = .ok (.ifCond .ne 11, 3) := by decide +kernel
theorem dX9_odds_62 : decode cX9_odds 62 = .ok (.iload 4, 2) := by decide +kernel
theorem dX9_odds_64 : decode cX9_odds 64 = .ok (.iload 5, 2) := by decide +kernel
theorem dX9_odds_66 : decode cX9_odds 66 = .ok (.idiv, 1) := by decide +kernel
theorem dX9_odds_67 : decode cX9_odds 67 = .ok (.goto 8, 3) := by decide +kernel
theorem dX9_odds_70 : decode cX9_odds 70 = .ok (.bipush 9, 2) := by decide +kernel
theorem dX9_odds_72 : decode cX9_odds 72 = .ok (.iload 5, 2) := by decide +kernel
theorem dX9_odds_74 : decode cX9_odds 74 = .ok (.idiv, 1) := by decide +kernel
theorem dX9_odds_75 : decode cX9_odds 75 = .ok (.ireturn, 1) := by decide +kernel
theorem dX9_hasNext_0 : decode cX9_hasNext 0 = .ok (.aload_n 0, 1) := by decide +kernel
theorem dX9_hasNext_1 : decode cX9_hasNext 1 = .ok (.iload_n 1, 1) := by decide +kernel
theorem dX9_hasNext_2 : decode cX9_hasNext 2 = .ok (.iload_n 2, 1) := by decide +kernel
theorem dX9_hasNext_3 : decode cX9_hasNext 3 = .ok (.invokevirtual 220, 3) := by decide +kernel
theorem dX9_hasNext_6 : decode cX9_hasNext 6 = .ok (.aload_n 0, 1) := by decide +kernel
theorem dX9_hasNext_7 : decode cX9_hasNext 7 = .ok (.getfield 211, 3) := by decide +kernel
theorem dX9_hasNext_10 : decode cX9_hasNext 10 = .ok (.ifCond .le 7, 3) := by decide +kernel
theorem dX9_hasNext_13 : decode cX9_hasNext 13 = .ok (.iconst 1, 1) := by decide +kernel
theorem dX9_hasNext_14 : decode cX9_hasNext 14 = .ok (.goto 4, 3) := by decide +kernel
theorem dX9_hasNext_17 : decode cX9_hasNext 17 = .ok (.iconst 0, 1) := by decide +kernel
theorem dX9_hasNext_18 : decode cX9_hasNext 18 = .ok (.ireturn, 1) := by decide +kernel
theorem dX9_pumped_0 : decode cX9_pumped 0 = .ok (.aload_n 0, 1) := by decide +kernel
theorem dX9_pumped_1 : decode cX9_pumped 1 = .ok (.iload_n 1, 1) := by decide +kernel
theorem dX9_pumped_2 : decode cX9_pumped 2 = .ok (.invokevirtual 153, 3) := by decide +kernel
theorem dX9_pumped_5 : decode cX9_pumped 5 = .ok (.ifCond .eq 10, 3) := by decide +kernel
theorem dX9_pumped_8 : decode cX9_pumped 8 = .ok (.iload_n 2, 1) := by decide +kernel
theorem dX9_pumped_9 : decode cX9_pumped 9 = .ok (.invokestatic 217, 3) := by decide +kernel
theorem dX9_pumped_12 : decode cX9_pumped 12 = .ok (.ifCond .ne 9, 3) := by decide +kernel
theorem dX9_pumped_15 : decode cX9_pumped 15 = .ok (.aload_n 0, 1) := by decide +kernel
theorem dX9_pumped_16 : decode cX9_pumped 16 = .ok (.iconst 1, 1) := by decide +kernel
theorem dX9_pumped_17 : decode cX9_pumped 17 = .ok (.invokevirtual 103, 3) := by decide +kernel
theorem dX9_pumped_20 : decode cX9_pumped 20 = .ok (.ireturn, 1) := by decide +kernel
theorem dX9_pumped_21 : decode cX9_pumped 21 = .ok (.aload_n 0, 1) := by decide +kernel
theorem dX9_pumped_22 : decode cX9_pumped 22 = .ok (.getfield 7, 3) := by decide +kernel
theorem dX9_pumped_25 : decode cX9_pumped 25 = .ok (.bipush 13, 2) := by decide +kernel
theorem dX9_pumped_27 : decode cX9_pumped 27 = .ok (.iaload, 1) := by decide +kernel
theorem dX9_pumped_28 : decode cX9_pumped 28 = .ok (.istore_n 3, 1) := by decide +kernel
theorem dX9_pumped_29 : decode cX9_pumped 29 = .ok (.iconst (-1), 1) := by decide +kernel
theorem dX9_pumped_30 : decode cX9_pumped 30 = .ok (.istore 4, 2) := by decide +kernel
theorem dX9_pumped_32 : decode cX9_pumped 32 = .ok (.iconst 0, 1) := by decide +kernel
theorem dX9_pumped_33 : decode cX9_pumped 33 = .ok (.istore 5, 2) := by decide +kernel
theorem dX9_pumped_35 : decode cX9_pumped 35 = .ok (.iload 5, 2) := by decide +kernel
theorem dX9_pumped_37 : decode cX9_pumped 37 = .ok (.bipush 59, 2) := by decide +kernel
theorem dX9_pumped_39 : decode cX9_pumped 39 = .ok (.if_icmp .gt 48, 3) := by decide +kernel
theorem dX9_pumped_42 : decode cX9_pumped 42 = .ok (.iload 4, 2) := by decide +kernel
theorem dX9_pumped_44 : decode cX9_pumped 44 = .ok (.ifCond .ge 43, 3) := by decide +kernel
theorem dX9_pumped_47 : decode cX9_pumped 47 = .ok (.aload_n 0, 1) := by decide +kernel
theorem dX9_pumped_48 : decode cX9_pumped 48 = .ok (.getfield 7, 3) := by decide +kernel
theorem dX9_pumped_51 : decode cX9_pumped 51 = .ok (.bipush 13, 2) := by decide +kernel
theorem dX9_pumped_53 : decode cX9_pumped 53 = .ok (.iload_n 3, 1) := by decide +kernel
theorem dX9_pumped_54 : decode cX9_pumped 54 = .ok (.iload 5, 2) := by decide +kernel
theorem dX9_pumped_56 : decode cX9_pumped 56 = .ok (.iadd, 1) := by decide +kernel
theorem dX9_pumped_57 : decode cX9_pumped 57 = .ok (.iconst 1, 1) := by decide +kernel
theorem dX9_pumped_58 : decode cX9_pumped 58 = .ok (.bipush 60, 2) := by decide +kernel
theorem dX9_pumped_60 : decode cX9_pumped 60 = .ok (.invokestatic 112, 3) := by decide +kernel
theorem dX9_pumped_63 : decode cX9_pumped 63 = .ok (.iastore, 1) := by decide +kernel
theorem dX9_pumped_64 : decode cX9_pumped 64 = .ok (.aload_n 0, 1) := by decide +kernel
theorem dX9_pumped_65 : decode cX9_pumped 65 = .ok (.iload_n 1, 1) := by decide +kernel
theorem dX9_pumped_66 : decode cX9_pumped 66 = .ok (.iload_n 2, 1) := by decide +kernel
theorem dX9_pumped_67 : decode cX9_pumped 67 = .ok (.invokevirtual 235, 3) := by decide +kernel
theorem dX9_pumped_70 : decode cX9_pumped 70 = .ok (.ifCond .eq 8, 3) := by decide +kernel
theorem dX9_pumped_73 : decode cX9_pumped 73 = .ok (.iload 5, 2) := by decide +kernel
theorem dX9_pumped_75 : decode cX9_pumped 75 = .ok (.goto 4, 3) := by decide +kernel
theorem dX9_pumped_78 : decode cX9_pumped 78 = .ok (.iconst (-1), 1) := by decide +kernel
theorem dX9_pumped_79 : decode cX9_pumped 79 = .ok (.istore 4, 2) := by decide +kernel
theorem dX9_pumped_81 : decode cX9_pumped 81 = .ok (.iinc 5 1, 3) := by decide +kernel
theorem dX9_pumped_84 : decode cX9_pumped 84 = .ok (.goto (-49), 3) := by decide +kernel
theorem dX9_pumped_87 : decode cX9_pumped 87 = .ok (.aload_n 0, 1) := by decide +kernel
theorem dX9_pumped_88 : decode cX9_pumped 88 = .ok (.getfield 7, 3) := by decide +kernel
theorem dX9_pumped_91 : decode cX9_pumped 91 = .ok (.bipush 13, 2) := by decide +kernel
theorem dX9_pumped_93 : decode cX9_pumped 93 = .ok (.iload_n 3, 1) := by decide +kernel
theorem dX9_pumped_94 : decode cX9_pumped 94 = .ok (.iastore, 1) := by decide +kernel
theorem dX9_pumped_95 : decode cX9_pumped 95 = .ok (.iload 4, 2) := by decide +kernel
theorem dX9_pumped_97 : decode cX9_pumped 97 = .ok (.ifCond .ge 11, 3) := by decide +kernel
theorem dX9_pumped_100 : decode cX9_pumped 100 = .ok (.aload_n 0, 1) := by decide +kernel
theorem dX9_pumped_101 : decode cX9_pumped 101 = .ok (.iconst 2, 1) := by decide +kernel
theorem dX9_pumped_102 : decode cX9_pumped 102 = .ok (.invokevirtual 103, 3) := by decide +kernel
theorem dX9_pumped_105 : decode cX9_pumped 105 = .ok (.goto 5, 3) := by decide +kernel
theorem dX9_pumped_108 : decode cX9_pumped 108 = .ok (.iload 4, 2) := by decide +kernel
theorem dX9_pumped_110 : decode cX9_pumped 110 = .ok (.ireturn, 1) := by decide +kernel
theorem dX9_inStep_0 : decode cX9_inStep 0 = .ok (.aload_n 0, 1) := by decide +kernel
theorem dX9_inStep_1 : decode cX9_inStep 1 = .ok (.iload_n 1, 1) := by decide +kernel
theorem dX9_inStep_2 : decode cX9_inStep 2 = .ok (.invokevirtual 153, 3) := by decide +kernel
theorem dX9_inStep_5 : decode cX9_inStep 5 = .ok (.ifCond .eq 10, 3) := by decide +kernel
theorem dX9_inStep_8 : decode cX9_inStep 8 = .ok (.iload_n 2, 1) := by decide +kernel
theorem dX9_inStep_9 : decode cX9_inStep 9 = .ok (.invokestatic 217, 3) := by decide +kernel
theorem dX9_inStep_12 : decode cX9_inStep 12 = .ok (.ifCond .ne 9, 3) := by decide +kernel
theorem dX9_inStep_15 : decode cX9_inStep 15 = .ok (.aload_n 0, 1) := by decide +kernel
theorem dX9_inStep_16 : decode cX9_inStep 16 = .ok (.iconst 1, 1) := by decide +kernel
theorem dX9_inStep_17 : decode cX9_inStep 17 = .ok (.invokevirtual 103, 3) := by decide +kernel
theorem dX9_inStep_20 : decode cX9_inStep 20 = .ok (.ireturn, 1) := by decide +kernel
theorem dX9_inStep_21 : decode cX9_inStep 21 = .ok (.aload_n 0, 1) := by decide +kernel
theorem dX9_inStep_22 : decode cX9_inStep 22 = .ok (.getfield 7, 3) := by decide +kernel
theorem dX9_inStep_25 : decode cX9_inStep 25 = .ok (.bipush 17, 2) := by decide +kernel
theorem dX9_inStep_27 : decode cX9_inStep 27 = .ok (.iaload, 1) := by decide +kernel
theorem dX9_inStep_28 : decode cX9_inStep 28 = .ok (.istore_n 3, 1) := by decide +kernel
theorem dX9_inStep_29 : decode cX9_inStep 29 = .ok (.iconst (-1), 1) := by decide +kernel
theorem dX9_inStep_30 : decode cX9_inStep 30 = .ok (.istore 4, 2) := by decide +kernel
theorem dX9_inStep_32 : decode cX9_inStep 32 = .ok (.iconst 0, 1) := by decide +kernel
theorem dX9_inStep_33 : decode cX9_inStep 33 = .ok (.istore 5, 2) := by decide +kernel
theorem dX9_inStep_35 : decode cX9_inStep 35 = .ok (.iload 5, 2) := by decide +kernel
theorem dX9_inStep_37 : decode cX9_inStep 37 = .ok (.bipush 39, 2) := by decide +kernel
theorem dX9_inStep_39 : decode cX9_inStep 39 = .ok (.if_icmp .gt 50, 3) := by decide +kernel
theorem dX9_inStep_42 : decode cX9_inStep 42 = .ok (.iload 4, 2) := by decide +kernel
theorem dX9_inStep_44 : decode cX9_inStep 44 = .ok (.ifCond .ge 45, 3) := by decide +kernel
theorem dX9_inStep_47 : decode cX9_inStep 47 = .ok (.aload_n 0, 1) := by decide +kernel
theorem dX9_inStep_48 : decode cX9_inStep 48 = .ok (.getfield 7, 3) := by decide +kernel
theorem dX9_inStep_51 : decode cX9_inStep 51 = .ok (.bipush 17, 2) := by decide +kernel
theorem dX9_inStep_53 : decode cX9_inStep 53 = .ok (.iload_n 3, 1) := by decide +kernel
theorem dX9_inStep_54 : decode cX9_inStep 54 = .ok (.iload 5, 2) := by decide +kernel
theorem dX9_inStep_56 : decode cX9_inStep 56 = .ok (.iadd, 1) := by decide +kernel
theorem dX9_inStep_57 : decode cX9_inStep 57 = .ok (.aload_n 0, 1) := by decide +kernel
theorem dX9_inStep_58 : decode cX9_inStep 58 = .ok (.getfield 7, 3) := by decide +kernel
theorem dX9_inStep_61 : decode cX9_inStep 61 = .ok (.bipush 15, 2) := by decide +kernel
theorem dX9_inStep_63 : decode cX9_inStep 63 = .ok (.iaload, 1) := by decide +kernel
theorem dX9_inStep_64 : decode cX9_inStep 64 = .ok (.irem, 1) := by decide +kernel
theorem dX9_inStep_65 : decode cX9_inStep 65 = .ok (.iastore, 1) := by decide +kernel
theorem dX9_inStep_66 : decode cX9_inStep 66 = .ok (.aload_n 0, 1) := by decide +kernel
theorem dX9_inStep_67 : decode cX9_inStep 67 = .ok (.iload_n 1, 1) := by decide +kernel
theorem dX9_inStep_68 : decode cX9_inStep 68 = .ok (.iload_n 2, 1) := by decide +kernel
theorem dX9_inStep_69 : decode cX9_inStep 69 = .ok (.invokevirtual 235, 3) := by decide +kernel
theorem dX9_inStep_72 : decode cX9_inStep 72 = .ok (.ifCond .eq 8, 3) := by decide +kernel
theorem dX9_inStep_75 : decode cX9_inStep 75 = .ok (.iload 5, 2) := by decide +kernel
theorem dX9_inStep_77 : decode cX9_inStep 77 = .ok (.goto 4, 3) := by decide +kernel
theorem dX9_inStep_80 : decode cX9_inStep 80 = .ok (.iconst (-1), 1) := by decide +kernel
theorem dX9_inStep_81 : decode cX9_inStep 81 = .ok (.istore 4, 2) := by decide +kernel
theorem dX9_inStep_83 : decode cX9_inStep 83 = .ok (.iinc 5 1, 3) := by decide +kernel
theorem dX9_inStep_86 : decode cX9_inStep 86 = .ok (.goto (-51), 3) := by decide +kernel
theorem dX9_inStep_89 : decode cX9_inStep 89 = .ok (.aload_n 0, 1) := by decide +kernel
theorem dX9_inStep_90 : decode cX9_inStep 90 = .ok (.getfield 7, 3) := by decide +kernel
theorem dX9_inStep_93 : decode cX9_inStep 93 = .ok (.bipush 17, 2) := by decide +kernel
theorem dX9_inStep_95 : decode cX9_inStep 95 = .ok (.iload_n 3, 1) := by decide +kernel
theorem dX9_inStep_96 : decode cX9_inStep 96 = .ok (.iastore, 1) := by decide +kernel
theorem dX9_inStep_97 : decode cX9_inStep 97 = .ok (.iload 4, 2) := by decide +kernel
theorem dX9_inStep_99 : decode cX9_inStep 99 = .ok (.ifCond .ge 11, 3) := by decide +kernel
theorem dX9_inStep_102 : decode cX9_inStep 102 = .ok (.aload_n 0, 1) := by decide +kernel
theorem dX9_inStep_103 : decode cX9_inStep 103 = .ok (.iconst 2, 1) := by decide +kernel
theorem dX9_inStep_104 : decode cX9_inStep 104 = .ok (.invokevirtual 103, 3) := by decide +kernel
theorem dX9_inStep_107 : decode cX9_inStep 107 = .ok (.goto 5, 3) := by decide +kernel
theorem dX9_inStep_110 : decode cX9_inStep 110 = .ok (.iload 4, 2) := by decide +kernel
theorem dX9_inStep_112 : decode cX9_inStep 112 = .ok (.ireturn, 1) := by decide +kernel
theorem dX9_mend_0 : decode cX9_mend 0 = .ok (.aload_n 0, 1) := by decide +kernel
theorem dX9_mend_1 : decode cX9_mend 1 = .ok (.iload_n 1, 1) := by decide +kernel
theorem dX9_mend_2 : decode cX9_mend 2 = .ok (.invokevirtual 153, 3) := by decide +kernel
theorem dX9_mend_5 : decode cX9_mend 5 = .ok (.ifCond .eq 35, 3) := by decide +kernel
theorem dX9_mend_8 : decode cX9_mend 8 = .ok (.iload_n 2, 1) := by decide +kernel
theorem dX9_mend_9 : decode cX9_mend 9 = .ok (.invokestatic 208, 3) := by decide +kernel
theorem dX9_mend_12 : decode cX9_mend 12 = .ok (.ifCond .eq 28, 3) := by decide +kernel
theorem dX9_mend_15 : decode cX9_mend 15 = .ok (.iload_n 3, 1) := by decide +kernel
theorem dX9_mend_16 : decode cX9_mend 16 = .ok (.i2l, 1) := by decide +kernel
theorem dX9_mend_17 : decode cX9_mend 17 = .ok (.lconst 0, 1) := by decide +kernel
theorem dX9_mend_18 : decode cX9_mend 18 = .ok (.ldc2_w 229, 3) := by decide +kernel
theorem dX9_mend_21 : decode cX9_mend 21 = .ok (.invokestatic 45, 3) := by decide +kernel
theorem dX9_mend_24 : decode cX9_mend 24 = .ok (.ifCond .eq 16, 3) := by decide +kernel
theorem dX9_mend_27 : decode cX9_mend 27 = .ok (.iload 4, 2) := by decide +kernel
theorem dX9_mend_29 : decode cX9_mend 29 = .ok (.i2l, 1) := by decide +kernel
theorem dX9_mend_30 : decode cX9_mend 30 = .ok (.lconst 0, 1) := by decide +kernel
theorem dX9_mend_31 : decode cX9_mend 31 = .ok (.ldc2_w 229, 3) := by decide +kernel
theorem dX9_mend_34 : decode cX9_mend 34 = .ok (.invokestatic 45, 3) := by decide +kernel
theorem dX9_mend_37 : decode cX9_mend 37 = .ok (.ifCond .ne 9, 3) := by decide +kernel
theorem dX9_mend_40 : decode cX9_mend 40 = .ok (.aload_n 0, 1) := by decide +kernel
theorem dX9_mend_41 : decode cX9_mend 41 = .ok (.iconst 1, 1) := by decide +kernel
theorem dX9_mend_42 : decode cX9_mend 42 = .ok (.invokevirtual 103, 3) := by decide +kernel
theorem dX9_mend_45 : decode cX9_mend 45 = .ok (.ireturn, 1) := by decide +kernel
theorem dX9_mend_46 : decode cX9_mend 46 = .ok (.aload_n 0, 1) := by decide +kernel
theorem dX9_mend_47 : decode cX9_mend 47 = .ok (.iload_n 1, 1) := by decide +kernel
theorem dX9_mend_48 : decode cX9_mend 48 = .ok (.aload_n 0, 1) := by decide +kernel
theorem dX9_mend_49 : decode cX9_mend 49 = .ok (.getfield 7, 3) := by decide +kernel
theorem dX9_mend_52 : decode cX9_mend 52 = .ok (.iconst 1, 1) := by decide +kernel
theorem dX9_mend_53 : decode cX9_mend 53 = .ok (.iaload, 1) := by decide +kernel
theorem dX9_mend_54 : decode cX9_mend 54 = .ok (.iload_n 2, 1) := by decide +kernel
theorem dX9_mend_55 : decode cX9_mend 55 = .ok (.iadd, 1) := by decide +kernel
theorem dX9_mend_56 : decode cX9_mend 56 = .ok (.invokevirtual 191, 3) := by decide +kernel
theorem dX9_mend_59 : decode cX9_mend 59 = .ok (.aload_n 0, 1) := by decide +kernel
theorem dX9_mend_60 : decode cX9_mend 60 = .ok (.invokevirtual 185, 3) := by decide +kernel
theorem dX9_mend_63 : decode cX9_mend 63 = .ok (.istore 5, 2) := by decide +kernel
theorem dX9_mend_65 : decode cX9_mend 65 = .ok (.iload 5, 2) := by decide +kernel
theorem dX9_mend_67 : decode cX9_mend 67 = .ok (.iload 5, 2) := by decide +kernel
theorem dX9_mend_69 : decode cX9_mend 69 = .ok (.iload_n 3, 1) := by decide +kernel
theorem dX9_mend_70 : decode cX9_mend 70 = .ok (.imul, 1) := by decide +kernel
theorem dX9_mend_71 : decode cX9_mend 71 = .ok (.bipush 10, 2) := by decide +kernel
theorem dX9_mend_73 : decode cX9_mend 73 = .ok (.idiv, 1) := by decide +kernel
theorem dX9_mend_74 : decode cX9_mend 74 = .ok (.isub, 1) := by decide +kernel
theorem dX9_mend_75 : decode cX9_mend 75 = .ok (.iload 5, 2) := by decide +kernel
theorem dX9_mend_77 : decode cX9_mend 77 = .ok (.iload 4, 2) := by decide +kernel
theorem dX9_mend_79 : decode cX9_mend 79 = .ok (.imul, 1) := by decide +kernel
theorem dX9_mend_80 : decode cX9_mend 80 = .ok (.bipush 10, 2) := by decide +kernel
theorem dX9_mend_82 : decode cX9_mend 82 = .ok (.idiv, 1) := by decide +kernel
theorem dX9_mend_83 : decode cX9_mend 83 = .ok (.isub, 1) := by decide +kernel
theorem dX9_mend_84 : decode cX9_mend 84 = .ok (.ireturn, 1) := by decide +kernel
theorem dX9_again_0 : decode cX9_again 0 = .ok (.aload_n 0, 1) := by decide +kernel
theorem dX9_again_1 : decode cX9_again 1 = .ok (.iload_n 1, 1) := by decide +kernel
theorem dX9_again_2 : decode cX9_again 2 = .ok (.invokevirtual 153, 3) := by decide +kernel
theorem dX9_again_5 : decode cX9_again 5 = .ok (.ifCond .eq 46, 3) := by decide +kernel
theorem dX9_again_8 : decode cX9_again 8 = .ok (.iload_n 2, 1) := by decide +kernel
theorem dX9_again_9 : decode cX9_again 9 = .ok (.invokestatic 217, 3) := by decide +kernel
theorem dX9_again_12 : decode cX9_again 12 = .ok (.ifCond .eq 39, 3) := by decide +kernel
theorem dX9_again_15 : decode cX9_again 15 = .ok (.iload_n 3, 1) := by decide +kernel
theorem dX9_again_16 : decode cX9_again 16 = .ok (.i2l, 1) := by decide +kernel
theorem dX9_again_17 : decode cX9_again 17 = .ok (.lconst 0, 1) := by decide +kernel
theorem dX9_again_18 : decode cX9_again 18 = .ok (.ldc2_w 239, 3) := by decide +kernel
theorem dX9_again_21 : decode cX9_again 21 = .ok (.invokestatic 45, 3) := by decide +kernel
theorem dX9_again_24 : decode cX9_again 24 = .ok (.ifCond .eq 27, 3) := by decide +kernel
theorem dX9_again_27 : decode cX9_again 27 = .ok (.iload 4, 2) := by decide +kernel
theorem dX9_again_29 : decode cX9_again 29 = .ok (.i2l, 1) := by decide +kernel
theorem dX9_again_30 : decode cX9_again 30 = .ok (.lconst 0, 1) := by decide +kernel
theorem dX9_again_31 : decode cX9_again 31 = .ok (.ldc2_w 239, 3) := by decide +kernel
theorem dX9_again_34 : decode cX9_again 34 = .ok (.invokestatic 45, 3) := by decide +kernel
theorem dX9_again_37 : decode cX9_again 37 = .ok (.ifCond .eq 14, 3) := by decide +kernel
theorem dX9_again_40 : decode cX9_again 40 = .ok (.iload 5, 2) := by decide +kernel
theorem dX9_again_42 : decode cX9_again 42 = .ok (.i2l, 1) := by decide +kernel
theorem dX9_again_43 : decode cX9_again 43 = .ok (.lconst 0, 1) := by decide +kernel
theorem dX9_again_44 : decode cX9_again 44 = .ok (.lconst 1, 1) := by decide +kernel
theorem dX9_again_45 : decode cX9_again 45 = .ok (.invokestatic 45, 3) := by decide +kernel
theorem dX9_again_48 : decode cX9_again 48 = .ok (.ifCond .ne 10, 3) := by decide +kernel
theorem dX9_again_51 : decode cX9_again 51 = .ok (.aload_n 0, 1) := by decide +kernel
theorem dX9_again_52 : decode cX9_again 52 = .ok (.iconst 1, 1) := by decide +kernel
theorem dX9_again_53 : decode cX9_again 53 = .ok (.invokevirtual 103, 3) := by decide +kernel
theorem dX9_again_56 : decode cX9_again 56 = .ok (.i2l, 1) := by decide +kernel
theorem dX9_again_57 : decode cX9_again 57 = .ok (.lreturn, 1) := by decide +kernel
theorem dX9_again_58 : decode cX9_again 58 = .ok (.aload_n 0, 1) := by decide +kernel
theorem dX9_again_59 : decode cX9_again 59 = .ok (.iload_n 1, 1) := by decide +kernel
theorem dX9_again_60 : decode cX9_again 60 = .ok (.aload_n 0, 1) := by decide +kernel
theorem dX9_again_61 : decode cX9_again 61 = .ok (.getfield 7, 3) := by decide +kernel
theorem dX9_again_64 : decode cX9_again 64 = .ok (.iconst 1, 1) := by decide +kernel
theorem dX9_again_65 : decode cX9_again 65 = .ok (.iaload, 1) := by decide +kernel
theorem dX9_again_66 : decode cX9_again 66 = .ok (.aload_n 0, 1) := by decide +kernel
theorem dX9_again_67 : decode cX9_again 67 = .ok (.iload_n 1, 1) := by decide +kernel
theorem dX9_again_68 : decode cX9_again 68 = .ok (.iload_n 2, 1) := by decide +kernel
theorem dX9_again_69 : decode cX9_again 69 = .ok (.invokevirtual 226, 3) := by decide +kernel
theorem dX9_again_72 : decode cX9_again 72 = .ok (.iadd, 1) := by decide +kernel
theorem dX9_again_73 : decode cX9_again 73 = .ok (.invokevirtual 223, 3) := by decide +kernel
theorem dX9_again_76 : decode cX9_again 76 = .ok (.i2l, 1) := by decide +kernel
theorem dX9_again_77 : decode cX9_again 77 = .ok (.lstore 6, 2) := by decide +kernel
theorem dX9_again_79 : decode cX9_again 79 = .ok (.lload 6, 2) := by decide +kernel
theorem dX9_again_81 : decode cX9_again 81 = .ok (.iload_n 3, 1) := by decide +kernel
theorem dX9_again_82 : decode cX9_again 82 = .ok (.i2l, 1) := by decide +kernel
theorem dX9_again_83 : decode cX9_again 83 = .ok (.lmul, 1) := by decide +kernel
theorem dX9_again_84 : decode cX9_again 84 = .ok (.ldc2_w 229, 3) := by decide +kernel
theorem dX9_again_87 : decode cX9_again 87 = .ok (.lload 6, 2) := by decide +kernel
theorem dX9_again_89 : decode cX9_again 89 = .ok (.lsub, 1) := by decide +kernel
theorem dX9_again_90 : decode cX9_again 90 = .ok (.iload 4, 2) := by decide +kernel
theorem dX9_again_92 : decode cX9_again 92 = .ok (.i2l, 1) := by decide +kernel
theorem dX9_again_93 : decode cX9_again 93 = .ok (.lmul, 1) := by decide +kernel
theorem dX9_again_94 : decode cX9_again 94 = .ok (.lsub, 1) := by decide +kernel
theorem dX9_again_95 : decode cX9_again 95 = .ok (.lstore 8, 2) := by decide +kernel
theorem dX9_again_97 : decode cX9_again 97 = .ok (.lload 8, 2) := by decide +kernel
theorem dX9_again_99 : decode cX9_again 99 = .ok (.lconst 0, 1) := by decide +kernel
theorem dX9_again_100 : decode cX9_again 100 = .ok (.lcmp, 1) := by decide +kernel
theorem dX9_again_101 : decode cX9_again 101 = .ok (.ifCond .le 8, 3) := by decide +kernel
theorem dX9_again_104 : decode cX9_again 104 = .ok (.lload 8, 2) := by decide +kernel
theorem dX9_again_106 : decode cX9_again 106 = .ok (.goto 4, 3) := by decide +kernel
theorem dX9_again_109 : decode cX9_again 109 = .ok (.lconst 0, 1) := by decide +kernel
theorem dX9_again_110 : decode cX9_again 110 = .ok (.lstore 10, 2) := by decide +kernel
theorem dX9_again_112 : decode cX9_again 112 = .ok (.ldc2_w 229, 3) := by decide +kernel
theorem dX9_again_115 : decode cX9_again 115 = .ok (.lload 8, 2) := by decide +kernel
theorem dX9_again_117 : decode cX9_again 117 = .ok (.lmul, 1) := by decide +kernel
theorem dX9_again_118 : decode cX9_again 118 = .ok (.ldc2_w 229, 3) := by decide +kernel
theorem dX9_again_121 : decode cX9_again 121 = .ok (.lload 6, 2) := by decide +kernel
theorem dX9_again_123 : decode cX9_again 123 = .ok (.lsub, 1) := by decide +kernel
theorem dX9_again_124 : decode cX9_again 124 = .ok (.lload 10, 2) := by decide +kernel
theorem dX9_again_126 : decode cX9_again 126 = .ok (.lmul, 1) := by decide +kernel
theorem dX9_again_127 : decode cX9_again 127 = .ok (.ladd, 1) := by decide +kernel
theorem dX9_again_128 : decode cX9_again 128 = .ok (.lstore 12, 2) := by decide +kernel
theorem dX9_again_130 : decode cX9_again 130 = .ok (.lload 12, 2) := by decide +kernel
theorem dX9_again_132 : decode cX9_again 132 = .ok (.ldc2_w 241, 3) := by decide +kernel
theorem dX9_again_135 : decode cX9_again 135 = .ok (.invokestatic 231, 3) := by decide +kernel
theorem dX9_again_138 : decode cX9_again 138 = .ok (.lstore 14, 2) := by decide +kernel
theorem dX9_again_140 : decode cX9_again 140 = .ok (.iload 5, 2) := by decide +kernel
theorem dX9_again_142 : decode cX9_again 142 = .ok (.ifCond .ne 11, 3) := by decide +kernel
theorem dX9_again_145 : decode cX9_again 145 = .ok (.lload 12, 2) := by decide +kernel
theorem dX9_again_147 : decode cX9_again 147 = .ok (.lload 14, 2) := by decide +kernel
theorem dX9_again_149 : decode cX9_again 149 = .ok (.ldiv, 1) := by decide +kernel
theorem dX9_again_150 : decode cX9_again 150 = .ok (.goto 9, 3) := by decide +kernel
theorem dX9_again_153 : decode cX9_again 153 = .ok (.ldc2_w 241, 3) := by decide +kernel
theorem dX9_again_156 : decode cX9_again 156 = .ok (.lload 14, 2) := by decide +kernel
theorem dX9_again_158 : decode cX9_again 158 = .ok (.ldiv, 1) := by decide +kernel
theorem dX9_again_159 : decode cX9_again 159 = .ok (.lreturn, 1) := by decide +kernel
theorem dX9_findFalls_0 : decode cX9_findFalls 0 = .ok (.aload_n 0, 1) := by decide +kernel
theorem dX9_findFalls_1 : decode cX9_findFalls 1 = .ok (.iconst 0, 1) := by decide +kernel
theorem dX9_findFalls_2 : decode cX9_findFalls 2 = .ok (.putfield 243, 3) := by decide +kernel
theorem dX9_findFalls_5 : decode cX9_findFalls 5 = .ok (.iconst 0, 1) := by decide +kernel
theorem dX9_findFalls_6 : decode cX9_findFalls 6 = .ok (.istore_n 3, 1) := by decide +kernel
theorem dX9_findFalls_7 : decode cX9_findFalls 7 = .ok (.iload_n 3, 1) := by decide +kernel
theorem dX9_findFalls_8 : decode cX9_findFalls 8 = .ok (.iload_n 2, 1) := by decide +kernel
theorem dX9_findFalls_9 : decode cX9_findFalls 9 = .ok (.if_icmp .ge 53, 3) := by decide +kernel
theorem dX9_findFalls_12 : decode cX9_findFalls 12 = .ok (.aload_n 0, 1) := by decide +kernel
theorem dX9_findFalls_13 : decode cX9_findFalls 13 = .ok (.iload_n 1, 1) := by decide +kernel
theorem dX9_findFalls_14 : decode cX9_findFalls 14 = .ok (.aload_n 0, 1) := by decide +kernel
theorem dX9_findFalls_15 : decode cX9_findFalls 15 = .ok (.getfield 7, 3) := by decide +kernel
theorem dX9_findFalls_18 : decode cX9_findFalls 18 = .ok (.iconst 1, 1) := by decide +kernel
theorem dX9_findFalls_19 : decode cX9_findFalls 19 = .ok (.iaload, 1) := by decide +kernel
theorem dX9_findFalls_20 : decode cX9_findFalls 20 = .ok (.iload_n 3, 1) := by decide +kernel
theorem dX9_findFalls_21 : decode cX9_findFalls 21 = .ok (.iadd, 1) := by decide +kernel
theorem dX9_findFalls_22 : decode cX9_findFalls 22 = .ok (.invokevirtual 191, 3) := by decide +kernel
theorem dX9_findFalls_25 : decode cX9_findFalls 25 = .ok (.aload_n 0, 1) := by decide +kernel
theorem dX9_findFalls_26 : decode cX9_findFalls 26 = .ok (.iload_n 1, 1) := by decide +kernel
theorem dX9_findFalls_27 : decode cX9_findFalls 27 = .ok (.invokevirtual 194, 3) := by decide +kernel
theorem dX9_findFalls_30 : decode cX9_findFalls 30 = .ok (.ifCond .ne 26, 3) := by decide +kernel
theorem dX9_findFalls_33 : decode cX9_findFalls 33 = .ok (.aload_n 0, 1) := by decide +kernel
theorem dX9_findFalls_34 : decode cX9_findFalls 34 = .ok (.getfield 26, 3) := by decide +kernel
theorem dX9_findFalls_37 : decode cX9_findFalls 37 = .ok (.aload_n 0, 1) := by decide +kernel
theorem dX9_findFalls_38 : decode cX9_findFalls 38 = .ok (.getfield 243, 3) := by decide +kernel
theorem dX9_findFalls_41 : decode cX9_findFalls 41 = .ok (.aload_n 0, 1) := by decide +kernel
theorem dX9_findFalls_42 : decode cX9_findFalls 42 = .ok (.getfield 175, 3) := by decide +kernel
theorem dX9_findFalls_45 : decode cX9_findFalls 45 = .ok (.iastore, 1) := by decide +kernel
theorem dX9_findFalls_46 : decode cX9_findFalls 46 = .ok (.aload_n 0, 1) := by decide +kernel
theorem dX9_findFalls_47 : decode cX9_findFalls 47 = .ok (.dup, 1) := by decide +kernel
theorem dX9_findFalls_48 : decode cX9_findFalls 48 = .ok (.getfield 243, 3) := by decide +kernel
theorem dX9_findFalls_51 : decode cX9_findFalls 51 = .ok (.iconst 1, 1) := by decide +kernel
theorem dX9_findFalls_52 : decode cX9_findFalls 52 = .ok (.iadd, 1) := by decide +kernel
theorem dX9_findFalls_53 : decode cX9_findFalls 53 = .ok (.putfield 243, 3) := by decide +kernel
theorem dX9_findFalls_56 : decode cX9_findFalls 56 = .ok (.iinc 3 1, 3) := by decide +kernel
theorem dX9_findFalls_59 : decode cX9_findFalls 59 = .ok (.goto (-52), 3) := by decide +kernel
theorem dX9_findFalls_62 : decode cX9_findFalls 62 = .ok (.return_, 1) := by decide +kernel
theorem dX9_harmBy_0 : decode cX9_harmBy 0 = .ok (.lconst 0, 1) := by decide +kernel
theorem dX9_harmBy_1 : decode cX9_harmBy 1 = .ok (.lstore_n 3, 1) := by decide +kernel
theorem dX9_harmBy_2 : decode cX9_harmBy 2 = .ok (.iconst 0, 1) := by decide +kernel
theorem dX9_harmBy_3 : decode cX9_harmBy 3 = .ok (.istore 5, 2) := by decide +kernel
theorem dX9_harmBy_5 : decode cX9_harmBy 5 = .ok (.iload 5, 2) := by decide +kernel
theorem dX9_harmBy_7 : decode cX9_harmBy 7 = .ok (.aload_n 0, 1) := by decide +kernel
theorem dX9_harmBy_8 : decode cX9_harmBy 8 = .ok (.getfield 243, 3) := by decide +kernel
theorem dX9_harmBy_11 : decode cX9_harmBy 11 = .ok (.if_icmp .ge 30, 3) := by decide +kernel
theorem dX9_harmBy_14 : decode cX9_harmBy 14 = .ok (.lload_n 3, 1) := by decide +kernel
theorem dX9_harmBy_15 : decode cX9_harmBy 15 = .ok (.aload_n 0, 1) := by decide +kernel
theorem dX9_harmBy_16 : decode cX9_harmBy 16 = .ok (.iload_n 1, 1) := by decide +kernel
theorem dX9_harmBy_17 : decode cX9_harmBy 17 = .ok (.aload_n 0, 1) := by decide +kernel
theorem dX9_harmBy_18 : decode cX9_harmBy 18 = .ok (.getfield 26, 3) := by decide +kernel
theorem dX9_harmBy_21 : decode cX9_harmBy 21 = .ok (.iload 5, 2) := by decide +kernel
theorem dX9_harmBy_23 : decode cX9_harmBy 23 = .ok (.iaload, 1) := by decide +kernel
theorem dX9_harmBy_24 : decode cX9_harmBy 24 = .ok (.iload_n 2, 1) := by decide +kernel
theorem dX9_harmBy_25 : decode cX9_harmBy 25 = .ok (.isub, 1) := by decide +kernel
theorem dX9_harmBy_26 : decode cX9_harmBy 26 = .ok (.invokestatic 188, 3) := by decide +kernel
theorem dX9_harmBy_29 : decode cX9_harmBy 29 = .ok (.invokevirtual 164, 3) := by decide +kernel
theorem dX9_harmBy_32 : decode cX9_harmBy 32 = .ok (.i2l, 1) := by decide +kernel
theorem dX9_harmBy_33 : decode cX9_harmBy 33 = .ok (.ladd, 1) := by decide +kernel
theorem dX9_harmBy_34 : decode cX9_harmBy 34 = .ok (.lstore_n 3, 1) := by decide +kernel
theorem dX9_harmBy_35 : decode cX9_harmBy 35 = .ok (.iinc 5 1, 3) := by decide +kernel
theorem dX9_harmBy_38 : decode cX9_harmBy 38 = .ok (.goto (-33), 3) := by decide +kernel
theorem dX9_harmBy_41 : decode cX9_harmBy 41 = .ok (.lload_n 3, 1) := by decide +kernel
theorem dX9_harmBy_42 : decode cX9_harmBy 42 = .ok (.lreturn, 1) := by decide +kernel
theorem dX9_net_0 : decode cX9_net 0 = .ok (.aload_n 0, 1) := by decide +kernel
theorem dX9_net_1 : decode cX9_net 1 = .ok (.iload_n 1, 1) := by decide +kernel
theorem dX9_net_2 : decode cX9_net 2 = .ok (.invokevirtual 153, 3) := by decide +kernel
theorem dX9_net_5 : decode cX9_net 5 = .ok (.ifCond .eq 20, 3) := by decide +kernel
theorem dX9_net_8 : decode cX9_net 8 = .ok (.iload_n 2, 1) := by decide +kernel
theorem dX9_net_9 : decode cX9_net 9 = .ok (.invokestatic 217, 3) := by decide +kernel
theorem dX9_net_12 : decode cX9_net 12 = .ok (.ifCond .eq 13, 3) := by decide +kernel
theorem dX9_net_15 : decode cX9_net 15 = .ok (.iload_n 3, 1) := by decide +kernel
theorem dX9_net_16 : decode cX9_net 16 = .ok (.i2l, 1) := by decide +kernel
theorem dX9_net_17 : decode cX9_net 17 = .ok (.lconst 0, 1) := by decide +kernel
theorem dX9_net_18 : decode cX9_net 18 = .ok (.lconst 1, 1) := by decide +kernel
theorem dX9_net_19 : decode cX9_net 19 = .ok (.invokestatic 45, 3) := by decide +kernel
theorem dX9_net_22 : decode cX9_net 22 = .ok (.ifCond .ne 9, 3) := by decide +kernel
theorem dX9_net_25 : decode cX9_net 25 = .ok (.aload_n 0, 1) := by decide +kernel
theorem dX9_net_26 : decode cX9_net 26 = .ok (.iconst 1, 1) := by decide +kernel
theorem dX9_net_27 : decode cX9_net 27 = .ok (.invokevirtual 103, 3) := by decide +kernel
theorem dX9_net_30 : decode cX9_net 30 = .ok (.ireturn, 1) := by decide +kernel
theorem dX9_net_31 : decode cX9_net 31 = .ok (.aload_n 0, 1) := by decide +kernel
theorem dX9_net_32 : decode cX9_net 32 = .ok (.ldc2_w 246, 3) := by decide +kernel
theorem dX9_net_35 : decode cX9_net 35 = .ok (.putfield 248, 3) := by decide +kernel
theorem dX9_net_38 : decode cX9_net 38 = .ok (.aload_n 0, 1) := by decide +kernel
theorem dX9_net_39 : decode cX9_net 39 = .ok (.iload_n 1, 1) := by decide +kernel
theorem dX9_net_40 : decode cX9_net 40 = .ok (.iload_n 2, 1) := by decide +kernel
theorem dX9_net_41 : decode cX9_net 41 = .ok (.invokevirtual 252, 3) := by decide +kernel
theorem dX9_net_44 : decode cX9_net 44 = .ok (.bipush (-99), 2) := by decide +kernel
theorem dX9_net_46 : decode cX9_net 46 = .ok (.istore 4, 2) := by decide +kernel
theorem dX9_net_48 : decode cX9_net 48 = .ok (.iload 4, 2) := by decide +kernel
theorem dX9_net_50 : decode cX9_net 50 = .ok (.sipush 299, 3) := by decide +kernel
theorem dX9_net_53 : decode cX9_net 53 = .ok (.if_icmp .gt 49, 3) := by decide +kernel
theorem dX9_net_56 : decode cX9_net 56 = .ok (.aload_n 0, 1) := by decide +kernel
theorem dX9_net_57 : decode cX9_net 57 = .ok (.iload_n 1, 1) := by decide +kernel
theorem dX9_net_58 : decode cX9_net 58 = .ok (.iload 4, 2) := by decide +kernel
theorem dX9_net_60 : decode cX9_net 60 = .ok (.invokevirtual 255, 3) := by decide +kernel
theorem dX9_net_63 : decode cX9_net 63 = .ok (.lstore 5, 2) := by decide +kernel
theorem dX9_net_65 : decode cX9_net 65 = .ok (.aload_n 0, 1) := by decide +kernel
theorem dX9_net_66 : decode cX9_net 66 = .ok (.getfield 248, 3) := by decide +kernel
theorem dX9_net_69 : decode cX9_net 69 = .ok (.lconst 0, 1) := by decide +kernel
theorem dX9_net_70 : decode cX9_net 70 = .ok (.lcmp, 1) := by decide +kernel
theorem dX9_net_71 : decode cX9_net 71 = .ok (.ifCond .lt 13, 3) := by decide +kernel
theorem dX9_net_74 : decode cX9_net 74 = .ok (.lload 5, 2) := by decide +kernel
theorem dX9_net_76 : decode cX9_net 76 = .ok (.aload_n 0, 1) := by decide +kernel
theorem dX9_net_77 : decode cX9_net 77 = .ok (.getfield 248, 3) := by decide +kernel
theorem dX9_net_80 : decode cX9_net 80 = .ok (.lcmp, 1) := by decide +kernel
theorem dX9_net_81 : decode cX9_net 81 = .ok (.ifCond .ge 15, 3) := by decide +kernel
theorem dX9_net_84 : decode cX9_net 84 = .ok (.aload_n 0, 1) := by decide +kernel
theorem dX9_net_85 : decode cX9_net 85 = .ok (.lload 5, 2) := by decide +kernel
theorem dX9_net_87 : decode cX9_net 87 = .ok (.putfield 248, 3) := by decide +kernel
theorem dX9_net_90 : decode cX9_net 90 = .ok (.aload_n 0, 1) := by decide +kernel
theorem dX9_net_91 : decode cX9_net 91 = .ok (.iload 4, 2) := by decide +kernel
theorem dX9_net_93 : decode cX9_net 93 = .ok (.putfield 259, 3) := by decide +kernel
theorem dX9_net_96 : decode cX9_net 96 = .ok (.iinc 4 1, 3) := by decide +kernel
theorem dX9_net_99 : decode cX9_net 99 = .ok (.goto (-51), 3) := by decide +kernel
theorem dX9_net_102 : decode cX9_net 102 = .ok (.aload_n 0, 1) := by decide +kernel
theorem dX9_net_103 : decode cX9_net 103 = .ok (.getfield 243, 3) := by decide +kernel
theorem dX9_net_106 : decode cX9_net 106 = .ok (.ifCond .ne 9, 3) := by decide +kernel
theorem dX9_net_109 : decode cX9_net 109 = .ok (.aload_n 0, 1) := by decide +kernel
theorem dX9_net_110 : decode cX9_net 110 = .ok (.iconst 2, 1) := by decide +kernel
theorem dX9_net_111 : decode cX9_net 111 = .ok (.invokevirtual 103, 3) := by decide +kernel
theorem dX9_net_114 : decode cX9_net 114 = .ok (.ireturn, 1) := by decide +kernel
theorem dX9_net_115 : decode cX9_net 115 = .ok (.iload_n 3, 1) := by decide +kernel
theorem dX9_net_116 : decode cX9_net 116 = .ok (.ifCond .ne 10, 3) := by decide +kernel
theorem dX9_net_119 : decode cX9_net 119 = .ok (.aload_n 0, 1) := by decide +kernel
theorem dX9_net_120 : decode cX9_net 120 = .ok (.getfield 259, 3) := by decide +kernel
theorem dX9_net_123 : decode cX9_net 123 = .ok (.goto 8, 3) := by decide +kernel
theorem dX9_net_126 : decode cX9_net 126 = .ok (.aload_n 0, 1) := by decide +kernel
theorem dX9_net_127 : decode cX9_net 127 = .ok (.getfield 248, 3) := by decide +kernel
theorem dX9_net_130 : decode cX9_net 130 = .ok (.l2i, 1) := by decide +kernel
theorem dX9_net_131 : decode cX9_net 131 = .ok (.ireturn, 1) := by decide +kernel
theorem dX9_isSo_0 : decode cX9_isSo 0 = .ok (.iconst 1, 1) := by decide +kernel
theorem dX9_isSo_1 : decode cX9_isSo 1 = .ok (.istore_n 3, 1) := by decide +kernel
theorem dX9_isSo_2 : decode cX9_isSo 2 = .ok (.iconst 0, 1) := by decide +kernel
theorem dX9_isSo_3 : decode cX9_isSo 3 = .ok (.istore 4, 2) := by decide +kernel
theorem dX9_isSo_5 : decode cX9_isSo 5 = .ok (.iload 4, 2) := by decide +kernel
theorem dX9_isSo_7 : decode cX9_isSo 7 = .ok (.aload_n 0, 1) := by decide +kernel
theorem dX9_isSo_8 : decode cX9_isSo 8 = .ok (.getfield 35, 3) := by decide +kernel
theorem dX9_isSo_11 : decode cX9_isSo 11 = .ok (.iload_n 2, 1) := by decide +kernel
theorem dX9_isSo_12 : decode cX9_isSo 12 = .ok (.iaload, 1) := by decide +kernel
theorem dX9_isSo_13 : decode cX9_isSo 13 = .ok (.if_icmp .ge 52, 3) := by decide +kernel
theorem dX9_isSo_16 : decode cX9_isSo 16 = .ok (.iload_n 3, 1) := by decide +kernel
theorem dX9_isSo_17 : decode cX9_isSo 17 = .ok (.ifCond .eq 48, 3) := by decide +kernel
theorem dX9_isSo_20 : decode cX9_isSo 20 = .ok (.aload_n 0, 1) := by decide +kernel
theorem dX9_isSo_21 : decode cX9_isSo 21 = .ok (.iload_n 1, 1) := by decide +kernel
theorem dX9_isSo_22 : decode cX9_isSo 22 = .ok (.aload_n 0, 1) := by decide +kernel
theorem dX9_isSo_23 : decode cX9_isSo 23 = .ok (.getfield 7, 3) := by decide +kernel
theorem dX9_isSo_26 : decode cX9_isSo 26 = .ok (.iconst 1, 1) := by decide +kernel
theorem dX9_isSo_27 : decode cX9_isSo 27 = .ok (.iaload, 1) := by decide +kernel
theorem dX9_isSo_28 : decode cX9_isSo 28 = .ok (.iload 4, 2) := by decide +kernel
theorem dX9_isSo_30 : decode cX9_isSo 30 = .ok (.iadd, 1) := by decide +kernel
theorem dX9_isSo_31 : decode cX9_isSo 31 = .ok (.invokevirtual 191, 3) := by decide +kernel
theorem dX9_isSo_34 : decode cX9_isSo 34 = .ok (.aload_n 0, 1) := by decide +kernel
theorem dX9_isSo_35 : decode cX9_isSo 35 = .ok (.invokevirtual 185, 3) := by decide +kernel
theorem dX9_isSo_38 : decode cX9_isSo 38 = .ok (.aload_n 0, 1) := by decide +kernel
theorem dX9_isSo_39 : decode cX9_isSo 39 = .ok (.getfield 38, 3) := by decide +kernel
theorem dX9_isSo_42 : decode cX9_isSo 42 = .ok (.bipush 40, 2) := by decide +kernel
theorem dX9_isSo_44 : decode cX9_isSo 44 = .ok (.iload_n 2, 1) := by decide +kernel
theorem dX9_isSo_45 : decode cX9_isSo 45 = .ok (.imul, 1) := by decide +kernel
theorem dX9_isSo_46 : decode cX9_isSo 46 = .ok (.iload 4, 2) := by decide +kernel
theorem dX9_isSo_48 : decode cX9_isSo 48 = .ok (.iadd, 1) := by decide +kernel
theorem dX9_isSo_49 : decode cX9_isSo 49 = .ok (.iaload, 1) := by decide +kernel
theorem dX9_isSo_50 : decode cX9_isSo 50 = .ok (.if_icmp .ne 7, 3) := by decide +kernel
theorem dX9_isSo_53 : decode cX9_isSo 53 = .ok (.iconst 1, 1) := by decide +kernel
theorem dX9_isSo_54 : decode cX9_isSo 54 = .ok (.goto 4, 3) := by decide +kernel
theorem dX9_isSo_57 : decode cX9_isSo 57 = .ok (.iconst 0, 1) := by decide +kernel
theorem dX9_isSo_58 : decode cX9_isSo 58 = .ok (.istore_n 3, 1) := by decide +kernel
theorem dX9_isSo_59 : decode cX9_isSo 59 = .ok (.iinc 4 1, 3) := by decide +kernel
theorem dX9_isSo_62 : decode cX9_isSo 62 = .ok (.goto (-57), 3) := by decide +kernel
theorem dX9_isSo_65 : decode cX9_isSo 65 = .ok (.iload_n 3, 1) := by decide +kernel
theorem dX9_isSo_66 : decode cX9_isSo 66 = .ok (.ireturn, 1) := by decide +kernel
theorem dX9_phases_0 : decode cX9_phases 0 = .ok (.aload_n 0, 1) := by decide +kernel
theorem dX9_phases_1 : decode cX9_phases 1 = .ok (.iload_n 1, 1) := by decide +kernel
theorem dX9_phases_2 : decode cX9_phases 2 = .ok (.invokevirtual 153, 3) := by decide +kernel
theorem dX9_phases_5 : decode cX9_phases 5 = .ok (.ifCond .eq 20, 3) := by decide +kernel
theorem dX9_phases_8 : decode cX9_phases 8 = .ok (.iload_n 2, 1) := by decide +kernel
theorem dX9_phases_9 : decode cX9_phases 9 = .ok (.invokestatic 262, 3) := by decide +kernel
theorem dX9_phases_12 : decode cX9_phases 12 = .ok (.ifCond .eq 13, 3) := by decide +kernel
theorem dX9_phases_15 : decode cX9_phases 15 = .ok (.iload_n 3, 1) := by decide +kernel
theorem dX9_phases_16 : decode cX9_phases 16 = .ok (.i2l, 1) := by decide +kernel
theorem dX9_phases_17 : decode cX9_phases 17 = .ok (.lconst 0, 1) := by decide +kernel
theorem dX9_phases_18 : decode cX9_phases 18 = .ok (.lconst 1, 1) := by decide +kernel
theorem dX9_phases_19 : decode cX9_phases 19 = .ok (.invokestatic 45, 3) := by decide +kernel
theorem dX9_phases_22 : decode cX9_phases 22 = .ok (.ifCond .ne 9, 3) := by decide +kernel
theorem dX9_phases_25 : decode cX9_phases 25 = .ok (.aload_n 0, 1) := by decide +kernel
theorem dX9_phases_26 : decode cX9_phases 26 = .ok (.iconst 1, 1) := by decide +kernel
theorem dX9_phases_27 : decode cX9_phases 27 = .ok (.invokevirtual 103, 3) := by decide +kernel
theorem dX9_phases_30 : decode cX9_phases 30 = .ok (.ireturn, 1) := by decide +kernel
theorem dX9_phases_31 : decode cX9_phases 31 = .ok (.aload_n 0, 1) := by decide +kernel
theorem dX9_phases_32 : decode cX9_phases 32 = .ok (.getfield 32, 3) := by decide +kernel
theorem dX9_phases_35 : decode cX9_phases 35 = .ok (.iload_n 2, 1) := by decide +kernel
theorem dX9_phases_36 : decode cX9_phases 36 = .ok (.iaload, 1) := by decide +kernel
theorem dX9_phases_37 : decode cX9_phases 37 = .ok (.ifCond .ne 9, 3) := by decide +kernel
theorem dX9_phases_40 : decode cX9_phases 40 = .ok (.aload_n 0, 1) := by decide +kernel
theorem dX9_phases_41 : decode cX9_phases 41 = .ok (.iconst 2, 1) := by decide +kernel
theorem dX9_phases_42 : decode cX9_phases 42 = .ok (.invokevirtual 103, 3) := by decide +kernel
theorem dX9_phases_45 : decode cX9_phases 45 = .ok (.ireturn, 1) := by decide +kernel
theorem dX9_phases_46 : decode cX9_phases 46 = .ok (.aload_n 0, 1) := by decide +kernel
theorem dX9_phases_47 : decode cX9_phases 47 = .ok (.getfield 7, 3) := by decide +kernel
theorem dX9_phases_50 : decode cX9_phases 50 = .ok (.bipush 17, 2) := by decide +kernel
theorem dX9_phases_52 : decode cX9_phases 52 = .ok (.iaload, 1) := by decide +kernel
theorem dX9_phases_53 : decode cX9_phases 53 = .ok (.istore 4, 2) := by decide +kernel
theorem dX9_phases_55 : decode cX9_phases 55 = .ok (.iconst 0, 1) := by decide +kernel
theorem dX9_phases_56 : decode cX9_phases 56 = .ok (.istore 5, 2) := by decide +kernel
theorem dX9_phases_58 : decode cX9_phases 58 = .ok (.iconst 0, 1) := by decide +kernel
theorem dX9_phases_59 : decode cX9_phases 59 = .ok (.istore 6, 2) := by decide +kernel
theorem dX9_phases_61 : decode cX9_phases 61 = .ok (.aload_n 0, 1) := by decide +kernel
theorem dX9_phases_62 : decode cX9_phases 62 = .ok (.getfield 7, 3) := by decide +kernel
theorem dX9_phases_65 : decode cX9_phases 65 = .ok (.bipush 15, 2) := by decide +kernel
theorem dX9_phases_67 : decode cX9_phases 67 = .ok (.iaload, 1) := by decide +kernel
theorem dX9_phases_68 : decode cX9_phases 68 = .ok (.iconst 1, 1) := by decide +kernel
theorem dX9_phases_69 : decode cX9_phases 69 = .ok (.isub, 1) := by decide +kernel
theorem dX9_phases_70 : decode cX9_phases 70 = .ok (.istore 7, 2) := by decide +kernel
theorem dX9_phases_72 : decode cX9_phases 72 = .ok (.iload 7, 2) := by decide +kernel
theorem dX9_phases_74 : decode cX9_phases 74 = .ok (.ifCond .lt 34, 3) := by decide +kernel
theorem dX9_phases_77 : decode cX9_phases 77 = .ok (.aload_n 0, 1) := by decide +kernel
theorem dX9_phases_78 : decode cX9_phases 78 = .ok (.getfield 7, 3) := by decide +kernel
theorem dX9_phases_81 : decode cX9_phases 81 = .ok (.bipush 17, 2) := by decide +kernel
theorem dX9_phases_83 : decode cX9_phases 83 = .ok (.iload 7, 2) := by decide +kernel
theorem dX9_phases_85 : decode cX9_phases 85 = .ok (.iastore, 1) := by decide +kernel
theorem dX9_phases_86 : decode cX9_phases 86 = .ok (.aload_n 0, 1) := by decide +kernel
theorem dX9_phases_87 : decode cX9_phases 87 = .ok (.iload_n 1, 1) := by decide +kernel
theorem dX9_phases_88 : decode cX9_phases 88 = .ok (.iload_n 2, 1) := by decide +kernel
theorem dX9_phases_89 : decode cX9_phases 89 = .ok (.invokevirtual 265, 3) := by decide +kernel
theorem dX9_phases_92 : decode cX9_phases 92 = .ok (.ifCond .eq 10, 3) := by decide +kernel
theorem dX9_phases_95 : decode cX9_phases 95 = .ok (.iinc 5 1, 3) := by decide +kernel
theorem dX9_phases_98 : decode cX9_phases 98 = .ok (.iload 7, 2) := by decide +kernel
theorem dX9_phases_100 : decode cX9_phases 100 = .ok (.istore 6, 2) := by decide +kernel
theorem dX9_phases_102 : decode cX9_phases 102 = .ok (.iinc 7 (-1), 3) := by decide +kernel
theorem dX9_phases_105 : decode cX9_phases 105 = .ok (.goto (-33), 3) := by decide +kernel
theorem dX9_phases_108 : decode cX9_phases 108 = .ok (.aload_n 0, 1) := by decide +kernel
theorem dX9_phases_109 : decode cX9_phases 109 = .ok (.getfield 7, 3) := by decide +kernel
theorem dX9_phases_112 : decode cX9_phases 112 = .ok (.bipush 17, 2) := by decide +kernel
theorem dX9_phases_114 : decode cX9_phases 114 = .ok (.iload 4, 2) := by decide +kernel
theorem dX9_phases_116 : decode cX9_phases 116 = .ok (.iastore, 1) := by decide +kernel
theorem dX9_phases_117 : decode cX9_phases 117 = .ok (.iload 5, 2) := by decide +kernel
theorem dX9_phases_119 : decode cX9_phases 119 = .ok (.ifCond .ne 11, 3) := by decide +kernel
theorem dX9_phases_122 : decode cX9_phases 122 = .ok (.aload_n 0, 1) := by decide +kernel
theorem dX9_phases_123 : decode cX9_phases 123 = .ok (.iconst 2, 1) := by decide +kernel
theorem dX9_phases_124 : decode cX9_phases 124 = .ok (.invokevirtual 103, 3) := by decide +kernel
theorem dX9_phases_127 : decode cX9_phases 127 = .ok (.goto 14, 3) := by decide +kernel
theorem dX9_phases_130 : decode cX9_phases 130 = .ok (.iload_n 3, 1) := by decide +kernel
theorem dX9_phases_131 : decode cX9_phases 131 = .ok (.ifCond .ne 8, 3) := by decide +kernel
theorem dX9_phases_134 : decode cX9_phases 134 = .ok (.iload 6, 2) := by decide +kernel
theorem dX9_phases_136 : decode cX9_phases 136 = .ok (.goto 5, 3) := by decide +kernel
theorem dX9_phases_139 : decode cX9_phases 139 = .ok (.iload 5, 2) := by decide +kernel
theorem dX9_phases_141 : decode cX9_phases 141 = .ok (.ireturn, 1) := by decide +kernel
theorem dX9_late_0 : decode cX9_late 0 = .ok (.aload_n 0, 1) := by decide +kernel
theorem dX9_late_1 : decode cX9_late 1 = .ok (.iload_n 1, 1) := by decide +kernel
theorem dX9_late_2 : decode cX9_late 2 = .ok (.invokevirtual 153, 3) := by decide +kernel
theorem dX9_late_5 : decode cX9_late 5 = .ok (.ifCond .eq 10, 3) := by decide +kernel
theorem dX9_late_8 : decode cX9_late 8 = .ok (.iload_n 2, 1) := by decide +kernel
theorem dX9_late_9 : decode cX9_late 9 = .ok (.invokestatic 262, 3) := by decide +kernel
theorem dX9_late_12 : decode cX9_late 12 = .ok (.ifCond .ne 9, 3) := by decide +kernel
theorem dX9_late_15 : decode cX9_late 15 = .ok (.aload_n 0, 1) := by decide +kernel
theorem dX9_late_16 : decode cX9_late 16 = .ok (.iconst 1, 1) := by decide +kernel
theorem dX9_late_17 : decode cX9_late 17 = .ok (.invokevirtual 103, 3) := by decide +kernel
theorem dX9_late_20 : decode cX9_late 20 = .ok (.ireturn, 1) := by decide +kernel
theorem dX9_late_21 : decode cX9_late 21 = .ok (.aload_n 0, 1) := by decide +kernel
theorem dX9_late_22 : decode cX9_late 22 = .ok (.getfield 32, 3) := by decide +kernel
theorem dX9_late_25 : decode cX9_late 25 = .ok (.iload_n 2, 1) := by decide +kernel
theorem dX9_late_26 : decode cX9_late 26 = .ok (.iaload, 1) := by decide +kernel
theorem dX9_late_27 : decode cX9_late 27 = .ok (.ifCond .ne 9, 3) := by decide +kernel
theorem dX9_late_30 : decode cX9_late 30 = .ok (.aload_n 0, 1) := by decide +kernel
theorem dX9_late_31 : decode cX9_late 31 = .ok (.iconst 2, 1) := by decide +kernel
theorem dX9_late_32 : decode cX9_late 32 = .ok (.invokevirtual 103, 3) := by decide +kernel
theorem dX9_late_35 : decode cX9_late 35 = .ok (.ireturn, 1) := by decide +kernel
theorem dX9_late_36 : decode cX9_late 36 = .ok (.iconst (-1), 1) := by decide +kernel
theorem dX9_late_37 : decode cX9_late 37 = .ok (.istore_n 3, 1) := by decide +kernel
theorem dX9_late_38 : decode cX9_late 38 = .ok (.bipush 9, 2) := by decide +kernel
theorem dX9_late_40 : decode cX9_late 40 = .ok (.istore 4, 2) := by decide +kernel
theorem dX9_late_42 : decode cX9_late 42 = .ok (.iload 4, 2) := by decide +kernel
theorem dX9_late_44 : decode cX9_late 44 = .ok (.ifCond .lt 31, 3) := by decide +kernel
theorem dX9_late_47 : decode cX9_late 47 = .ok (.aload_n 0, 1) := by decide +kernel
theorem dX9_late_48 : decode cX9_late 48 = .ok (.iload 4, 2) := by decide +kernel
theorem dX9_late_50 : decode cX9_late 50 = .ok (.putfield 22, 3) := by decide +kernel
theorem dX9_late_53 : decode cX9_late 53 = .ok (.aload_n 0, 1) := by decide +kernel
theorem dX9_late_54 : decode cX9_late 54 = .ok (.iload_n 1, 1) := by decide +kernel
theorem dX9_late_55 : decode cX9_late 55 = .ok (.iload_n 2, 1) := by decide +kernel
theorem dX9_late_56 : decode cX9_late 56 = .ok (.invokevirtual 265, 3) := by decide +kernel
theorem dX9_late_59 : decode cX9_late 59 = .ok (.ifCond .eq 8, 3) := by decide +kernel
theorem dX9_late_62 : decode cX9_late 62 = .ok (.iload 4, 2) := by decide +kernel
theorem dX9_late_64 : decode cX9_late 64 = .ok (.goto 4, 3) := by decide +kernel
theorem dX9_late_67 : decode cX9_late 67 = .ok (.iload_n 3, 1) := by decide +kernel
theorem dX9_late_68 : decode cX9_late 68 = .ok (.istore_n 3, 1) := by decide +kernel
theorem dX9_late_69 : decode cX9_late 69 = .ok (.iinc 4 (-1), 3) := by decide +kernel
theorem dX9_late_72 : decode cX9_late 72 = .ok (.goto (-30), 3) := by decide +kernel
theorem dX9_late_75 : decode cX9_late 75 = .ok (.aload_n 0, 1) := by decide +kernel
theorem dX9_late_76 : decode cX9_late 76 = .ok (.iconst (-1), 1) := by decide +kernel
theorem dX9_late_77 : decode cX9_late 77 = .ok (.putfield 22, 3) := by decide +kernel
theorem dX9_late_80 : decode cX9_late 80 = .ok (.iload_n 3, 1) := by decide +kernel
theorem dX9_late_81 : decode cX9_late 81 = .ok (.ifCond .ge 11, 3) := by decide +kernel
theorem dX9_late_84 : decode cX9_late 84 = .ok (.aload_n 0, 1) := by decide +kernel
theorem dX9_late_85 : decode cX9_late 85 = .ok (.iconst 2, 1) := by decide +kernel
theorem dX9_late_86 : decode cX9_late 86 = .ok (.invokevirtual 103, 3) := by decide +kernel
theorem dX9_late_89 : decode cX9_late 89 = .ok (.goto 4, 3) := by decide +kernel
theorem dX9_late_92 : decode cX9_late 92 = .ok (.iload_n 3, 1) := by decide +kernel
theorem dX9_late_93 : decode cX9_late 93 = .ok (.ireturn, 1) := by decide +kernel
theorem dX9_seed_0 : decode cX9_seed 0 = .ok (.aload_n 0, 1) := by decide +kernel
theorem dX9_seed_1 : decode cX9_seed 1 = .ok (.getfield 7, 3) := by decide +kernel
theorem dX9_seed_4 : decode cX9_seed 4 = .ok (.bipush 8, 2) := by decide +kernel
theorem dX9_seed_6 : decode cX9_seed 6 = .ok (.iaload, 1) := by decide +kernel
theorem dX9_seed_7 : decode cX9_seed 7 = .ok (.istore_n 2, 1) := by decide +kernel
theorem dX9_seed_8 : decode cX9_seed 8 = .ok (.aload_n 0, 1) := by decide +kernel
theorem dX9_seed_9 : decode cX9_seed 9 = .ok (.getfield 7, 3) := by decide +kernel
theorem dX9_seed_12 : decode cX9_seed 12 = .ok (.bipush 8, 2) := by decide +kernel
theorem dX9_seed_14 : decode cX9_seed 14 = .ok (.iload_n 1, 1) := by decide +kernel
theorem dX9_seed_15 : decode cX9_seed 15 = .ok (.iastore, 1) := by decide +kernel
theorem dX9_seed_16 : decode cX9_seed 16 = .ok (.iload_n 2, 1) := by decide +kernel
theorem dX9_seed_17 : decode cX9_seed 17 = .ok (.ireturn, 1) := by decide +kernel
theorem dX9_ran_0 : decode cX9_ran 0 = .ok (.aload_n 0, 1) := by decide +kernel
theorem dX9_ran_1 : decode cX9_ran 1 = .ok (.getfield 268, 3) := by decide +kernel
theorem dX9_ran_4 : decode cX9_ran 4 = .ok (.bipush 40, 2) := by decide +kernel
theorem dX9_ran_6 : decode cX9_ran 6 = .ok (.if_icmp .ge 23, 3) := by decide +kernel
theorem dX9_ran_9 : decode cX9_ran 9 = .ok (.aload_n 0, 1) := by decide +kernel
theorem dX9_ran_10 : decode cX9_ran 10 = .ok (.getfield 29, 3) := by decide +kernel
theorem dX9_ran_13 : decode cX9_ran 13 = .ok (.aload_n 0, 1) := by decide +kernel
theorem dX9_ran_14 : decode cX9_ran 14 = .ok (.getfield 268, 3) := by decide +kernel
theorem dX9_ran_17 : decode cX9_ran 17 = .ok (.iload_n 1, 1) := by decide +kernel
theorem dX9_ran_18 : decode cX9_ran 18 = .ok (.iastore, 1) := by decide +kernel
theorem dX9_ran_19 : decode cX9_ran 19 = .ok (.aload_n 0, 1) := by decide +kernel
theorem dX9_ran_20 : decode cX9_ran 20 = .ok (.dup, 1) := by decide +kernel
theorem dX9_ran_21 : decode cX9_ran 21 = .ok (.getfield 268, 3) := by decide +kernel
theorem dX9_ran_24 : decode cX9_ran 24 = .ok (.iconst 1, 1) := by decide +kernel
theorem dX9_ran_25 : decode cX9_ran 25 = .ok (.iadd, 1) := by decide +kernel
theorem dX9_ran_26 : decode cX9_ran 26 = .ok (.putfield 268, 3) := by decide +kernel
theorem dX9_ran_29 : decode cX9_ran 29 = .ok (.return_, 1) := by decide +kernel
theorem dX9_own_0 : decode cX9_own 0 = .ok (.aload_n 0, 1) := by decide +kernel
theorem dX9_own_1 : decode cX9_own 1 = .ok (.aload_n 0, 1) := by decide +kernel
theorem dX9_own_2 : decode cX9_own 2 = .ok (.getfield 271, 3) := by decide +kernel
theorem dX9_own_5 : decode cX9_own 5 = .ok (.iconst 0, 1) := by decide +kernel
theorem dX9_own_6 : decode cX9_own 6 = .ok (.invokevirtual 144, 3) := by decide +kernel
theorem dX9_own_9 : decode cX9_own 9 = .ok (.ireturn, 1) := by decide +kernel
theorem dX9_swingsBy_0 : decode cX9_swingsBy 0 = .ok (.iload_n 1, 1) := by decide +kernel
theorem dX9_swingsBy_1 : decode cX9_swingsBy 1 = .ok (.lookupswitch 58 #[(0, 27), (1, 40)], 27) := by decide +kernel
theorem dX9_swingsBy_28 : decode cX9_swingsBy 28 = .ok (.aload_n 0, 1) := by decide +kernel
theorem dX9_swingsBy_29 : decode cX9_swingsBy 29 = .ok (.bipush 10, 2) := by decide +kernel
theorem dX9_swingsBy_31 : decode cX9_swingsBy 31 = .ok (.invokevirtual 274, 3) := by decide +kernel
theorem dX9_swingsBy_34 : decode cX9_swingsBy 34 = .ok (.iload_n 2, 1) := by decide +kernel
theorem dX9_swingsBy_35 : decode cX9_swingsBy 35 = .ok (.aload_n 0, 1) := by decide +kernel
theorem dX9_swingsBy_36 : decode cX9_swingsBy 36 = .ok (.getfield 271, 3) := by decide +kernel
theorem dX9_swingsBy_39 : decode cX9_swingsBy 39 = .ok (.iadd, 1) := by decide +kernel
theorem dX9_swingsBy_40 : decode cX9_swingsBy 40 = .ok (.ireturn, 1) := by decide +kernel
theorem dX9_swingsBy_41 : decode cX9_swingsBy 41 = .ok (.aload_n 0, 1) := by decide +kernel
theorem dX9_swingsBy_42 : decode cX9_swingsBy 42 = .ok (.bipush 20, 2) := by decide +kernel
theorem dX9_swingsBy_44 : decode cX9_swingsBy 44 = .ok (.invokevirtual 274, 3) := by decide +kernel
theorem dX9_swingsBy_47 : decode cX9_swingsBy 47 = .ok (.aload_n 0, 1) := by decide +kernel
theorem dX9_swingsBy_48 : decode cX9_swingsBy 48 = .ok (.iconst 1, 1) := by decide +kernel
theorem dX9_swingsBy_49 : decode cX9_swingsBy 49 = .ok (.invokestatic 167, 3) := by decide +kernel
theorem dX9_swingsBy_52 : decode cX9_swingsBy 52 = .ok (.iload_n 2, 1) := by decide +kernel
theorem dX9_swingsBy_53 : decode cX9_swingsBy 53 = .ok (.invokevirtual 278, 3) := by decide +kernel
theorem dX9_swingsBy_56 : decode cX9_swingsBy 56 = .ok (.iconst 3, 1) := by decide +kernel
theorem dX9_swingsBy_57 : decode cX9_swingsBy 57 = .ok (.imul, 1) := by decide +kernel
theorem dX9_swingsBy_58 : decode cX9_swingsBy 58 = .ok (.ireturn, 1) := by decide +kernel
theorem dX9_swingsBy_59 : decode cX9_swingsBy 59 = .ok (.aload_n 0, 1) := by decide +kernel
theorem dX9_swingsBy_60 : decode cX9_swingsBy 60 = .ok (.iload_n 1, 1) := by decide +kernel
theorem dX9_swingsBy_61 : decode cX9_swingsBy 61 = .ok (.invokestatic 167, 3) := by decide +kernel
theorem dX9_swingsBy_64 : decode cX9_swingsBy 64 = .ok (.iload_n 2, 1) := by decide +kernel
theorem dX9_swingsBy_65 : decode cX9_swingsBy 65 = .ok (.invokevirtual 278, 3) := by decide +kernel
theorem dX9_swingsBy_68 : decode cX9_swingsBy 68 = .ok (.ireturn, 1) := by decide +kernel
theorem dX9_fliesBy_0 : decode cX9_fliesBy 0 = .ok (.iload_n 1, 1) := by decide +kernel
theorem dX9_fliesBy_1 : decode cX9_fliesBy 1 = .ok (.lookupswitch 99 #[(0, 35), (2, 53), (5, 81)], 35) := by decide +kernel
theorem dX9_fliesBy_36 : decode cX9_fliesBy 36 = .ok (.aload_n 0, 1) := by decide +kernel
theorem dX9_fliesBy_37 : decode cX9_fliesBy 37 = .ok (.bipush 11, 2) := by decide +kernel
theorem dX9_fliesBy_39 : decode cX9_fliesBy 39 = .ok (.invokevirtual 274, 3) := by decide +kernel
theorem dX9_fliesBy_42 : decode cX9_fliesBy 42 = .ok (.aload_n 0, 1) := by decide +kernel
theorem dX9_fliesBy_43 : decode cX9_fliesBy 43 = .ok (.aload_n 0, 1) := by decide +kernel
theorem dX9_fliesBy_44 : decode cX9_fliesBy 44 = .ok (.invokevirtual 281, 3) := by decide +kernel
theorem dX9_fliesBy_47 : decode cX9_fliesBy 47 = .ok (.iload_n 2, 1) := by decide +kernel
theorem dX9_fliesBy_48 : decode cX9_fliesBy 48 = .ok (.invokevirtual 278, 3) := by decide +kernel
theorem dX9_fliesBy_51 : decode cX9_fliesBy 51 = .ok (.iconst 2, 1) := by decide +kernel
theorem dX9_fliesBy_52 : decode cX9_fliesBy 52 = .ok (.imul, 1) := by decide +kernel
theorem dX9_fliesBy_53 : decode cX9_fliesBy 53 = .ok (.ireturn, 1) := by decide +kernel
theorem dX9_fliesBy_54 : decode cX9_fliesBy 54 = .ok (.aload_n 0, 1) := by decide +kernel
theorem dX9_fliesBy_55 : decode cX9_fliesBy 55 = .ok (.bipush 30, 2) := by decide +kernel
theorem dX9_fliesBy_57 : decode cX9_fliesBy 57 = .ok (.invokevirtual 274, 3) := by decide +kernel
theorem dX9_fliesBy_60 : decode cX9_fliesBy 60 = .ok (.aload_n 0, 1) := by decide +kernel
theorem dX9_fliesBy_61 : decode cX9_fliesBy 61 = .ok (.iconst 2, 1) := by decide +kernel
theorem dX9_fliesBy_62 : decode cX9_fliesBy 62 = .ok (.invokestatic 167, 3) := by decide +kernel
theorem dX9_fliesBy_65 : decode cX9_fliesBy 65 = .ok (.iload_n 2, 1) := by decide +kernel
theorem dX9_fliesBy_66 : decode cX9_fliesBy 66 = .ok (.invokevirtual 284, 3) := by decide +kernel
theorem dX9_fliesBy_69 : decode cX9_fliesBy 69 = .ok (.istore_n 3, 1) := by decide +kernel
theorem dX9_fliesBy_70 : decode cX9_fliesBy 70 = .ok (.iload_n 3, 1) := by decide +kernel
theorem dX9_fliesBy_71 : decode cX9_fliesBy 71 = .ok (.aload_n 0, 1) := by decide +kernel
theorem dX9_fliesBy_72 : decode cX9_fliesBy 72 = .ok (.aload_n 0, 1) := by decide +kernel
theorem dX9_fliesBy_73 : decode cX9_fliesBy 73 = .ok (.invokevirtual 281, 3) := by decide +kernel
theorem dX9_fliesBy_76 : decode cX9_fliesBy 76 = .ok (.iconst 1, 1) := by decide +kernel
theorem dX9_fliesBy_77 : decode cX9_fliesBy 77 = .ok (.invokevirtual 287, 3) := by decide +kernel
theorem dX9_fliesBy_80 : decode cX9_fliesBy 80 = .ok (.isub, 1) := by decide +kernel
theorem dX9_fliesBy_81 : decode cX9_fliesBy 81 = .ok (.ireturn, 1) := by decide +kernel
theorem dX9_fliesBy_82 : decode cX9_fliesBy 82 = .ok (.aload_n 0, 1) := by decide +kernel
theorem dX9_fliesBy_83 : decode cX9_fliesBy 83 = .ok (.bipush 60, 2) := by decide +kernel
theorem dX9_fliesBy_85 : decode cX9_fliesBy 85 = .ok (.invokevirtual 274, 3) := by decide +kernel
theorem dX9_fliesBy_88 : decode cX9_fliesBy 88 = .ok (.aload_n 0, 1) := by decide +kernel
theorem dX9_fliesBy_89 : decode cX9_fliesBy 89 = .ok (.iconst 5, 1) := by decide +kernel
theorem dX9_fliesBy_90 : decode cX9_fliesBy 90 = .ok (.invokestatic 167, 3) := by decide +kernel
theorem dX9_fliesBy_93 : decode cX9_fliesBy 93 = .ok (.iload_n 2, 1) := by decide +kernel
theorem dX9_fliesBy_94 : decode cX9_fliesBy 94 = .ok (.iconst 1, 1) := by decide +kernel
theorem dX9_fliesBy_95 : decode cX9_fliesBy 95 = .ok (.iadd, 1) := by decide +kernel
theorem dX9_fliesBy_96 : decode cX9_fliesBy 96 = .ok (.invokevirtual 284, 3) := by decide +kernel
theorem dX9_fliesBy_99 : decode cX9_fliesBy 99 = .ok (.ireturn, 1) := by decide +kernel
theorem dX9_fliesBy_100 : decode cX9_fliesBy 100 = .ok (.aload_n 0, 1) := by decide +kernel
theorem dX9_fliesBy_101 : decode cX9_fliesBy 101 = .ok (.iload_n 1, 1) := by decide +kernel
theorem dX9_fliesBy_102 : decode cX9_fliesBy 102 = .ok (.invokestatic 167, 3) := by decide +kernel
theorem dX9_fliesBy_105 : decode cX9_fliesBy 105 = .ok (.iload_n 2, 1) := by decide +kernel
theorem dX9_fliesBy_106 : decode cX9_fliesBy 106 = .ok (.invokevirtual 284, 3) := by decide +kernel
theorem dX9_fliesBy_109 : decode cX9_fliesBy 109 = .ok (.ireturn, 1) := by decide +kernel
theorem dX9_fallsBy_0 : decode cX9_fallsBy 0 = .ok (.iload_n 1, 1) := by decide +kernel
theorem dX9_fallsBy_1 : decode cX9_fallsBy 1 = .ok (.lookupswitch 92 #[(0, 35), (3, 53), (6, 70)], 35) := by decide +kernel
theorem dX9_fallsBy_36 : decode cX9_fallsBy 36 = .ok (.aload_n 0, 1) := by decide +kernel
theorem dX9_fallsBy_37 : decode cX9_fallsBy 37 = .ok (.bipush 12, 2) := by decide +kernel
theorem dX9_fallsBy_39 : decode cX9_fallsBy 39 = .ok (.invokevirtual 274, 3) := by decide +kernel
theorem dX9_fallsBy_42 : decode cX9_fallsBy 42 = .ok (.iload_n 2, 1) := by decide +kernel
theorem dX9_fallsBy_43 : decode cX9_fallsBy 43 = .ok (.aload_n 0, 1) := by decide +kernel
theorem dX9_fallsBy_44 : decode cX9_fallsBy 44 = .ok (.aload_n 0, 1) := by decide +kernel
theorem dX9_fallsBy_45 : decode cX9_fallsBy 45 = .ok (.getfield 271, 3) := by decide +kernel
theorem dX9_fallsBy_48 : decode cX9_fallsBy 48 = .ok (.iconst 1, 1) := by decide +kernel
theorem dX9_fallsBy_49 : decode cX9_fallsBy 49 = .ok (.invokevirtual 144, 3) := by decide +kernel
theorem dX9_fallsBy_52 : decode cX9_fallsBy 52 = .ok (.isub, 1) := by decide +kernel
theorem dX9_fallsBy_53 : decode cX9_fallsBy 53 = .ok (.ireturn, 1) := by decide +kernel
theorem dX9_fallsBy_54 : decode cX9_fallsBy 54 = .ok (.aload_n 0, 1) := by decide +kernel
theorem dX9_fallsBy_55 : decode cX9_fallsBy 55 = .ok (.bipush 40, 2) := by decide +kernel
theorem dX9_fallsBy_57 : decode cX9_fallsBy 57 = .ok (.invokevirtual 274, 3) := by decide +kernel
theorem dX9_fallsBy_60 : decode cX9_fallsBy 60 = .ok (.aload_n 0, 1) := by decide +kernel
theorem dX9_fallsBy_61 : decode cX9_fallsBy 61 = .ok (.iconst 3, 1) := by decide +kernel
theorem dX9_fallsBy_62 : decode cX9_fallsBy 62 = .ok (.invokestatic 167, 3) := by decide +kernel
theorem dX9_fallsBy_65 : decode cX9_fallsBy 65 = .ok (.iload_n 2, 1) := by decide +kernel
theorem dX9_fallsBy_66 : decode cX9_fallsBy 66 = .ok (.invokevirtual 287, 3) := by decide +kernel
theorem dX9_fallsBy_69 : decode cX9_fallsBy 69 = .ok (.ineg, 1) := by decide +kernel
theorem dX9_fallsBy_70 : decode cX9_fallsBy 70 = .ok (.ireturn, 1) := by decide +kernel
theorem dX9_fallsBy_71 : decode cX9_fallsBy 71 = .ok (.aload_n 0, 1) := by decide +kernel
theorem dX9_fallsBy_72 : decode cX9_fallsBy 72 = .ok (.bipush 70, 2) := by decide +kernel
theorem dX9_fallsBy_74 : decode cX9_fallsBy 74 = .ok (.invokevirtual 274, 3) := by decide +kernel
theorem dX9_fallsBy_77 : decode cX9_fallsBy 77 = .ok (.aload_n 0, 1) := by decide +kernel
theorem dX9_fallsBy_78 : decode cX9_fallsBy 78 = .ok (.bipush 6, 2) := by decide +kernel
theorem dX9_fallsBy_80 : decode cX9_fallsBy 80 = .ok (.invokestatic 167, 3) := by decide +kernel
theorem dX9_fallsBy_83 : decode cX9_fallsBy 83 = .ok (.iload_n 2, 1) := by decide +kernel
theorem dX9_fallsBy_84 : decode cX9_fallsBy 84 = .ok (.invokevirtual 287, 3) := by decide +kernel
theorem dX9_fallsBy_87 : decode cX9_fallsBy 87 = .ok (.aload_n 0, 1) := by decide +kernel
theorem dX9_fallsBy_88 : decode cX9_fallsBy 88 = .ok (.getfield 271, 3) := by decide +kernel
theorem dX9_fallsBy_91 : decode cX9_fallsBy 91 = .ok (.ixor, 1) := by decide +kernel
theorem dX9_fallsBy_92 : decode cX9_fallsBy 92 = .ok (.ireturn, 1) := by decide +kernel
theorem dX9_fallsBy_93 : decode cX9_fallsBy 93 = .ok (.aload_n 0, 1) := by decide +kernel
theorem dX9_fallsBy_94 : decode cX9_fallsBy 94 = .ok (.iload_n 1, 1) := by decide +kernel
theorem dX9_fallsBy_95 : decode cX9_fallsBy 95 = .ok (.invokestatic 167, 3) := by decide +kernel
theorem dX9_fallsBy_98 : decode cX9_fallsBy 98 = .ok (.iload_n 2, 1) := by decide +kernel
theorem dX9_fallsBy_99 : decode cX9_fallsBy 99 = .ok (.invokevirtual 287, 3) := by decide +kernel
theorem dX9_fallsBy_102 : decode cX9_fallsBy 102 = .ok (.ireturn, 1) := by decide +kernel
theorem dX9_tellsBy_0 : decode cX9_tellsBy 0 = .ok (.iload_n 1, 1) := by decide +kernel
theorem dX9_tellsBy_1 : decode cX9_tellsBy 1 = .ok (.lookupswitch 120 #[(0, 35), (4, 63), (6, 91)], 35) := by decide +kernel
theorem dX9_tellsBy_36 : decode cX9_tellsBy 36 = .ok (.aload_n 0, 1) := by decide +kernel
theorem dX9_tellsBy_37 : decode cX9_tellsBy 37 = .ok (.bipush 13, 2) := by decide +kernel
theorem dX9_tellsBy_39 : decode cX9_tellsBy 39 = .ok (.invokevirtual 274, 3) := by decide +kernel
theorem dX9_tellsBy_42 : decode cX9_tellsBy 42 = .ok (.aload_n 0, 1) := by decide +kernel
theorem dX9_tellsBy_43 : decode cX9_tellsBy 43 = .ok (.aload_n 0, 1) := by decide +kernel
theorem dX9_tellsBy_44 : decode cX9_tellsBy 44 = .ok (.invokevirtual 281, 3) := by decide +kernel
theorem dX9_tellsBy_47 : decode cX9_tellsBy 47 = .ok (.iload_n 2, 1) := by decide +kernel
theorem dX9_tellsBy_48 : decode cX9_tellsBy 48 = .ok (.invokevirtual 284, 3) := by decide +kernel
theorem dX9_tellsBy_51 : decode cX9_tellsBy 51 = .ok (.istore_n 3, 1) := by decide +kernel
theorem dX9_tellsBy_52 : decode cX9_tellsBy 52 = .ok (.iload_n 3, 1) := by decide +kernel
theorem dX9_tellsBy_53 : decode cX9_tellsBy 53 = .ok (.aload_n 0, 1) := by decide +kernel
theorem dX9_tellsBy_54 : decode cX9_tellsBy 54 = .ok (.aload_n 0, 1) := by decide +kernel
theorem dX9_tellsBy_55 : decode cX9_tellsBy 55 = .ok (.invokevirtual 281, 3) := by decide +kernel
theorem dX9_tellsBy_58 : decode cX9_tellsBy 58 = .ok (.iload_n 2, 1) := by decide +kernel
theorem dX9_tellsBy_59 : decode cX9_tellsBy 59 = .ok (.invokevirtual 287, 3) := by decide +kernel
theorem dX9_tellsBy_62 : decode cX9_tellsBy 62 = .ok (.ixor, 1) := by decide +kernel
theorem dX9_tellsBy_63 : decode cX9_tellsBy 63 = .ok (.ireturn, 1) := by decide +kernel
theorem dX9_tellsBy_64 : decode cX9_tellsBy 64 = .ok (.aload_n 0, 1) := by decide +kernel
theorem dX9_tellsBy_65 : decode cX9_tellsBy 65 = .ok (.bipush 50, 2) := by decide +kernel
theorem dX9_tellsBy_67 : decode cX9_tellsBy 67 = .ok (.invokevirtual 274, 3) := by decide +kernel
theorem dX9_tellsBy_70 : decode cX9_tellsBy 70 = .ok (.aload_n 0, 1) := by decide +kernel
theorem dX9_tellsBy_71 : decode cX9_tellsBy 71 = .ok (.iconst 4, 1) := by decide +kernel
theorem dX9_tellsBy_72 : decode cX9_tellsBy 72 = .ok (.invokestatic 167, 3) := by decide +kernel
theorem dX9_tellsBy_75 : decode cX9_tellsBy 75 = .ok (.iload_n 2, 1) := by decide +kernel
theorem dX9_tellsBy_76 : decode cX9_tellsBy 76 = .ok (.invokevirtual 290, 3) := by decide +kernel
theorem dX9_tellsBy_79 : decode cX9_tellsBy 79 = .ok (.istore_n 3, 1) := by decide +kernel
theorem dX9_tellsBy_80 : decode cX9_tellsBy 80 = .ok (.iload_n 3, 1) := by decide +kernel
theorem dX9_tellsBy_81 : decode cX9_tellsBy 81 = .ok (.aload_n 0, 1) := by decide +kernel
theorem dX9_tellsBy_82 : decode cX9_tellsBy 82 = .ok (.aload_n 0, 1) := by decide +kernel
theorem dX9_tellsBy_83 : decode cX9_tellsBy 83 = .ok (.invokevirtual 281, 3) := by decide +kernel
theorem dX9_tellsBy_86 : decode cX9_tellsBy 86 = .ok (.iconst 2, 1) := by decide +kernel
theorem dX9_tellsBy_87 : decode cX9_tellsBy 87 = .ok (.invokevirtual 278, 3) := by decide +kernel
theorem dX9_tellsBy_90 : decode cX9_tellsBy 90 = .ok (.isub, 1) := by decide +kernel
theorem dX9_tellsBy_91 : decode cX9_tellsBy 91 = .ok (.ireturn, 1) := by decide +kernel
theorem dX9_tellsBy_92 : decode cX9_tellsBy 92 = .ok (.aload_n 0, 1) := by decide +kernel
theorem dX9_tellsBy_93 : decode cX9_tellsBy 93 = .ok (.bipush 71, 2) := by decide +kernel
theorem dX9_tellsBy_95 : decode cX9_tellsBy 95 = .ok (.invokevirtual 274, 3) := by decide +kernel
theorem dX9_tellsBy_98 : decode cX9_tellsBy 98 = .ok (.aload_n 0, 1) := by decide +kernel
theorem dX9_tellsBy_99 : decode cX9_tellsBy 99 = .ok (.aload_n 0, 1) := by decide +kernel
theorem dX9_tellsBy_100 : decode cX9_tellsBy 100 = .ok (.invokevirtual 281, 3) := by decide +kernel
theorem dX9_tellsBy_103 : decode cX9_tellsBy 103 = .ok (.iload_n 2, 1) := by decide +kernel
theorem dX9_tellsBy_104 : decode cX9_tellsBy 104 = .ok (.invokevirtual 284, 3) := by decide +kernel
theorem dX9_tellsBy_107 : decode cX9_tellsBy 107 = .ok (.istore_n 3, 1) := by decide +kernel
theorem dX9_tellsBy_108 : decode cX9_tellsBy 108 = .ok (.iload_n 3, 1) := by decide +kernel
theorem dX9_tellsBy_109 : decode cX9_tellsBy 109 = .ok (.aload_n 0, 1) := by decide +kernel
theorem dX9_tellsBy_110 : decode cX9_tellsBy 110 = .ok (.bipush 6, 2) := by decide +kernel
theorem dX9_tellsBy_112 : decode cX9_tellsBy 112 = .ok (.invokestatic 167, 3) := by decide +kernel
theorem dX9_tellsBy_115 : decode cX9_tellsBy 115 = .ok (.iload_n 2, 1) := by decide +kernel
theorem dX9_tellsBy_116 : decode cX9_tellsBy 116 = .ok (.invokevirtual 290, 3) := by decide +kernel
theorem dX9_tellsBy_119 : decode cX9_tellsBy 119 = .ok (.isub, 1) := by decide +kernel
theorem dX9_tellsBy_120 : decode cX9_tellsBy 120 = .ok (.ireturn, 1) := by decide +kernel
theorem dX9_tellsBy_121 : decode cX9_tellsBy 121 = .ok (.aload_n 0, 1) := by decide +kernel
theorem dX9_tellsBy_122 : decode cX9_tellsBy 122 = .ok (.iload_n 1, 1) := by decide +kernel
theorem dX9_tellsBy_123 : decode cX9_tellsBy 123 = .ok (.invokestatic 167, 3) := by decide +kernel
theorem dX9_tellsBy_126 : decode cX9_tellsBy 126 = .ok (.iload_n 2, 1) := by decide +kernel
theorem dX9_tellsBy_127 : decode cX9_tellsBy 127 = .ok (.invokevirtual 290, 3) := by decide +kernel
theorem dX9_tellsBy_130 : decode cX9_tellsBy 130 = .ok (.ireturn, 1) := by decide +kernel
theorem dX9_voice_0 : decode cX9_voice 0 = .ok (.aload_n 0, 1) := by decide +kernel
theorem dX9_voice_1 : decode cX9_voice 1 = .ok (.iload_n 1, 1) := by decide +kernel
theorem dX9_voice_2 : decode cX9_voice 2 = .ok (.invokevirtual 153, 3) := by decide +kernel
theorem dX9_voice_5 : decode cX9_voice 5 = .ok (.ifCond .eq 15, 3) := by decide +kernel
theorem dX9_voice_8 : decode cX9_voice 8 = .ok (.iload_n 2, 1) := by decide +kernel
theorem dX9_voice_9 : decode cX9_voice 9 = .ok (.i2l, 1) := by decide +kernel
theorem dX9_voice_10 : decode cX9_voice 10 = .ok (.lconst 0, 1) := by decide +kernel
theorem dX9_voice_11 : decode cX9_voice 11 = .ok (.ldc2_w 170, 3) := by decide +kernel
theorem dX9_voice_14 : decode cX9_voice 14 = .ok (.invokestatic 45, 3) := by decide +kernel
theorem dX9_voice_17 : decode cX9_voice 17 = .ok (.ifCond .ne 9, 3) := by decide +kernel
theorem dX9_voice_20 : decode cX9_voice 20 = .ok (.aload_n 0, 1) := by decide +kernel
theorem dX9_voice_21 : decode cX9_voice 21 = .ok (.iconst 1, 1) := by decide +kernel
theorem dX9_voice_22 : decode cX9_voice 22 = .ok (.invokevirtual 103, 3) := by decide +kernel
theorem dX9_voice_25 : decode cX9_voice 25 = .ok (.ireturn, 1) := by decide +kernel
theorem dX9_voice_26 : decode cX9_voice 26 = .ok (.aload_n 0, 1) := by decide +kernel
theorem dX9_voice_27 : decode cX9_voice 27 = .ok (.iconst 0, 1) := by decide +kernel
theorem dX9_voice_28 : decode cX9_voice 28 = .ok (.putfield 268, 3) := by decide +kernel
theorem dX9_voice_31 : decode cX9_voice 31 = .ok (.aload_n 0, 1) := by decide +kernel
theorem dX9_voice_32 : decode cX9_voice 32 = .ok (.iload_n 1, 1) := by decide +kernel
theorem dX9_voice_33 : decode cX9_voice 33 = .ok (.putfield 271, 3) := by decide +kernel
theorem dX9_voice_36 : decode cX9_voice 36 = .ok (.aload_n 0, 1) := by decide +kernel
theorem dX9_voice_37 : decode cX9_voice 37 = .ok (.invokevirtual 281, 3) := by decide +kernel
theorem dX9_voice_40 : decode cX9_voice 40 = .ok (.istore 4, 2) := by decide +kernel
theorem dX9_voice_42 : decode cX9_voice 42 = .ok (.iload_n 2, 1) := by decide +kernel
theorem dX9_voice_43 : decode cX9_voice 43 = .ok (.ifCond .ne 13, 3) := by decide +kernel
theorem dX9_voice_46 : decode cX9_voice 46 = .ok (.aload_n 0, 1) := by decide +kernel
theorem dX9_voice_47 : decode cX9_voice 47 = .ok (.iload 4, 2) := by decide +kernel
theorem dX9_voice_49 : decode cX9_voice 49 = .ok (.iload_n 3, 1) := by decide +kernel
theorem dX9_voice_50 : decode cX9_voice 50 = .ok (.invokevirtual 278, 3) := by decide +kernel
theorem dX9_voice_53 : decode cX9_voice 53 = .ok (.goto 40, 3) := by decide +kernel
theorem dX9_voice_56 : decode cX9_voice 56 = .ok (.iload_n 2, 1) := by decide +kernel
theorem dX9_voice_57 : decode cX9_voice 57 = .ok (.iconst 1, 1) := by decide +kernel
theorem dX9_voice_58 : decode cX9_voice 58 = .ok (.if_icmp .ne 13, 3) := by decide +kernel
theorem dX9_voice_61 : decode cX9_voice 61 = .ok (.aload_n 0, 1) := by decide +kernel
theorem dX9_voice_62 : decode cX9_voice 62 = .ok (.iload 4, 2) := by decide +kernel
theorem dX9_voice_64 : decode cX9_voice 64 = .ok (.iload_n 3, 1) := by decide +kernel
theorem dX9_voice_65 : decode cX9_voice 65 = .ok (.invokevirtual 284, 3) := by decide +kernel
theorem dX9_voice_68 : decode cX9_voice 68 = .ok (.goto 25, 3) := by decide +kernel
theorem dX9_voice_71 : decode cX9_voice 71 = .ok (.iload_n 2, 1) := by decide +kernel
theorem dX9_voice_72 : decode cX9_voice 72 = .ok (.iconst 2, 1) := by decide +kernel
theorem dX9_voice_73 : decode cX9_voice 73 = .ok (.if_icmp .ne 13, 3) := by decide +kernel
theorem dX9_voice_76 : decode cX9_voice 76 = .ok (.aload_n 0, 1) := by decide +kernel
theorem dX9_voice_77 : decode cX9_voice 77 = .ok (.iload 4, 2) := by decide +kernel
theorem dX9_voice_79 : decode cX9_voice 79 = .ok (.iload_n 3, 1) := by decide +kernel
theorem dX9_voice_80 : decode cX9_voice 80 = .ok (.invokevirtual 287, 3) := by decide +kernel
theorem dX9_voice_83 : decode cX9_voice 83 = .ok (.goto 10, 3) := by decide +kernel
theorem dX9_voice_86 : decode cX9_voice 86 = .ok (.aload_n 0, 1) := by decide +kernel
theorem dX9_voice_87 : decode cX9_voice 87 = .ok (.iload 4, 2) := by decide +kernel
theorem dX9_voice_89 : decode cX9_voice 89 = .ok (.iload_n 3, 1) := by decide +kernel
theorem dX9_voice_90 : decode cX9_voice 90 = .ok (.invokevirtual 290, 3) := by decide +kernel
theorem dX9_voice_93 : decode cX9_voice 93 = .ok (.ireturn, 1) := by decide +kernel
theorem dX9_trace_0 : decode cX9_trace 0 = .ok (.iload_n 1, 1) := by decide +kernel
theorem dX9_trace_1 : decode cX9_trace 1 = .ok (.i2l, 1) := by decide +kernel
theorem dX9_trace_2 : decode cX9_trace 2 = .ok (.lconst 0, 1) := by decide +kernel
theorem dX9_trace_3 : decode cX9_trace 3 = .ok (.aload_n 0, 1) := by decide +kernel
theorem dX9_trace_4 : decode cX9_trace 4 = .ok (.getfield 268, 3) := by decide +kernel
theorem dX9_trace_7 : decode cX9_trace 7 = .ok (.iconst 1, 1) := by decide +kernel
theorem dX9_trace_8 : decode cX9_trace 8 = .ok (.isub, 1) := by decide +kernel
theorem dX9_trace_9 : decode cX9_trace 9 = .ok (.i2l, 1) := by decide +kernel
theorem dX9_trace_10 : decode cX9_trace 10 = .ok (.invokestatic 45, 3) := by decide +kernel
theorem dX9_trace_13 : decode cX9_trace 13 = .ok (.ifCond .eq 12, 3) := by decide +kernel
theorem dX9_trace_16 : decode cX9_trace 16 = .ok (.aload_n 0, 1) := by decide +kernel
theorem dX9_trace_17 : decode cX9_trace 17 = .ok (.getfield 29, 3) := by decide +kernel
theorem dX9_trace_20 : decode cX9_trace 20 = .ok (.iload_n 1, 1) := by decide +kernel
theorem dX9_trace_21 : decode cX9_trace 21 = .ok (.iaload, 1) := by decide +kernel
theorem dX9_trace_22 : decode cX9_trace 22 = .ok (.goto 8, 3) := by decide +kernel
theorem dX9_trace_25 : decode cX9_trace 25 = .ok (.aload_n 0, 1) := by decide +kernel
theorem dX9_trace_26 : decode cX9_trace 26 = .ok (.iconst 2, 1) := by decide +kernel
theorem dX9_trace_27 : decode cX9_trace 27 = .ok (.invokevirtual 103, 3) := by decide +kernel
theorem dX9_trace_30 : decode cX9_trace 30 = .ok (.ireturn, 1) := by decide +kernel
theorem dX9_isSheet_0 : decode cX9_isSheet 0 = .ok (.iload_n 0, 1) := by decide +kernel
theorem dX9_isSheet_1 : decode cX9_isSheet 1 = .ok (.i2l, 1) := by decide +kernel
theorem dX9_isSheet_2 : decode cX9_isSheet 2 = .ok (.lconst 0, 1) := by decide +kernel
theorem dX9_isSheet_3 : decode cX9_isSheet 3 = .ok (.ldc2_w 170, 3) := by decide +kernel
theorem dX9_isSheet_6 : decode cX9_isSheet 6 = .ok (.invokestatic 45, 3) := by decide +kernel
theorem dX9_isSheet_9 : decode cX9_isSheet 9 = .ok (.ireturn, 1) := by decide +kernel
theorem dX9_sheet_0 : decode cX9_sheet 0 = .ok (.iload_n 1, 1) := by decide +kernel
theorem dX9_sheet_1 : decode cX9_sheet 1 = .ok (.invokestatic 262, 3) := by decide +kernel
theorem dX9_sheet_4 : decode cX9_sheet 4 = .ok (.ifCond .eq 25, 3) := by decide +kernel
theorem dX9_sheet_7 : decode cX9_sheet 7 = .ok (.iload_n 2, 1) := by decide +kernel
theorem dX9_sheet_8 : decode cX9_sheet 8 = .ok (.ifCond .eq 27, 3) := by decide +kernel
theorem dX9_sheet_11 : decode cX9_sheet 11 = .ok (.iload_n 2, 1) := by decide +kernel
theorem dX9_sheet_12 : decode cX9_sheet 12 = .ok (.bipush 8, 2) := by decide +kernel
theorem dX9_sheet_14 : decode cX9_sheet 14 = .ok (.if_icmp .eq 21, 3) := by decide +kernel
theorem dX9_sheet_17 : decode cX9_sheet 17 = .ok (.iload_n 2, 1) := by decide +kernel
theorem dX9_sheet_18 : decode cX9_sheet 18 = .ok (.bipush 16, 2) := by decide +kernel
theorem dX9_sheet_20 : decode cX9_sheet 20 = .ok (.if_icmp .eq 15, 3) := by decide +kernel
theorem dX9_sheet_23 : decode cX9_sheet 23 = .ok (.iload_n 2, 1) := by decide +kernel
theorem dX9_sheet_24 : decode cX9_sheet 24 = .ok (.bipush 32, 2) := by decide +kernel
theorem dX9_sheet_26 : decode cX9_sheet 26 = .ok (.if_icmp .eq 9, 3) := by decide +kernel
theorem dX9_sheet_29 : decode cX9_sheet 29 = .ok (.aload_n 0, 1) := by decide +kernel
theorem dX9_sheet_30 : decode cX9_sheet 30 = .ok (.iconst 1, 1) := by decide +kernel
theorem dX9_sheet_31 : decode cX9_sheet 31 = .ok (.invokevirtual 103, 3) := by decide +kernel
theorem dX9_sheet_34 : decode cX9_sheet 34 = .ok (.ireturn, 1) := by decide +kernel
theorem dX9_sheet_35 : decode cX9_sheet 35 = .ok (.iload_n 2, 1) := by decide +kernel
theorem dX9_sheet_36 : decode cX9_sheet 36 = .ok (.ifCond .eq 13, 3) := by decide +kernel
theorem dX9_sheet_39 : decode cX9_sheet 39 = .ok (.iload_n 3, 1) := by decide +kernel
theorem dX9_sheet_40 : decode cX9_sheet 40 = .ok (.ifCond .ge 9, 3) := by decide +kernel
theorem dX9_sheet_43 : decode cX9_sheet 43 = .ok (.aload_n 0, 1) := by decide +kernel
theorem dX9_sheet_44 : decode cX9_sheet 44 = .ok (.iconst 3, 1) := by decide +kernel
theorem dX9_sheet_45 : decode cX9_sheet 45 = .ok (.invokevirtual 103, 3) := by decide +kernel
theorem dX9_sheet_48 : decode cX9_sheet 48 = .ok (.ireturn, 1) := by decide +kernel
theorem dX9_sheet_49 : decode cX9_sheet 49 = .ok (.iload_n 2, 1) := by decide +kernel
theorem dX9_sheet_50 : decode cX9_sheet 50 = .ok (.ifCond .eq 15, 3) := by decide +kernel
theorem dX9_sheet_53 : decode cX9_sheet 53 = .ok (.iload_n 3, 1) := by decide +kernel
theorem dX9_sheet_54 : decode cX9_sheet 54 = .ok (.bipush 40, 2) := by decide +kernel
theorem dX9_sheet_56 : decode cX9_sheet 56 = .ok (.if_icmp .le 9, 3) := by decide +kernel
theorem dX9_sheet_59 : decode cX9_sheet 59 = .ok (.aload_n 0, 1) := by decide +kernel
theorem dX9_sheet_60 : decode cX9_sheet 60 = .ok (.iconst 1, 1) := by decide +kernel
theorem dX9_sheet_61 : decode cX9_sheet 61 = .ok (.invokevirtual 103, 3) := by decide +kernel
theorem dX9_sheet_64 : decode cX9_sheet 64 = .ok (.ireturn, 1) := by decide +kernel
theorem dX9_sheet_65 : decode cX9_sheet 65 = .ok (.aload_n 0, 1) := by decide +kernel
theorem dX9_sheet_66 : decode cX9_sheet 66 = .ok (.getfield 32, 3) := by decide +kernel
theorem dX9_sheet_69 : decode cX9_sheet 69 = .ok (.iload_n 1, 1) := by decide +kernel
theorem dX9_sheet_70 : decode cX9_sheet 70 = .ok (.iload_n 2, 1) := by decide +kernel
theorem dX9_sheet_71 : decode cX9_sheet 71 = .ok (.iastore, 1) := by decide +kernel
theorem dX9_sheet_72 : decode cX9_sheet 72 = .ok (.aload_n 0, 1) := by decide +kernel
theorem dX9_sheet_73 : decode cX9_sheet 73 = .ok (.getfield 35, 3) := by decide +kernel
theorem dX9_sheet_76 : decode cX9_sheet 76 = .ok (.iload_n 1, 1) := by decide +kernel
theorem dX9_sheet_77 : decode cX9_sheet 77 = .ok (.iload_n 2, 1) := by decide +kernel
theorem dX9_sheet_78 : decode cX9_sheet 78 = .ok (.ifCond .ne 7, 3) := by decide +kernel
theorem dX9_sheet_81 : decode cX9_sheet 81 = .ok (.iconst 0, 1) := by decide +kernel
theorem dX9_sheet_82 : decode cX9_sheet 82 = .ok (.goto 4, 3) := by decide +kernel
theorem dX9_sheet_85 : decode cX9_sheet 85 = .ok (.iload_n 3, 1) := by decide +kernel
theorem dX9_sheet_86 : decode cX9_sheet 86 = .ok (.iastore, 1) := by decide +kernel
theorem dX9_sheet_87 : decode cX9_sheet 87 = .ok (.iconst 0, 1) := by decide +kernel
theorem dX9_sheet_88 : decode cX9_sheet 88 = .ok (.istore 4, 2) := by decide +kernel
theorem dX9_sheet_90 : decode cX9_sheet 90 = .ok (.iload 4, 2) := by decide +kernel
theorem dX9_sheet_92 : decode cX9_sheet 92 = .ok (.bipush 40, 2) := by decide +kernel
theorem dX9_sheet_94 : decode cX9_sheet 94 = .ok (.if_icmp .ge 22, 3) := by decide +kernel
theorem dX9_sheet_97 : decode cX9_sheet 97 = .ok (.aload_n 0, 1) := by decide +kernel
theorem dX9_sheet_98 : decode cX9_sheet 98 = .ok (.getfield 38, 3) := by decide +kernel
theorem dX9_sheet_101 : decode cX9_sheet 101 = .ok (.bipush 40, 2) := by decide +kernel
theorem dX9_sheet_103 : decode cX9_sheet 103 = .ok (.iload_n 1, 1) := by decide +kernel
theorem dX9_sheet_104 : decode cX9_sheet 104 = .ok (.imul, 1) := by decide +kernel
theorem dX9_sheet_105 : decode cX9_sheet 105 = .ok (.iload 4, 2) := by decide +kernel
theorem dX9_sheet_107 : decode cX9_sheet 107 = .ok (.iadd, 1) := by decide +kernel
theorem dX9_sheet_108 : decode cX9_sheet 108 = .ok (.iconst 0, 1) := by decide +kernel
theorem dX9_sheet_109 : decode cX9_sheet 109 = .ok (.iastore, 1) := by decide +kernel
theorem dX9_sheet_110 : decode cX9_sheet 110 = .ok (.iinc 4 1, 3) := by decide +kernel
theorem dX9_sheet_113 : decode cX9_sheet 113 = .ok (.goto (-23), 3) := by decide +kernel
theorem dX9_sheet_116 : decode cX9_sheet 116 = .ok (.iconst 1, 1) := by decide +kernel
theorem dX9_sheet_117 : decode cX9_sheet 117 = .ok (.ireturn, 1) := by decide +kernel
theorem dX9_put_0 : decode cX9_put 0 = .ok (.iload_n 1, 1) := by decide +kernel
theorem dX9_put_1 : decode cX9_put 1 = .ok (.invokestatic 262, 3) := by decide +kernel
theorem dX9_put_4 : decode cX9_put 4 = .ok (.ifCond .ne 9, 3) := by decide +kernel
theorem dX9_put_7 : decode cX9_put 7 = .ok (.aload_n 0, 1) := by decide +kernel
theorem dX9_put_8 : decode cX9_put 8 = .ok (.iconst 1, 1) := by decide +kernel
theorem dX9_put_9 : decode cX9_put 9 = .ok (.invokevirtual 103, 3) := by decide +kernel
theorem dX9_put_12 : decode cX9_put 12 = .ok (.ireturn, 1) := by decide +kernel
theorem dX9_put_13 : decode cX9_put 13 = .ok (.aload_n 0, 1) := by decide +kernel
theorem dX9_put_14 : decode cX9_put 14 = .ok (.getfield 32, 3) := by decide +kernel
theorem dX9_put_17 : decode cX9_put 17 = .ok (.iload_n 1, 1) := by decide +kernel
theorem dX9_put_18 : decode cX9_put 18 = .ok (.iaload, 1) := by decide +kernel
theorem dX9_put_19 : decode cX9_put 19 = .ok (.ifCond .ne 9, 3) := by decide +kernel
theorem dX9_put_22 : decode cX9_put 22 = .ok (.aload_n 0, 1) := by decide +kernel
theorem dX9_put_23 : decode cX9_put 23 = .ok (.iconst 2, 1) := by decide +kernel
theorem dX9_put_24 : decode cX9_put 24 = .ok (.invokevirtual 103, 3) := by decide +kernel
theorem dX9_put_27 : decode cX9_put 27 = .ok (.ireturn, 1) := by decide +kernel
theorem dX9_put_28 : decode cX9_put 28 = .ok (.iload_n 2, 1) := by decide +kernel
theorem dX9_put_29 : decode cX9_put 29 = .ok (.i2l, 1) := by decide +kernel
theorem dX9_put_30 : decode cX9_put 30 = .ok (.lconst 0, 1) := by decide +kernel
theorem dX9_put_31 : decode cX9_put 31 = .ok (.aload_n 0, 1) := by decide +kernel
theorem dX9_put_32 : decode cX9_put 32 = .ok (.getfield 35, 3) := by decide +kernel
theorem dX9_put_35 : decode cX9_put 35 = .ok (.iload_n 1, 1) := by decide +kernel
theorem dX9_put_36 : decode cX9_put 36 = .ok (.iaload, 1) := by decide +kernel
theorem dX9_put_37 : decode cX9_put 37 = .ok (.iconst 1, 1) := by decide +kernel
theorem dX9_put_38 : decode cX9_put 38 = .ok (.isub, 1) := by decide +kernel
theorem dX9_put_39 : decode cX9_put 39 = .ok (.i2l, 1) := by decide +kernel
theorem dX9_put_40 : decode cX9_put 40 = .ok (.invokestatic 45, 3) := by decide +kernel
theorem dX9_put_43 : decode cX9_put 43 = .ok (.ifCond .ne 9, 3) := by decide +kernel
theorem dX9_put_46 : decode cX9_put 46 = .ok (.aload_n 0, 1) := by decide +kernel
theorem dX9_put_47 : decode cX9_put 47 = .ok (.iconst 1, 1) := by decide +kernel
theorem dX9_put_48 : decode cX9_put 48 = .ok (.invokevirtual 103, 3) := by decide +kernel
theorem dX9_put_51 : decode cX9_put 51 = .ok (.ireturn, 1) := by decide +kernel
theorem dX9_put_52 : decode cX9_put 52 = .ok (.aload_n 0, 1) := by decide +kernel
theorem dX9_put_53 : decode cX9_put 53 = .ok (.getfield 38, 3) := by decide +kernel
theorem dX9_put_56 : decode cX9_put 56 = .ok (.bipush 40, 2) := by decide +kernel
theorem dX9_put_58 : decode cX9_put 58 = .ok (.iload_n 1, 1) := by decide +kernel
theorem dX9_put_59 : decode cX9_put 59 = .ok (.imul, 1) := by decide +kernel
theorem dX9_put_60 : decode cX9_put 60 = .ok (.iload_n 2, 1) := by decide +kernel
theorem dX9_put_61 : decode cX9_put 61 = .ok (.iadd, 1) := by decide +kernel
theorem dX9_put_62 : decode cX9_put 62 = .ok (.aload_n 0, 1) := by decide +kernel
theorem dX9_put_63 : decode cX9_put 63 = .ok (.getfield 32, 3) := by decide +kernel
theorem dX9_put_66 : decode cX9_put 66 = .ok (.iload_n 1, 1) := by decide +kernel
theorem dX9_put_67 : decode cX9_put 67 = .ok (.iaload, 1) := by decide +kernel
theorem dX9_put_68 : decode cX9_put 68 = .ok (.bipush 8, 2) := by decide +kernel
theorem dX9_put_70 : decode cX9_put 70 = .ok (.if_icmp .ne 8, 3) := by decide +kernel
theorem dX9_put_73 : decode cX9_put 73 = .ok (.iload_n 3, 1) := by decide +kernel
theorem dX9_put_74 : decode cX9_put 74 = .ok (.i2b, 1) := by decide +kernel
theorem dX9_put_75 : decode cX9_put 75 = .ok (.goto 20, 3) := by decide +kernel
theorem dX9_put_78 : decode cX9_put 78 = .ok (.aload_n 0, 1) := by decide +kernel
theorem dX9_put_79 : decode cX9_put 79 = .ok (.getfield 32, 3) := by decide +kernel
theorem dX9_put_82 : decode cX9_put 82 = .ok (.iload_n 1, 1) := by decide +kernel
theorem dX9_put_83 : decode cX9_put 83 = .ok (.iaload, 1) := by decide +kernel
theorem dX9_put_84 : decode cX9_put 84 = .ok (.bipush 16, 2) := by decide +kernel
theorem dX9_put_86 : decode cX9_put 86 = .ok (.if_icmp .ne 8, 3) := by decide +kernel
theorem dX9_put_89 : decode cX9_put 89 = .ok (.iload_n 3, 1) := by decide +kernel
theorem dX9_put_90 : decode cX9_put 90 = .ok (.i2s, 1) := by decide +kernel
theorem dX9_put_91 : decode cX9_put 91 = .ok (.goto 4, 3) := by decide +kernel
theorem dX9_put_94 : decode cX9_put 94 = .ok (.iload_n 3, 1) := by decide +kernel
theorem dX9_put_95 : decode cX9_put 95 = .ok (.iastore, 1) := by decide +kernel
theorem dX9_put_96 : decode cX9_put 96 = .ok (.iconst 1, 1) := by decide +kernel
theorem dX9_put_97 : decode cX9_put 97 = .ok (.ireturn, 1) := by decide +kernel
theorem dX9_move_0 : decode cX9_move 0 = .ok (.iload_n 1, 1) := by decide +kernel
theorem dX9_move_1 : decode cX9_move 1 = .ok (.invokestatic 262, 3) := by decide +kernel
theorem dX9_move_4 : decode cX9_move 4 = .ok (.ifCond .eq 10, 3) := by decide +kernel
theorem dX9_move_7 : decode cX9_move 7 = .ok (.iload_n 3, 1) := by decide +kernel
theorem dX9_move_8 : decode cX9_move 8 = .ok (.invokestatic 262, 3) := by decide +kernel
theorem dX9_move_11 : decode cX9_move 11 = .ok (.ifCond .ne 9, 3) := by decide +kernel
theorem dX9_move_14 : decode cX9_move 14 = .ok (.aload_n 0, 1) := by decide +kernel
theorem dX9_move_15 : decode cX9_move 15 = .ok (.iconst 1, 1) := by decide +kernel
theorem dX9_move_16 : decode cX9_move 16 = .ok (.invokevirtual 103, 3) := by decide +kernel
theorem dX9_move_19 : decode cX9_move 19 = .ok (.ireturn, 1) := by decide +kernel
theorem dX9_move_20 : decode cX9_move 20 = .ok (.aload_n 0, 1) := by decide +kernel
theorem dX9_move_21 : decode cX9_move 21 = .ok (.getfield 32, 3) := by decide +kernel
theorem dX9_move_24 : decode cX9_move 24 = .ok (.iload_n 1, 1) := by decide +kernel
theorem dX9_move_25 : decode cX9_move 25 = .ok (.iaload, 1) := by decide +kernel
theorem dX9_move_26 : decode cX9_move 26 = .ok (.ifCond .eq 12, 3) := by decide +kernel
theorem dX9_move_29 : decode cX9_move 29 = .ok (.aload_n 0, 1) := by decide +kernel
theorem dX9_move_30 : decode cX9_move 30 = .ok (.getfield 32, 3) := by decide +kernel
theorem dX9_move_33 : decode cX9_move 33 = .ok (.iload_n 3, 1) := by decide +kernel
theorem dX9_move_34 : decode cX9_move 34 = .ok (.iaload, 1) := by decide +kernel
theorem dX9_move_35 : decode cX9_move 35 = .ok (.ifCond .ne 9, 3) := by decide +kernel
theorem dX9_move_38 : decode cX9_move 38 = .ok (.aload_n 0, 1) := by decide +kernel
theorem dX9_move_39 : decode cX9_move 39 = .ok (.iconst 2, 1) := by decide +kernel
theorem dX9_move_40 : decode cX9_move 40 = .ok (.invokevirtual 103, 3) := by decide +kernel
theorem dX9_move_43 : decode cX9_move 43 = .ok (.ireturn, 1) := by decide +kernel
theorem dX9_move_44 : decode cX9_move 44 = .ok (.aload_n 0, 1) := by decide +kernel
theorem dX9_move_45 : decode cX9_move 45 = .ok (.getfield 32, 3) := by decide +kernel
theorem dX9_move_48 : decode cX9_move 48 = .ok (.iload_n 1, 1) := by decide +kernel
theorem dX9_move_49 : decode cX9_move 49 = .ok (.iaload, 1) := by decide +kernel
theorem dX9_move_50 : decode cX9_move 50 = .ok (.aload_n 0, 1) := by decide +kernel
theorem dX9_move_51 : decode cX9_move 51 = .ok (.getfield 32, 3) := by decide +kernel
theorem dX9_move_54 : decode cX9_move 54 = .ok (.iload_n 3, 1) := by decide +kernel
theorem dX9_move_55 : decode cX9_move 55 = .ok (.iaload, 1) := by decide +kernel
theorem dX9_move_56 : decode cX9_move 56 = .ok (.if_icmp .eq 9, 3) := by decide +kernel
theorem dX9_move_59 : decode cX9_move 59 = .ok (.aload_n 0, 1) := by decide +kernel
theorem dX9_move_60 : decode cX9_move 60 = .ok (.iconst 5, 1) := by decide +kernel
theorem dX9_move_61 : decode cX9_move 61 = .ok (.invokevirtual 103, 3) := by decide +kernel
theorem dX9_move_64 : decode cX9_move 64 = .ok (.ireturn, 1) := by decide +kernel
theorem dX9_move_65 : decode cX9_move 65 = .ok (.iload 5, 2) := by decide +kernel
theorem dX9_move_67 : decode cX9_move 67 = .ok (.ifCond .lt 39, 3) := by decide +kernel
theorem dX9_move_70 : decode cX9_move 70 = .ok (.iload_n 2, 1) := by decide +kernel
theorem dX9_move_71 : decode cX9_move 71 = .ok (.ifCond .lt 35, 3) := by decide +kernel
theorem dX9_move_74 : decode cX9_move 74 = .ok (.iload 4, 2) := by decide +kernel
theorem dX9_move_76 : decode cX9_move 76 = .ok (.ifCond .lt 30, 3) := by decide +kernel
theorem dX9_move_79 : decode cX9_move 79 = .ok (.iload 5, 2) := by decide +kernel
theorem dX9_move_81 : decode cX9_move 81 = .ok (.aload_n 0, 1) := by decide +kernel
theorem dX9_move_82 : decode cX9_move 82 = .ok (.getfield 35, 3) := by decide +kernel
theorem dX9_move_85 : decode cX9_move 85 = .ok (.iload_n 1, 1) := by decide +kernel
theorem dX9_move_86 : decode cX9_move 86 = .ok (.iaload, 1) := by decide +kernel
theorem dX9_move_87 : decode cX9_move 87 = .ok (.iload_n 2, 1) := by decide +kernel
theorem dX9_move_88 : decode cX9_move 88 = .ok (.isub, 1) := by decide +kernel
theorem dX9_move_89 : decode cX9_move 89 = .ok (.if_icmp .gt 17, 3) := by decide +kernel
theorem dX9_move_92 : decode cX9_move 92 = .ok (.iload 5, 2) := by decide +kernel
theorem dX9_move_94 : decode cX9_move 94 = .ok (.aload_n 0, 1) := by decide +kernel
theorem dX9_move_95 : decode cX9_move 95 = .ok (.getfield 35, 3) := by decide +kernel
theorem dX9_move_98 : decode cX9_move 98 = .ok (.iload_n 3, 1) := by decide +kernel
theorem dX9_move_99 : decode cX9_move 99 = .ok (.iaload, 1) := by decide +kernel
theorem dX9_move_100 : decode cX9_move 100 = .ok (.iload 4, 2) := by decide +kernel
theorem dX9_move_102 : decode cX9_move 102 = .ok (.isub, 1) := by decide +kernel
theorem dX9_move_103 : decode cX9_move 103 = .ok (.if_icmp .le 9, 3) := by decide +kernel
theorem dX9_move_106 : decode cX9_move 106 = .ok (.aload_n 0, 1) := by decide +kernel
theorem dX9_move_107 : decode cX9_move 107 = .ok (.iconst 1, 1) := by decide +kernel
theorem dX9_move_108 : decode cX9_move 108 = .ok (.invokevirtual 103, 3) := by decide +kernel
theorem dX9_move_111 : decode cX9_move 111 = .ok (.ireturn, 1) := by decide +kernel
theorem dX9_move_112 : decode cX9_move 112 = .ok (.iconst 0, 1) := by decide +kernel
theorem dX9_move_113 : decode cX9_move 113 = .ok (.istore 6, 2) := by decide +kernel
theorem dX9_move_115 : decode cX9_move 115 = .ok (.iload 6, 2) := by decide +kernel
theorem dX9_move_117 : decode cX9_move 117 = .ok (.iload 5, 2) := by decide +kernel
theorem dX9_move_119 : decode cX9_move 119 = .ok (.if_icmp .ge 30, 3) := by decide +kernel
theorem dX9_move_122 : decode cX9_move 122 = .ok (.aload_n 0, 1) := by decide +kernel
theorem dX9_move_123 : decode cX9_move 123 = .ok (.getfield 41, 3) := by decide +kernel
theorem dX9_move_126 : decode cX9_move 126 = .ok (.iload 6, 2) := by decide +kernel
theorem dX9_move_128 : decode cX9_move 128 = .ok (.aload_n 0, 1) := by decide +kernel
theorem dX9_move_129 : decode cX9_move 129 = .ok (.getfield 38, 3) := by decide +kernel
theorem dX9_move_132 : decode cX9_move 132 = .ok (.bipush 40, 2) := by decide +kernel
theorem dX9_move_134 : decode cX9_move 134 = .ok (.iload_n 1, 1) := by decide +kernel
theorem dX9_move_135 : decode cX9_move 135 = .ok (.imul, 1) := by decide +kernel
theorem dX9_move_136 : decode cX9_move 136 = .ok (.iload_n 2, 1) := by decide +kernel
theorem dX9_move_137 : decode cX9_move 137 = .ok (.iadd, 1) := by decide +kernel
theorem dX9_move_138 : decode cX9_move 138 = .ok (.iload 6, 2) := by decide +kernel
theorem dX9_move_140 : decode cX9_move 140 = .ok (.iadd, 1) := by decide +kernel
theorem dX9_move_141 : decode cX9_move 141 = .ok (.iaload, 1) := by decide +kernel
theorem dX9_move_142 : decode cX9_move 142 = .ok (.iastore, 1) := by decide +kernel
theorem dX9_move_143 : decode cX9_move 143 = .ok (.iinc 6 1, 3) := by decide +kernel
theorem dX9_move_146 : decode cX9_move 146 = .ok (.goto (-31), 3) := by decide +kernel
theorem dX9_move_149 : decode cX9_move 149 = .ok (.iconst 0, 1) := by decide +kernel
theorem dX9_move_150 : decode cX9_move 150 = .ok (.istore 6, 2) := by decide +kernel
theorem dX9_move_152 : decode cX9_move 152 = .ok (.iload 6, 2) := by decide +kernel
theorem dX9_move_154 : decode cX9_move 154 = .ok (.iload 5, 2) := by decide +kernel
theorem dX9_move_156 : decode cX9_move 156 = .ok (.if_icmp .ge 31, 3) := by decide +kernel
theorem dX9_move_159 : decode cX9_move 159 = .ok (.aload_n 0, 1) := by decide +kernel
theorem dX9_move_160 : decode cX9_move 160 = .ok (.getfield 38, 3) := by decide +kernel
theorem dX9_move_163 : decode cX9_move 163 = .ok (.bipush 40, 2) := by decide +kernel
theorem dX9_move_165 : decode cX9_move 165 = .ok (.iload_n 3, 1) := by decide +kernel
theorem dX9_move_166 : decode cX9_move 166 = .ok (.imul, 1) := by decide +kernel
theorem dX9_move_167 : decode cX9_move 167 = .ok (.iload 4, 2) := by decide +kernel
theorem dX9_move_169 : decode cX9_move 169 = .ok (.iadd, 1) := by decide +kernel
theorem dX9_move_170 : decode cX9_move 170 = .ok (.iload 6, 2) := by decide +kernel
theorem dX9_move_172 : decode cX9_move 172 = .ok (.iadd, 1) := by decide +kernel
theorem dX9_move_173 : decode cX9_move 173 = .ok (.aload_n 0, 1) := by decide +kernel
theorem dX9_move_174 : decode cX9_move 174 = .ok (.getfield 41, 3) := by decide +kernel
theorem dX9_move_177 : decode cX9_move 177 = .ok (.iload 6, 2) := by decide +kernel
theorem dX9_move_179 : decode cX9_move 179 = .ok (.iaload, 1) := by decide +kernel
theorem dX9_move_180 : decode cX9_move 180 = .ok (.iastore, 1) := by decide +kernel
theorem dX9_move_181 : decode cX9_move 181 = .ok (.iinc 6 1, 3) := by decide +kernel
theorem dX9_move_184 : decode cX9_move 184 = .ok (.goto (-32), 3) := by decide +kernel
theorem dX9_move_187 : decode cX9_move 187 = .ok (.iload 5, 2) := by decide +kernel
theorem dX9_move_189 : decode cX9_move 189 = .ok (.ireturn, 1) := by decide +kernel
theorem dX9_turns_0 : decode cX9_turns 0 = .ok (.iload_n 1, 1) := by decide +kernel
theorem dX9_turns_1 : decode cX9_turns 1 = .ok (.invokestatic 262, 3) := by decide +kernel
theorem dX9_turns_4 : decode cX9_turns 4 = .ok (.ifCond .ne 9, 3) := by decide +kernel
theorem dX9_turns_7 : decode cX9_turns 7 = .ok (.aload_n 0, 1) := by decide +kernel
theorem dX9_turns_8 : decode cX9_turns 8 = .ok (.iconst 1, 1) := by decide +kernel
theorem dX9_turns_9 : decode cX9_turns 9 = .ok (.invokevirtual 103, 3) := by decide +kernel
theorem dX9_turns_12 : decode cX9_turns 12 = .ok (.ireturn, 1) := by decide +kernel
theorem dX9_turns_13 : decode cX9_turns 13 = .ok (.aload_n 0, 1) := by decide +kernel
theorem dX9_turns_14 : decode cX9_turns 14 = .ok (.getfield 32, 3) := by decide +kernel
theorem dX9_turns_17 : decode cX9_turns 17 = .ok (.iload_n 1, 1) := by decide +kernel
theorem dX9_turns_18 : decode cX9_turns 18 = .ok (.iaload, 1) := by decide +kernel
theorem dX9_turns_19 : decode cX9_turns 19 = .ok (.ifCond .ne 9, 3) := by decide +kernel
theorem dX9_turns_22 : decode cX9_turns 22 = .ok (.aload_n 0, 1) := by decide +kernel
theorem dX9_turns_23 : decode cX9_turns 23 = .ok (.iconst 2, 1) := by decide +kernel
theorem dX9_turns_24 : decode cX9_turns 24 = .ok (.invokevirtual 103, 3) := by decide +kernel
theorem dX9_turns_27 : decode cX9_turns 27 = .ok (.ireturn, 1) := by decide +kernel
theorem dX9_turns_28 : decode cX9_turns 28 = .ok (.iconst 0, 1) := by decide +kernel
theorem dX9_turns_29 : decode cX9_turns 29 = .ok (.istore_n 2, 1) := by decide +kernel
theorem dX9_turns_30 : decode cX9_turns 30 = .ok (.iload_n 2, 1) := by decide +kernel
theorem dX9_turns_31 : decode cX9_turns 31 = .ok (.aload_n 0, 1) := by decide +kernel
theorem dX9_turns_32 : decode cX9_turns 32 = .ok (.getfield 35, 3) := by decide +kernel
theorem dX9_turns_35 : decode cX9_turns 35 = .ok (.iload_n 1, 1) := by decide +kernel
theorem dX9_turns_36 : decode cX9_turns 36 = .ok (.iaload, 1) := by decide +kernel
theorem dX9_turns_37 : decode cX9_turns 37 = .ok (.if_icmp .ge 58, 3) := by decide +kernel
theorem dX9_turns_40 : decode cX9_turns 40 = .ok (.iload_n 2, 1) := by decide +kernel
theorem dX9_turns_41 : decode cX9_turns 41 = .ok (.aload_n 0, 1) := by decide +kernel
theorem dX9_turns_42 : decode cX9_turns 42 = .ok (.getfield 7, 3) := by decide +kernel
theorem dX9_turns_45 : decode cX9_turns 45 = .ok (.iconst 0, 1) := by decide +kernel
theorem dX9_turns_46 : decode cX9_turns 46 = .ok (.iaload, 1) := by decide +kernel
theorem dX9_turns_47 : decode cX9_turns 47 = .ok (.if_icmp .ge 48, 3) := by decide +kernel
theorem dX9_turns_50 : decode cX9_turns 50 = .ok (.aload_n 0, 1) := by decide +kernel
theorem dX9_turns_51 : decode cX9_turns 51 = .ok (.getfield 38, 3) := by decide +kernel
theorem dX9_turns_54 : decode cX9_turns 54 = .ok (.bipush 40, 2) := by decide +kernel
theorem dX9_turns_56 : decode cX9_turns 56 = .ok (.iload_n 1, 1) := by decide +kernel
theorem dX9_turns_57 : decode cX9_turns 57 = .ok (.imul, 1) := by decide +kernel
theorem dX9_turns_58 : decode cX9_turns 58 = .ok (.iload_n 2, 1) := by decide +kernel
theorem dX9_turns_59 : decode cX9_turns 59 = .ok (.iadd, 1) := by decide +kernel
theorem dX9_turns_60 : decode cX9_turns 60 = .ok (.iaload, 1) := by decide +kernel
theorem dX9_turns_61 : decode cX9_turns 61 = .ok (.i2l, 1) := by decide +kernel
theorem dX9_turns_62 : decode cX9_turns 62 = .ok (.lconst 1, 1) := by decide +kernel
theorem dX9_turns_63 : decode cX9_turns 63 = .ok (.ldc2_w 170, 3) := by decide +kernel
theorem dX9_turns_66 : decode cX9_turns 66 = .ok (.invokestatic 45, 3) := by decide +kernel
theorem dX9_turns_69 : decode cX9_turns 69 = .ok (.ifCond .eq 26, 3) := by decide +kernel
theorem dX9_turns_72 : decode cX9_turns 72 = .ok (.aload_n 0, 1) := by decide +kernel
theorem dX9_turns_73 : decode cX9_turns 73 = .ok (.iload_n 2, 1) := by decide +kernel
theorem dX9_turns_74 : decode cX9_turns 74 = .ok (.iconst 2, 1) := by decide +kernel
theorem dX9_turns_75 : decode cX9_turns 75 = .ok (.aload_n 0, 1) := by decide +kernel
theorem dX9_turns_76 : decode cX9_turns 76 = .ok (.getfield 38, 3) := by decide +kernel
theorem dX9_turns_79 : decode cX9_turns 79 = .ok (.bipush 40, 2) := by decide +kernel
theorem dX9_turns_81 : decode cX9_turns 81 = .ok (.iload_n 1, 1) := by decide +kernel
theorem dX9_turns_82 : decode cX9_turns 82 = .ok (.imul, 1) := by decide +kernel
theorem dX9_turns_83 : decode cX9_turns 83 = .ok (.iload_n 2, 1) := by decide +kernel
theorem dX9_turns_84 : decode cX9_turns 84 = .ok (.iadd, 1) := by decide +kernel
theorem dX9_turns_85 : decode cX9_turns 85 = .ok (.iaload, 1) := by decide +kernel
theorem dX9_turns_86 : decode cX9_turns 86 = .ok (.invokevirtual 149, 3) := by decide +kernel
theorem dX9_turns_89 : decode cX9_turns 89 = .ok (.iinc 2 1, 3) := by decide +kernel
theorem dX9_turns_92 : decode cX9_turns 92 = .ok (.goto (-62), 3) := by decide +kernel
theorem dX9_turns_95 : decode cX9_turns 95 = .ok (.iload_n 2, 1) := by decide +kernel
theorem dX9_turns_96 : decode cX9_turns 96 = .ok (.ireturn, 1) := by decide +kernel
theorem dX9_judge_0 : decode cX9_judge 0 = .ok (.iload_n 1, 1) := by decide +kernel
theorem dX9_judge_1 : decode cX9_judge 1 = .ok (.invokestatic 262, 3) := by decide +kernel
theorem dX9_judge_4 : decode cX9_judge 4 = .ok (.ifCond .ne 9, 3) := by decide +kernel
theorem dX9_judge_7 : decode cX9_judge 7 = .ok (.aload_n 0, 1) := by decide +kernel
theorem dX9_judge_8 : decode cX9_judge 8 = .ok (.iconst 1, 1) := by decide +kernel
theorem dX9_judge_9 : decode cX9_judge 9 = .ok (.invokevirtual 103, 3) := by decide +kernel
theorem dX9_judge_12 : decode cX9_judge 12 = .ok (.ireturn, 1) := by decide +kernel
theorem dX9_judge_13 : decode cX9_judge 13 = .ok (.aload_n 0, 1) := by decide +kernel
theorem dX9_judge_14 : decode cX9_judge 14 = .ok (.getfield 32, 3) := by decide +kernel
theorem dX9_judge_17 : decode cX9_judge 17 = .ok (.iload_n 1, 1) := by decide +kernel
theorem dX9_judge_18 : decode cX9_judge 18 = .ok (.iaload, 1) := by decide +kernel
theorem dX9_judge_19 : decode cX9_judge 19 = .ok (.ifCond .ne 9, 3) := by decide +kernel
theorem dX9_judge_22 : decode cX9_judge 22 = .ok (.aload_n 0, 1) := by decide +kernel
theorem dX9_judge_23 : decode cX9_judge 23 = .ok (.iconst 2, 1) := by decide +kernel
theorem dX9_judge_24 : decode cX9_judge 24 = .ok (.invokevirtual 103, 3) := by decide +kernel
theorem dX9_judge_27 : decode cX9_judge 27 = .ok (.ireturn, 1) := by decide +kernel
theorem dX9_judge_28 : decode cX9_judge 28 = .ok (.iconst 0, 1) := by decide +kernel
theorem dX9_judge_29 : decode cX9_judge 29 = .ok (.istore_n 2, 1) := by decide +kernel
theorem dX9_judge_30 : decode cX9_judge 30 = .ok (.iload_n 2, 1) := by decide +kernel
theorem dX9_judge_31 : decode cX9_judge 31 = .ok (.aload_n 0, 1) := by decide +kernel
theorem dX9_judge_32 : decode cX9_judge 32 = .ok (.getfield 35, 3) := by decide +kernel
theorem dX9_judge_35 : decode cX9_judge 35 = .ok (.iload_n 1, 1) := by decide +kernel
theorem dX9_judge_36 : decode cX9_judge 36 = .ok (.iaload, 1) := by decide +kernel
theorem dX9_judge_37 : decode cX9_judge 37 = .ok (.if_icmp .ge 39, 3) := by decide +kernel
theorem dX9_judge_40 : decode cX9_judge 40 = .ok (.iload_n 2, 1) := by decide +kernel
theorem dX9_judge_41 : decode cX9_judge 41 = .ok (.aload_n 0, 1) := by decide +kernel
theorem dX9_judge_42 : decode cX9_judge 42 = .ok (.getfield 7, 3) := by decide +kernel
theorem dX9_judge_45 : decode cX9_judge 45 = .ok (.iconst 0, 1) := by decide +kernel
theorem dX9_judge_46 : decode cX9_judge 46 = .ok (.iaload, 1) := by decide +kernel
theorem dX9_judge_47 : decode cX9_judge 47 = .ok (.if_icmp .ge 29, 3) := by decide +kernel
theorem dX9_judge_50 : decode cX9_judge 50 = .ok (.aload_n 0, 1) := by decide +kernel
theorem dX9_judge_51 : decode cX9_judge 51 = .ok (.getfield 38, 3) := by decide +kernel
theorem dX9_judge_54 : decode cX9_judge 54 = .ok (.bipush 40, 2) := by decide +kernel
theorem dX9_judge_56 : decode cX9_judge 56 = .ok (.iload_n 1, 1) := by decide +kernel
theorem dX9_judge_57 : decode cX9_judge 57 = .ok (.imul, 1) := by decide +kernel
theorem dX9_judge_58 : decode cX9_judge 58 = .ok (.iload_n 2, 1) := by decide +kernel
theorem dX9_judge_59 : decode cX9_judge 59 = .ok (.iadd, 1) := by decide +kernel
theorem dX9_judge_60 : decode cX9_judge 60 = .ok (.iaload, 1) := by decide +kernel
theorem dX9_judge_61 : decode cX9_judge 61 = .ok (.aload_n 0, 1) := by decide +kernel
theorem dX9_judge_62 : decode cX9_judge 62 = .ok (.iload_n 2, 1) := by decide +kernel
theorem dX9_judge_63 : decode cX9_judge 63 = .ok (.iconst 3, 1) := by decide +kernel
theorem dX9_judge_64 : decode cX9_judge 64 = .ok (.invokevirtual 144, 3) := by decide +kernel
theorem dX9_judge_67 : decode cX9_judge 67 = .ok (.if_icmp .ne 9, 3) := by decide +kernel
theorem dX9_judge_70 : decode cX9_judge 70 = .ok (.iinc 2 1, 3) := by decide +kernel
theorem dX9_judge_73 : decode cX9_judge 73 = .ok (.goto (-43), 3) := by decide +kernel
theorem dX9_judge_76 : decode cX9_judge 76 = .ok (.iload_n 2, 1) := by decide +kernel
theorem dX9_judge_77 : decode cX9_judge 77 = .ok (.aload_n 0, 1) := by decide +kernel
theorem dX9_judge_78 : decode cX9_judge 78 = .ok (.getfield 35, 3) := by decide +kernel
theorem dX9_judge_81 : decode cX9_judge 81 = .ok (.iload_n 1, 1) := by decide +kernel
theorem dX9_judge_82 : decode cX9_judge 82 = .ok (.iaload, 1) := by decide +kernel
theorem dX9_judge_83 : decode cX9_judge 83 = .ok (.if_icmp .ne 17, 3) := by decide +kernel
theorem dX9_judge_86 : decode cX9_judge 86 = .ok (.iload_n 2, 1) := by decide +kernel
theorem dX9_judge_87 : decode cX9_judge 87 = .ok (.aload_n 0, 1) := by decide +kernel
theorem dX9_judge_88 : decode cX9_judge 88 = .ok (.getfield 7, 3) := by decide +kernel
theorem dX9_judge_91 : decode cX9_judge 91 = .ok (.iconst 0, 1) := by decide +kernel
theorem dX9_judge_92 : decode cX9_judge 92 = .ok (.iaload, 1) := by decide +kernel
theorem dX9_judge_93 : decode cX9_judge 93 = .ok (.if_icmp .ne 7, 3) := by decide +kernel
theorem dX9_judge_96 : decode cX9_judge 96 = .ok (.iconst (-1), 1) := by decide +kernel
theorem dX9_judge_97 : decode cX9_judge 97 = .ok (.goto 4, 3) := by decide +kernel
theorem dX9_judge_100 : decode cX9_judge 100 = .ok (.iload_n 2, 1) := by decide +kernel
theorem dX9_judge_101 : decode cX9_judge 101 = .ok (.ireturn, 1) := by decide +kernel
theorem dX9_image_0 : decode cX9_image 0 = .ok (.iconst 0, 1) := by decide +kernel
theorem dX9_image_1 : decode cX9_image 1 = .ok (.istore_n 1, 1) := by decide +kernel
theorem dX9_image_2 : decode cX9_image 2 = .ok (.iload_n 1, 1) := by decide +kernel
theorem dX9_image_3 : decode cX9_image 3 = .ok (.sipush 264, 3) := by decide +kernel
theorem dX9_image_6 : decode cX9_image 6 = .ok (.if_icmp .ge 21, 3) := by decide +kernel
theorem dX9_image_9 : decode cX9_image 9 = .ok (.aload_n 0, 1) := by decide +kernel
theorem dX9_image_10 : decode cX9_image 10 = .ok (.getfield 13, 3) := by decide +kernel
theorem dX9_image_13 : decode cX9_image 13 = .ok (.iload_n 1, 1) := by decide +kernel
theorem dX9_image_14 : decode cX9_image 14 = .ok (.aload_n 0, 1) := by decide +kernel
theorem dX9_image_15 : decode cX9_image 15 = .ok (.getfield 7, 3) := by decide +kernel
theorem dX9_image_18 : decode cX9_image 18 = .ok (.iload_n 1, 1) := by decide +kernel
theorem dX9_image_19 : decode cX9_image 19 = .ok (.iaload, 1) := by decide +kernel
theorem dX9_image_20 : decode cX9_image 20 = .ok (.iastore, 1) := by decide +kernel
theorem dX9_image_21 : decode cX9_image 21 = .ok (.iinc 1 1, 3) := by decide +kernel
theorem dX9_image_24 : decode cX9_image 24 = .ok (.goto (-22), 3) := by decide +kernel
theorem dX9_image_27 : decode cX9_image 27 = .ok (.aload_n 0, 1) := by decide +kernel
theorem dX9_image_28 : decode cX9_image 28 = .ok (.dup, 1) := by decide +kernel
theorem dX9_image_29 : decode cX9_image 29 = .ok (.getfield 293, 3) := by decide +kernel
theorem dX9_image_32 : decode cX9_image 32 = .ok (.iconst 1, 1) := by decide +kernel
theorem dX9_image_33 : decode cX9_image 33 = .ok (.iadd, 1) := by decide +kernel
theorem dX9_image_34 : decode cX9_image 34 = .ok (.putfield 293, 3) := by decide +kernel
theorem dX9_image_37 : decode cX9_image 37 = .ok (.aload_n 0, 1) := by decide +kernel
theorem dX9_image_38 : decode cX9_image 38 = .ok (.getfield 293, 3) := by decide +kernel
theorem dX9_image_41 : decode cX9_image 41 = .ok (.ireturn, 1) := by decide +kernel
theorem dX9_restore_0 : decode cX9_restore 0 = .ok (.aload_n 0, 1) := by decide +kernel
theorem dX9_restore_1 : decode cX9_restore 1 = .ok (.getfield 293, 3) := by decide +kernel
theorem dX9_restore_4 : decode cX9_restore 4 = .ok (.ifCond .ne 9, 3) := by decide +kernel
theorem dX9_restore_7 : decode cX9_restore 7 = .ok (.aload_n 0, 1) := by decide +kernel
theorem dX9_restore_8 : decode cX9_restore 8 = .ok (.iconst 2, 1) := by decide +kernel
theorem dX9_restore_9 : decode cX9_restore 9 = .ok (.invokevirtual 103, 3) := by decide +kernel
theorem dX9_restore_12 : decode cX9_restore 12 = .ok (.ireturn, 1) := by decide +kernel
theorem dX9_restore_13 : decode cX9_restore 13 = .ok (.iconst 0, 1) := by decide +kernel
theorem dX9_restore_14 : decode cX9_restore 14 = .ok (.istore_n 1, 1) := by decide +kernel
theorem dX9_restore_15 : decode cX9_restore 15 = .ok (.iload_n 1, 1) := by decide +kernel
theorem dX9_restore_16 : decode cX9_restore 16 = .ok (.sipush 264, 3) := by decide +kernel
theorem dX9_restore_19 : decode cX9_restore 19 = .ok (.if_icmp .ge 21, 3) := by decide +kernel
theorem dX9_restore_22 : decode cX9_restore 22 = .ok (.aload_n 0, 1) := by decide +kernel
theorem dX9_restore_23 : decode cX9_restore 23 = .ok (.getfield 7, 3) := by decide +kernel
theorem dX9_restore_26 : decode cX9_restore 26 = .ok (.iload_n 1, 1) := by decide +kernel
theorem dX9_restore_27 : decode cX9_restore 27 = .ok (.aload_n 0, 1) := by decide +kernel
theorem dX9_restore_28 : decode cX9_restore 28 = .ok (.getfield 13, 3) := by decide +kernel
theorem dX9_restore_31 : decode cX9_restore 31 = .ok (.iload_n 1, 1) := by decide +kernel
theorem dX9_restore_32 : decode cX9_restore 32 = .ok (.iaload, 1) := by decide +kernel
theorem dX9_restore_33 : decode cX9_restore 33 = .ok (.iastore, 1) := by decide +kernel
theorem dX9_restore_34 : decode cX9_restore 34 = .ok (.iinc 1 1, 3) := by decide +kernel
theorem dX9_restore_37 : decode cX9_restore 37 = .ok (.goto (-22), 3) := by decide +kernel
theorem dX9_restore_40 : decode cX9_restore 40 = .ok (.aload_n 0, 1) := by decide +kernel
theorem dX9_restore_41 : decode cX9_restore 41 = .ok (.getfield 7, 3) := by decide +kernel
theorem dX9_restore_44 : decode cX9_restore 44 = .ok (.iconst 1, 1) := by decide +kernel
theorem dX9_restore_45 : decode cX9_restore 45 = .ok (.iaload, 1) := by decide +kernel
theorem dX9_restore_46 : decode cX9_restore 46 = .ok (.ireturn, 1) := by decide +kernel
theorem dX9_tell_0 : decode cX9_tell 0 = .ok (.aload_n 0, 1) := by decide +kernel
theorem dX9_tell_1 : decode cX9_tell 1 = .ok (.getfield 7, 3) := by decide +kernel
theorem dX9_tell_4 : decode cX9_tell 4 = .ok (.bipush 10, 2) := by decide +kernel
theorem dX9_tell_6 : decode cX9_tell 6 = .ok (.iaload, 1) := by decide +kernel
theorem dX9_tell_7 : decode cX9_tell 7 = .ok (.bipush 20, 2) := by decide +kernel
theorem dX9_tell_9 : decode cX9_tell 9 = .ok (.if_icmp .ne 9, 3) := by decide +kernel
theorem dX9_tell_12 : decode cX9_tell 12 = .ok (.aload_n 0, 1) := by decide +kernel
theorem dX9_tell_13 : decode cX9_tell 13 = .ok (.iconst 4, 1) := by decide +kernel
theorem dX9_tell_14 : decode cX9_tell 14 = .ok (.invokevirtual 103, 3) := by decide +kernel
theorem dX9_tell_17 : decode cX9_tell 17 = .ok (.ireturn, 1) := by decide +kernel
theorem dX9_tell_18 : decode cX9_tell 18 = .ok (.aload_n 0, 1) := by decide +kernel
theorem dX9_tell_19 : decode cX9_tell 19 = .ok (.getfield 7, 3) := by decide +kernel
theorem dX9_tell_22 : decode cX9_tell 22 = .ok (.bipush 92, 2) := by decide +kernel
theorem dX9_tell_24 : decode cX9_tell 24 = .ok (.aload_n 0, 1) := by decide +kernel
theorem dX9_tell_25 : decode cX9_tell 25 = .ok (.getfield 7, 3) := by decide +kernel
theorem dX9_tell_28 : decode cX9_tell 28 = .ok (.bipush 10, 2) := by decide +kernel
theorem dX9_tell_30 : decode cX9_tell 30 = .ok (.iaload, 1) := by decide +kernel
theorem dX9_tell_31 : decode cX9_tell 31 = .ok (.iadd, 1) := by decide +kernel
theorem dX9_tell_32 : decode cX9_tell 32 = .ok (.iload_n 1, 1) := by decide +kernel
theorem dX9_tell_33 : decode cX9_tell 33 = .ok (.iastore, 1) := by decide +kernel
theorem dX9_tell_34 : decode cX9_tell 34 = .ok (.aload_n 0, 1) := by decide +kernel
theorem dX9_tell_35 : decode cX9_tell 35 = .ok (.getfield 7, 3) := by decide +kernel
theorem dX9_tell_38 : decode cX9_tell 38 = .ok (.bipush 10, 2) := by decide +kernel
theorem dX9_tell_40 : decode cX9_tell 40 = .ok (.dup2, 1) := by decide +kernel
theorem dX9_tell_41 : decode cX9_tell 41 = .ok (.iaload, 1) := by decide +kernel
theorem dX9_tell_42 : decode cX9_tell 42 = .ok (.iconst 1, 1) := by decide +kernel
theorem dX9_tell_43 : decode cX9_tell 43 = .ok (.iadd, 1) := by decide +kernel
theorem dX9_tell_44 : decode cX9_tell 44 = .ok (.iastore, 1) := by decide +kernel
theorem dX9_tell_45 : decode cX9_tell 45 = .ok (.aload_n 0, 1) := by decide +kernel
theorem dX9_tell_46 : decode cX9_tell 46 = .ok (.getfield 7, 3) := by decide +kernel
theorem dX9_tell_49 : decode cX9_tell 49 = .ok (.bipush 10, 2) := by decide +kernel
theorem dX9_tell_51 : decode cX9_tell 51 = .ok (.iaload, 1) := by decide +kernel
theorem dX9_tell_52 : decode cX9_tell 52 = .ok (.ireturn, 1) := by decide +kernel
theorem dX9_check_0 : decode cX9_check 0 = .ok (.aload_n 0, 1) := by decide +kernel
theorem dX9_check_1 : decode cX9_check 1 = .ok (.getfield 7, 3) := by decide +kernel
theorem dX9_check_4 : decode cX9_check 4 = .ok (.bipush 10, 2) := by decide +kernel
theorem dX9_check_6 : decode cX9_check 6 = .ok (.iaload, 1) := by decide +kernel
theorem dX9_check_7 : decode cX9_check 7 = .ok (.istore_n 1, 1) := by decide +kernel
theorem dX9_check_8 : decode cX9_check 8 = .ok (.aload_n 0, 1) := by decide +kernel
theorem dX9_check_9 : decode cX9_check 9 = .ok (.getfield 7, 3) := by decide +kernel
theorem dX9_check_12 : decode cX9_check 12 = .ok (.bipush 10, 2) := by decide +kernel
theorem dX9_check_14 : decode cX9_check 14 = .ok (.iconst 0, 1) := by decide +kernel
theorem dX9_check_15 : decode cX9_check 15 = .ok (.iastore, 1) := by decide +kernel
theorem dX9_check_16 : decode cX9_check 16 = .ok (.iconst 0, 1) := by decide +kernel
theorem dX9_check_17 : decode cX9_check 17 = .ok (.istore_n 2, 1) := by decide +kernel
theorem dX9_check_18 : decode cX9_check 18 = .ok (.iload_n 2, 1) := by decide +kernel
theorem dX9_check_19 : decode cX9_check 19 = .ok (.iload_n 1, 1) := by decide +kernel
theorem dX9_check_20 : decode cX9_check 20 = .ok (.if_icmp .ge 38, 3) := by decide +kernel
theorem dX9_check_23 : decode cX9_check 23 = .ok (.aload_n 0, 1) := by decide +kernel
theorem dX9_check_24 : decode cX9_check 24 = .ok (.getfield 7, 3) := by decide +kernel
theorem dX9_check_27 : decode cX9_check 27 = .ok (.bipush 92, 2) := by decide +kernel
theorem dX9_check_29 : decode cX9_check 29 = .ok (.iload_n 2, 1) := by decide +kernel
theorem dX9_check_30 : decode cX9_check 30 = .ok (.iadd, 1) := by decide +kernel
theorem dX9_check_31 : decode cX9_check 31 = .ok (.iaload, 1) := by decide +kernel
theorem dX9_check_32 : decode cX9_check 32 = .ok (.aload_n 0, 1) := by decide +kernel
theorem dX9_check_33 : decode cX9_check 33 = .ok (.iconst 0, 1) := by decide +kernel
theorem dX9_check_34 : decode cX9_check 34 = .ok (.aload_n 0, 1) := by decide +kernel
theorem dX9_check_35 : decode cX9_check 35 = .ok (.getfield 7, 3) := by decide +kernel
theorem dX9_check_38 : decode cX9_check 38 = .ok (.iconst 1, 1) := by decide +kernel
theorem dX9_check_39 : decode cX9_check 39 = .ok (.iaload, 1) := by decide +kernel
theorem dX9_check_40 : decode cX9_check 40 = .ok (.iload_n 2, 1) := by decide +kernel
theorem dX9_check_41 : decode cX9_check 41 = .ok (.iadd, 1) := by decide +kernel
theorem dX9_check_42 : decode cX9_check 42 = .ok (.invokevirtual 119, 3) := by decide +kernel
theorem dX9_check_45 : decode cX9_check 45 = .ok (.if_icmp .eq 7, 3) := by decide +kernel
theorem dX9_check_48 : decode cX9_check 48 = .ok (.iconst 1, 1) := by decide +kernel
theorem dX9_check_49 : decode cX9_check 49 = .ok (.iload_n 2, 1) := by decide +kernel
theorem dX9_check_50 : decode cX9_check 50 = .ok (.iadd, 1) := by decide +kernel
theorem dX9_check_51 : decode cX9_check 51 = .ok (.ireturn, 1) := by decide +kernel
theorem dX9_check_52 : decode cX9_check 52 = .ok (.iinc 2 1, 3) := by decide +kernel
theorem dX9_check_55 : decode cX9_check 55 = .ok (.goto (-37), 3) := by decide +kernel
theorem dX9_check_58 : decode cX9_check 58 = .ok (.iconst 0, 1) := by decide +kernel
theorem dX9_check_59 : decode cX9_check 59 = .ok (.ireturn, 1) := by decide +kernel
theorem dX9_count_0 : decode cX9_count 0 = .ok (.iload_n 1, 1) := by decide +kernel
theorem dX9_count_1 : decode cX9_count 1 = .ok (.tableswitch 150 0 11 #[63, 70, 77, 84, 91, 98, 105, 113, 121, 129, 137, 142], 63) := by decide +kernel
theorem dX9_count_64 : decode cX9_count 64 = .ok (.aload_n 0, 1) := by decide +kernel
theorem dX9_count_65 : decode cX9_count 65 = .ok (.getfield 7, 3) := by decide +kernel
theorem dX9_count_68 : decode cX9_count 68 = .ok (.iconst 0, 1) := by decide +kernel
theorem dX9_count_69 : decode cX9_count 69 = .ok (.iaload, 1) := by decide +kernel
theorem dX9_count_70 : decode cX9_count 70 = .ok (.ireturn, 1) := by decide +kernel
theorem dX9_count_71 : decode cX9_count 71 = .ok (.aload_n 0, 1) := by decide +kernel
theorem dX9_count_72 : decode cX9_count 72 = .ok (.getfield 7, 3) := by decide +kernel
theorem dX9_count_75 : decode cX9_count 75 = .ok (.iconst 1, 1) := by decide +kernel
theorem dX9_count_76 : decode cX9_count 76 = .ok (.iaload, 1) := by decide +kernel
theorem dX9_count_77 : decode cX9_count 77 = .ok (.ireturn, 1) := by decide +kernel
theorem dX9_count_78 : decode cX9_count 78 = .ok (.aload_n 0, 1) := by decide +kernel
theorem dX9_count_79 : decode cX9_count 79 = .ok (.getfield 7, 3) := by decide +kernel
theorem dX9_count_82 : decode cX9_count 82 = .ok (.iconst 2, 1) := by decide +kernel
theorem dX9_count_83 : decode cX9_count 83 = .ok (.iaload, 1) := by decide +kernel
theorem dX9_count_84 : decode cX9_count 84 = .ok (.ireturn, 1) := by decide +kernel
theorem dX9_count_85 : decode cX9_count 85 = .ok (.aload_n 0, 1) := by decide +kernel
theorem dX9_count_86 : decode cX9_count 86 = .ok (.getfield 7, 3) := by decide +kernel
theorem dX9_count_89 : decode cX9_count 89 = .ok (.iconst 3, 1) := by decide +kernel
theorem dX9_count_90 : decode cX9_count 90 = .ok (.iaload, 1) := by decide +kernel
theorem dX9_count_91 : decode cX9_count 91 = .ok (.ireturn, 1) := by decide +kernel
theorem dX9_count_92 : decode cX9_count 92 = .ok (.aload_n 0, 1) := by decide +kernel
theorem dX9_count_93 : decode cX9_count 93 = .ok (.getfield 7, 3) := by decide +kernel
theorem dX9_count_96 : decode cX9_count 96 = .ok (.iconst 4, 1) := by decide +kernel
theorem dX9_count_97 : decode cX9_count 97 = .ok (.iaload, 1) := by decide +kernel
theorem dX9_count_98 : decode cX9_count 98 = .ok (.ireturn, 1) := by decide +kernel
theorem dX9_count_99 : decode cX9_count 99 = .ok (.aload_n 0, 1) := by decide +kernel
theorem dX9_count_100 : decode cX9_count 100 = .ok (.getfield 7, 3) := by decide +kernel
theorem dX9_count_103 : decode cX9_count 103 = .ok (.iconst 5, 1) := by decide +kernel
theorem dX9_count_104 : decode cX9_count 104 = .ok (.iaload, 1) := by decide +kernel
theorem dX9_count_105 : decode cX9_count 105 = .ok (.ireturn, 1) := by decide +kernel
theorem dX9_count_106 : decode cX9_count 106 = .ok (.aload_n 0, 1) := by decide +kernel
theorem dX9_count_107 : decode cX9_count 107 = .ok (.getfield 7, 3) := by decide +kernel
theorem dX9_count_110 : decode cX9_count 110 = .ok (.bipush 6, 2) := by decide +kernel
theorem dX9_count_112 : decode cX9_count 112 = .ok (.iaload, 1) := by decide +kernel
theorem dX9_count_113 : decode cX9_count 113 = .ok (.ireturn, 1) := by decide +kernel
theorem dX9_count_114 : decode cX9_count 114 = .ok (.aload_n 0, 1) := by decide +kernel
theorem dX9_count_115 : decode cX9_count 115 = .ok (.getfield 7, 3) := by decide +kernel
theorem dX9_count_118 : decode cX9_count 118 = .ok (.bipush 7, 2) := by decide +kernel
theorem dX9_count_120 : decode cX9_count 120 = .ok (.iaload, 1) := by decide +kernel
theorem dX9_count_121 : decode cX9_count 121 = .ok (.ireturn, 1) := by decide +kernel
theorem dX9_count_122 : decode cX9_count 122 = .ok (.aload_n 0, 1) := by decide +kernel
theorem dX9_count_123 : decode cX9_count 123 = .ok (.getfield 7, 3) := by decide +kernel
theorem dX9_count_126 : decode cX9_count 126 = .ok (.bipush 9, 2) := by decide +kernel
theorem dX9_count_128 : decode cX9_count 128 = .ok (.iaload, 1) := by decide +kernel
theorem dX9_count_129 : decode cX9_count 129 = .ok (.ireturn, 1) := by decide +kernel
theorem dX9_count_130 : decode cX9_count 130 = .ok (.aload_n 0, 1) := by decide +kernel
theorem dX9_count_131 : decode cX9_count 131 = .ok (.getfield 7, 3) := by decide +kernel
theorem dX9_count_134 : decode cX9_count 134 = .ok (.bipush 10, 2) := by decide +kernel
theorem dX9_count_136 : decode cX9_count 136 = .ok (.iaload, 1) := by decide +kernel
theorem dX9_count_137 : decode cX9_count 137 = .ok (.ireturn, 1) := by decide +kernel
theorem dX9_count_138 : decode cX9_count 138 = .ok (.aload_n 0, 1) := by decide +kernel
theorem dX9_count_139 : decode cX9_count 139 = .ok (.getfield 268, 3) := by decide +kernel
theorem dX9_count_142 : decode cX9_count 142 = .ok (.ireturn, 1) := by decide +kernel
theorem dX9_count_143 : decode cX9_count 143 = .ok (.aload_n 0, 1) := by decide +kernel
theorem dX9_count_144 : decode cX9_count 144 = .ok (.getfield 7, 3) := by decide +kernel
theorem dX9_count_147 : decode cX9_count 147 = .ok (.bipush 8, 2) := by decide +kernel
theorem dX9_count_149 : decode cX9_count 149 = .ok (.iaload, 1) := by decide +kernel
theorem dX9_count_150 : decode cX9_count 150 = .ok (.ireturn, 1) := by decide +kernel
theorem dX9_count_151 : decode cX9_count 151 = .ok (.aload_n 0, 1) := by decide +kernel
theorem dX9_count_152 : decode cX9_count 152 = .ok (.iconst 1, 1) := by decide +kernel
theorem dX9_count_153 : decode cX9_count 153 = .ok (.invokevirtual 103, 3) := by decide +kernel
theorem dX9_count_156 : decode cX9_count 156 = .ok (.ireturn, 1) := by decide +kernel
theorem dX9_told_0 : decode cX9_told 0 = .ok (.iload_n 1, 1) := by decide +kernel
theorem dX9_told_1 : decode cX9_told 1 = .ok (.i2l, 1) := by decide +kernel
theorem dX9_told_2 : decode cX9_told 2 = .ok (.lconst 1, 1) := by decide +kernel
theorem dX9_told_3 : decode cX9_told 3 = .ok (.ldc2_w 296, 3) := by decide +kernel
theorem dX9_told_6 : decode cX9_told 6 = .ok (.invokestatic 45, 3) := by decide +kernel
theorem dX9_told_9 : decode cX9_told 9 = .ok (.ifCond .eq 12, 3) := by decide +kernel
theorem dX9_told_12 : decode cX9_told 12 = .ok (.aload_n 0, 1) := by decide +kernel
theorem dX9_told_13 : decode cX9_told 13 = .ok (.getfield 16, 3) := by decide +kernel
theorem dX9_told_16 : decode cX9_told 16 = .ok (.iload_n 1, 1) := by decide +kernel
theorem dX9_told_17 : decode cX9_told 17 = .ok (.iaload, 1) := by decide +kernel
theorem dX9_told_18 : decode cX9_told 18 = .ok (.goto 8, 3) := by decide +kernel
theorem dX9_told_21 : decode cX9_told 21 = .ok (.aload_n 0, 1) := by decide +kernel
theorem dX9_told_22 : decode cX9_told 22 = .ok (.iconst 1, 1) := by decide +kernel
theorem dX9_told_23 : decode cX9_told 23 = .ok (.invokevirtual 103, 3) := by decide +kernel
theorem dX9_told_26 : decode cX9_told 26 = .ok (.ireturn, 1) := by decide +kernel
theorem dJ9_floorMod_7cf53_0 : decode cJ9_floorMod_7cf53 0 = .ok (.iload_n 0, 1) := by decide +kernel
theorem dJ9_floorMod_7cf53_1 : decode cJ9_floorMod_7cf53 1 = .ok (.iload_n 1, 1) := by decide +kernel
theorem dJ9_floorMod_7cf53_2 : decode cJ9_floorMod_7cf53 2 = .ok (.irem, 1) := by decide +kernel
theorem dJ9_floorMod_7cf53_3 : decode cJ9_floorMod_7cf53 3 = .ok (.istore_n 2, 1) := by decide +kernel
theorem dJ9_floorMod_7cf53_4 : decode cJ9_floorMod_7cf53 4 = .ok (.iload_n 0, 1) := by decide +kernel
theorem dJ9_floorMod_7cf53_5 : decode cJ9_floorMod_7cf53 5 = .ok (.iload_n 1, 1) := by decide +kernel
theorem dJ9_floorMod_7cf53_6 : decode cJ9_floorMod_7cf53 6 = .ok (.ixor, 1) := by decide +kernel
theorem dJ9_floorMod_7cf53_7 : decode cJ9_floorMod_7cf53 7 = .ok (.ifCond .ge 11, 3) := by decide +kernel
theorem dJ9_floorMod_7cf53_10 : decode cJ9_floorMod_7cf53 10 = .ok (.iload_n 2, 1) := by decide +kernel
theorem dJ9_floorMod_7cf53_11 : decode cJ9_floorMod_7cf53 11 = .ok (.ifCond .eq 7, 3) := by decide +kernel
theorem dJ9_floorMod_7cf53_14 : decode cJ9_floorMod_7cf53 14 = .ok (.iload_n 2, 1) := by decide +kernel
theorem dJ9_floorMod_7cf53_15 : decode cJ9_floorMod_7cf53 15 = .ok (.iload_n 1, 1) := by decide +kernel
theorem dJ9_floorMod_7cf53_16 : decode cJ9_floorMod_7cf53 16 = .ok (.iadd, 1) := by decide +kernel
theorem dJ9_floorMod_7cf53_17 : decode cJ9_floorMod_7cf53 17 = .ok (.ireturn, 1) := by decide +kernel
theorem dJ9_floorMod_7cf53_18 : decode cJ9_floorMod_7cf53 18 = .ok (.iload_n 2, 1) := by decide +kernel
theorem dJ9_floorMod_7cf53_19 : decode cJ9_floorMod_7cf53 19 = .ok (.ireturn, 1) := by decide +kernel
theorem dJ9_abs_0f7a4_0 : decode cJ9_abs_0f7a4 0 = .ok (.iload_n 0, 1) := by decide +kernel
theorem dJ9_abs_0f7a4_1 : decode cJ9_abs_0f7a4 1 = .ok (.ifCond .ge 8, 3) := by decide +kernel
theorem dJ9_abs_0f7a4_4 : decode cJ9_abs_0f7a4 4 = .ok (.iload_n 0, 1) := by decide +kernel
theorem dJ9_abs_0f7a4_5 : decode cJ9_abs_0f7a4 5 = .ok (.ineg, 1) := by decide +kernel
theorem dJ9_abs_0f7a4_6 : decode cJ9_abs_0f7a4 6 = .ok (.goto 4, 3) := by decide +kernel
theorem dJ9_abs_0f7a4_9 : decode cJ9_abs_0f7a4 9 = .ok (.iload_n 0, 1) := by decide +kernel
theorem dJ9_abs_0f7a4_10 : decode cJ9_abs_0f7a4 10 = .ok (.ireturn, 1) := by decide +kernel
theorem dJ9_max_7cf53_0 : decode cJ9_max_7cf53 0 = .ok (.iload_n 0, 1) := by decide +kernel
theorem dJ9_max_7cf53_1 : decode cJ9_max_7cf53 1 = .ok (.iload_n 1, 1) := by decide +kernel
theorem dJ9_max_7cf53_2 : decode cJ9_max_7cf53 2 = .ok (.if_icmp .lt 7, 3) := by decide +kernel
theorem dJ9_max_7cf53_5 : decode cJ9_max_7cf53 5 = .ok (.iload_n 0, 1) := by decide +kernel
theorem dJ9_max_7cf53_6 : decode cJ9_max_7cf53 6 = .ok (.goto 4, 3) := by decide +kernel
theorem dJ9_max_7cf53_9 : decode cJ9_max_7cf53 9 = .ok (.iload_n 1, 1) := by decide +kernel
theorem dJ9_max_7cf53_10 : decode cJ9_max_7cf53 10 = .ok (.ireturn, 1) := by decide +kernel
theorem dJ9_min_7cf53_0 : decode cJ9_min_7cf53 0 = .ok (.iload_n 0, 1) := by decide +kernel
theorem dJ9_min_7cf53_1 : decode cJ9_min_7cf53 1 = .ok (.iload_n 1, 1) := by decide +kernel
theorem dJ9_min_7cf53_2 : decode cJ9_min_7cf53 2 = .ok (.if_icmp .gt 7, 3) := by decide +kernel
theorem dJ9_min_7cf53_5 : decode cJ9_min_7cf53 5 = .ok (.iload_n 0, 1) := by decide +kernel
theorem dJ9_min_7cf53_6 : decode cJ9_min_7cf53 6 = .ok (.goto 4, 3) := by decide +kernel
theorem dJ9_min_7cf53_9 : decode cJ9_min_7cf53 9 = .ok (.iload_n 1, 1) := by decide +kernel
theorem dJ9_min_7cf53_10 : decode cJ9_min_7cf53 10 = .ok (.ireturn, 1) := by decide +kernel
theorem dL_law_0 : decode cL_law 0 = .ok (.new 7, 3) := by decide +kernel
theorem dL_law_3 : decode cL_law 3 = .ok (.dup, 1) := by decide +kernel
theorem dL_law_4 : decode cL_law 4 = .ok (.invokespecial 9, 3) := by decide +kernel
theorem dL_law_7 : decode cL_law 7 = .ok (.astore_n 1, 1) := by decide +kernel
theorem dL_law_8 : decode cL_law 8 = .ok (.new 10, 3) := by decide +kernel
theorem dL_law_11 : decode cL_law 11 = .ok (.dup, 1) := by decide +kernel
theorem dL_law_12 : decode cL_law 12 = .ok (.invokespecial 12, 3) := by decide +kernel
theorem dL_law_15 : decode cL_law 15 = .ok (.astore_n 2, 1) := by decide +kernel
theorem dL_law_16 : decode cL_law 16 = .ok (.iconst 0, 1) := by decide +kernel
theorem dL_law_17 : decode cL_law 17 = .ok (.istore_n 3, 1) := by decide +kernel
theorem dL_law_18 : decode cL_law 18 = .ok (.iload_n 3, 1) := by decide +kernel
theorem dL_law_19 : decode cL_law 19 = .ok (.aload_n 0, 1) := by decide +kernel
theorem dL_law_20 : decode cL_law 20 = .ok (.arraylength, 1) := by decide +kernel
theorem dL_law_21 : decode cL_law 21 = .ok (.bipush 6, 2) := by decide +kernel
theorem dL_law_23 : decode cL_law 23 = .ok (.isub, 1) := by decide +kernel
theorem dL_law_24 : decode cL_law 24 = .ok (.if_icmp .gt 1531, 3) := by decide +kernel
theorem dL_law_27 : decode cL_law 27 = .ok (.aload_n 0, 1) := by decide +kernel
theorem dL_law_28 : decode cL_law 28 = .ok (.iload_n 3, 1) := by decide +kernel
theorem dL_law_29 : decode cL_law 29 = .ok (.iaload, 1) := by decide +kernel
theorem dL_law_30 : decode cL_law 30 = .ok (.bipush 63, 2) := by decide +kernel
theorem dL_law_32 : decode cL_law 32 = .ok (.iand, 1) := by decide +kernel
theorem dL_law_33 : decode cL_law 33 = .ok (.tableswitch 1516 0 39 #[175, 218, 251, 284, 307, 340, 373, 406, 439, 502, 525, 578, 601, 624, 647, 660, 703, 746, 779, 822, 855, 888, 941, 1005, 1048, 1091, 1124, 1147, 1190, 1213, 1256, 1299, 1362, 1385, 1408, 1421, 1434, 1457, 1470, 1493], 175) := by decide +kernel
theorem dL_law_208 : decode cL_law 208 = .ok (.aload_n 1, 1) := by decide +kernel
theorem dL_law_209 : decode cL_law 209 = .ok (.aload_n 0, 1) := by decide +kernel
theorem dL_law_210 : decode cL_law 210 = .ok (.iload_n 3, 1) := by decide +kernel
theorem dL_law_211 : decode cL_law 211 = .ok (.iconst 1, 1) := by decide +kernel
theorem dL_law_212 : decode cL_law 212 = .ok (.iadd, 1) := by decide +kernel
theorem dL_law_213 : decode cL_law 213 = .ok (.iaload, 1) := by decide +kernel
theorem dL_law_214 : decode cL_law 214 = .ok (.aload_n 0, 1) := by decide +kernel
theorem dL_law_215 : decode cL_law 215 = .ok (.iload_n 3, 1) := by decide +kernel
theorem dL_law_216 : decode cL_law 216 = .ok (.iconst 2, 1) := by decide +kernel
theorem dL_law_217 : decode cL_law 217 = .ok (.iadd, 1) := by decide +kernel
theorem dL_law_218 : decode cL_law 218 = .ok (.iaload, 1) := by decide +kernel
theorem dL_law_219 : decode cL_law 219 = .ok (.aload_n 0, 1) := by decide +kernel
theorem dL_law_220 : decode cL_law 220 = .ok (.iload_n 3, 1) := by decide +kernel
theorem dL_law_221 : decode cL_law 221 = .ok (.iconst 3, 1) := by decide +kernel
theorem dL_law_222 : decode cL_law 222 = .ok (.iadd, 1) := by decide +kernel
theorem dL_law_223 : decode cL_law 223 = .ok (.iaload, 1) := by decide +kernel
theorem dL_law_224 : decode cL_law 224 = .ok (.invokevirtual 13, 3) := by decide +kernel
theorem dL_law_227 : decode cL_law 227 = .ok (.aload_n 2, 1) := by decide +kernel
theorem dL_law_228 : decode cL_law 228 = .ok (.aload_n 0, 1) := by decide +kernel
theorem dL_law_229 : decode cL_law 229 = .ok (.iload_n 3, 1) := by decide +kernel
theorem dL_law_230 : decode cL_law 230 = .ok (.iconst 1, 1) := by decide +kernel
theorem dL_law_231 : decode cL_law 231 = .ok (.iadd, 1) := by decide +kernel
theorem dL_law_232 : decode cL_law 232 = .ok (.iaload, 1) := by decide +kernel
theorem dL_law_233 : decode cL_law 233 = .ok (.aload_n 0, 1) := by decide +kernel
theorem dL_law_234 : decode cL_law 234 = .ok (.iload_n 3, 1) := by decide +kernel
theorem dL_law_235 : decode cL_law 235 = .ok (.iconst 2, 1) := by decide +kernel
theorem dL_law_236 : decode cL_law 236 = .ok (.iadd, 1) := by decide +kernel
theorem dL_law_237 : decode cL_law 237 = .ok (.iaload, 1) := by decide +kernel
theorem dL_law_238 : decode cL_law 238 = .ok (.aload_n 0, 1) := by decide +kernel
theorem dL_law_239 : decode cL_law 239 = .ok (.iload_n 3, 1) := by decide +kernel
theorem dL_law_240 : decode cL_law 240 = .ok (.iconst 3, 1) := by decide +kernel
theorem dL_law_241 : decode cL_law 241 = .ok (.iadd, 1) := by decide +kernel
theorem dL_law_242 : decode cL_law 242 = .ok (.iaload, 1) := by decide +kernel
theorem dL_law_243 : decode cL_law 243 = .ok (.invokevirtual 17, 3) := by decide +kernel
theorem dL_law_246 : decode cL_law 246 = .ok (.if_icmp .eq 1303, 3) := by decide +kernel
theorem dL_law_249 : decode cL_law 249 = .ok (.iconst 0, 1) := by decide +kernel
theorem dL_law_250 : decode cL_law 250 = .ok (.ireturn, 1) := by decide +kernel
theorem dL_law_251 : decode cL_law 251 = .ok (.aload_n 1, 1) := by decide +kernel
theorem dL_law_252 : decode cL_law 252 = .ok (.aload_n 0, 1) := by decide +kernel
theorem dL_law_253 : decode cL_law 253 = .ok (.iload_n 3, 1) := by decide +kernel
theorem dL_law_254 : decode cL_law 254 = .ok (.iconst 1, 1) := by decide +kernel
theorem dL_law_255 : decode cL_law 255 = .ok (.iadd, 1) := by decide +kernel
theorem dL_law_256 : decode cL_law 256 = .ok (.iaload, 1) := by decide +kernel
theorem dL_law_257 : decode cL_law 257 = .ok (.aload_n 0, 1) := by decide +kernel
theorem dL_law_258 : decode cL_law 258 = .ok (.iload_n 3, 1) := by decide +kernel
theorem dL_law_259 : decode cL_law 259 = .ok (.iconst 2, 1) := by decide +kernel
theorem dL_law_260 : decode cL_law 260 = .ok (.iadd, 1) := by decide +kernel
theorem dL_law_261 : decode cL_law 261 = .ok (.iaload, 1) := by decide +kernel
theorem dL_law_262 : decode cL_law 262 = .ok (.invokevirtual 18, 3) := by decide +kernel
theorem dL_law_265 : decode cL_law 265 = .ok (.aload_n 2, 1) := by decide +kernel
theorem dL_law_266 : decode cL_law 266 = .ok (.aload_n 0, 1) := by decide +kernel
theorem dL_law_267 : decode cL_law 267 = .ok (.iload_n 3, 1) := by decide +kernel
theorem dL_law_268 : decode cL_law 268 = .ok (.iconst 1, 1) := by decide +kernel
theorem dL_law_269 : decode cL_law 269 = .ok (.iadd, 1) := by decide +kernel
theorem dL_law_270 : decode cL_law 270 = .ok (.iaload, 1) := by decide +kernel
theorem dL_law_271 : decode cL_law 271 = .ok (.aload_n 0, 1) := by decide +kernel
theorem dL_law_272 : decode cL_law 272 = .ok (.iload_n 3, 1) := by decide +kernel
theorem dL_law_273 : decode cL_law 273 = .ok (.iconst 2, 1) := by decide +kernel
theorem dL_law_274 : decode cL_law 274 = .ok (.iadd, 1) := by decide +kernel
theorem dL_law_275 : decode cL_law 275 = .ok (.iaload, 1) := by decide +kernel
theorem dL_law_276 : decode cL_law 276 = .ok (.invokevirtual 22, 3) := by decide +kernel
theorem dL_law_279 : decode cL_law 279 = .ok (.if_icmp .eq 1270, 3) := by decide +kernel
theorem dL_law_282 : decode cL_law 282 = .ok (.iconst 0, 1) := by decide +kernel
theorem dL_law_283 : decode cL_law 283 = .ok (.ireturn, 1) := by decide +kernel
theorem dL_law_284 : decode cL_law 284 = .ok (.aload_n 1, 1) := by decide +kernel
theorem dL_law_285 : decode cL_law 285 = .ok (.aload_n 0, 1) := by decide +kernel
theorem dL_law_286 : decode cL_law 286 = .ok (.iload_n 3, 1) := by decide +kernel
theorem dL_law_287 : decode cL_law 287 = .ok (.iconst 1, 1) := by decide +kernel
theorem dL_law_288 : decode cL_law 288 = .ok (.iadd, 1) := by decide +kernel
theorem dL_law_289 : decode cL_law 289 = .ok (.iaload, 1) := by decide +kernel
theorem dL_law_290 : decode cL_law 290 = .ok (.aload_n 0, 1) := by decide +kernel
theorem dL_law_291 : decode cL_law 291 = .ok (.iload_n 3, 1) := by decide +kernel
theorem dL_law_292 : decode cL_law 292 = .ok (.iconst 2, 1) := by decide +kernel
theorem dL_law_293 : decode cL_law 293 = .ok (.iadd, 1) := by decide +kernel
theorem dL_law_294 : decode cL_law 294 = .ok (.iaload, 1) := by decide +kernel
theorem dL_law_295 : decode cL_law 295 = .ok (.invokevirtual 23, 3) := by decide +kernel
theorem dL_law_298 : decode cL_law 298 = .ok (.aload_n 2, 1) := by decide +kernel
theorem dL_law_299 : decode cL_law 299 = .ok (.aload_n 0, 1) := by decide +kernel
theorem dL_law_300 : decode cL_law 300 = .ok (.iload_n 3, 1) := by decide +kernel
theorem dL_law_301 : decode cL_law 301 = .ok (.iconst 1, 1) := by decide +kernel
theorem dL_law_302 : decode cL_law 302 = .ok (.iadd, 1) := by decide +kernel
theorem dL_law_303 : decode cL_law 303 = .ok (.iaload, 1) := by decide +kernel
theorem dL_law_304 : decode cL_law 304 = .ok (.aload_n 0, 1) := by decide +kernel
theorem dL_law_305 : decode cL_law 305 = .ok (.iload_n 3, 1) := by decide +kernel
theorem dL_law_306 : decode cL_law 306 = .ok (.iconst 2, 1) := by decide +kernel
theorem dL_law_307 : decode cL_law 307 = .ok (.iadd, 1) := by decide +kernel
theorem dL_law_308 : decode cL_law 308 = .ok (.iaload, 1) := by decide +kernel
theorem dL_law_309 : decode cL_law 309 = .ok (.invokevirtual 26, 3) := by decide +kernel
theorem dL_law_312 : decode cL_law 312 = .ok (.if_icmp .eq 1237, 3) := by decide +kernel
theorem dL_law_315 : decode cL_law 315 = .ok (.iconst 0, 1) := by decide +kernel
theorem dL_law_316 : decode cL_law 316 = .ok (.ireturn, 1) := by decide +kernel
theorem dL_law_317 : decode cL_law 317 = .ok (.aload_n 1, 1) := by decide +kernel
theorem dL_law_318 : decode cL_law 318 = .ok (.aload_n 0, 1) := by decide +kernel
theorem dL_law_319 : decode cL_law 319 = .ok (.iload_n 3, 1) := by decide +kernel
theorem dL_law_320 : decode cL_law 320 = .ok (.iconst 1, 1) := by decide +kernel
theorem dL_law_321 : decode cL_law 321 = .ok (.iadd, 1) := by decide +kernel
theorem dL_law_322 : decode cL_law 322 = .ok (.iaload, 1) := by decide +kernel
theorem dL_law_323 : decode cL_law 323 = .ok (.invokevirtual 27, 3) := by decide +kernel
theorem dL_law_326 : decode cL_law 326 = .ok (.aload_n 2, 1) := by decide +kernel
theorem dL_law_327 : decode cL_law 327 = .ok (.aload_n 0, 1) := by decide +kernel
theorem dL_law_328 : decode cL_law 328 = .ok (.iload_n 3, 1) := by decide +kernel
theorem dL_law_329 : decode cL_law 329 = .ok (.iconst 1, 1) := by decide +kernel
theorem dL_law_330 : decode cL_law 330 = .ok (.iadd, 1) := by decide +kernel
theorem dL_law_331 : decode cL_law 331 = .ok (.iaload, 1) := by decide +kernel
theorem dL_law_332 : decode cL_law 332 = .ok (.invokevirtual 31, 3) := by decide +kernel
theorem dL_law_335 : decode cL_law 335 = .ok (.if_icmp .eq 1214, 3) := by decide +kernel
theorem dL_law_338 : decode cL_law 338 = .ok (.iconst 0, 1) := by decide +kernel
theorem dL_law_339 : decode cL_law 339 = .ok (.ireturn, 1) := by decide +kernel
theorem dL_law_340 : decode cL_law 340 = .ok (.aload_n 1, 1) := by decide +kernel
theorem dL_law_341 : decode cL_law 341 = .ok (.aload_n 0, 1) := by decide +kernel
theorem dL_law_342 : decode cL_law 342 = .ok (.iload_n 3, 1) := by decide +kernel
theorem dL_law_343 : decode cL_law 343 = .ok (.iconst 1, 1) := by decide +kernel
theorem dL_law_344 : decode cL_law 344 = .ok (.iadd, 1) := by decide +kernel
theorem dL_law_345 : decode cL_law 345 = .ok (.iaload, 1) := by decide +kernel
theorem dL_law_346 : decode cL_law 346 = .ok (.aload_n 0, 1) := by decide +kernel
theorem dL_law_347 : decode cL_law 347 = .ok (.iload_n 3, 1) := by decide +kernel
theorem dL_law_348 : decode cL_law 348 = .ok (.iconst 2, 1) := by decide +kernel
theorem dL_law_349 : decode cL_law 349 = .ok (.iadd, 1) := by decide +kernel
theorem dL_law_350 : decode cL_law 350 = .ok (.iaload, 1) := by decide +kernel
theorem dL_law_351 : decode cL_law 351 = .ok (.invokevirtual 32, 3) := by decide +kernel
theorem dL_law_354 : decode cL_law 354 = .ok (.aload_n 2, 1) := by decide +kernel
theorem dL_law_355 : decode cL_law 355 = .ok (.aload_n 0, 1) := by decide +kernel
theorem dL_law_356 : decode cL_law 356 = .ok (.iload_n 3, 1) := by decide +kernel
theorem dL_law_357 : decode cL_law 357 = .ok (.iconst 1, 1) := by decide +kernel
theorem dL_law_358 : decode cL_law 358 = .ok (.iadd, 1) := by decide +kernel
theorem dL_law_359 : decode cL_law 359 = .ok (.iaload, 1) := by decide +kernel
theorem dL_law_360 : decode cL_law 360 = .ok (.aload_n 0, 1) := by decide +kernel
theorem dL_law_361 : decode cL_law 361 = .ok (.iload_n 3, 1) := by decide +kernel
theorem dL_law_362 : decode cL_law 362 = .ok (.iconst 2, 1) := by decide +kernel
theorem dL_law_363 : decode cL_law 363 = .ok (.iadd, 1) := by decide +kernel
theorem dL_law_364 : decode cL_law 364 = .ok (.iaload, 1) := by decide +kernel
theorem dL_law_365 : decode cL_law 365 = .ok (.invokevirtual 35, 3) := by decide +kernel
theorem dL_law_368 : decode cL_law 368 = .ok (.if_icmp .eq 1181, 3) := by decide +kernel
theorem dL_law_371 : decode cL_law 371 = .ok (.iconst 0, 1) := by decide +kernel
theorem dL_law_372 : decode cL_law 372 = .ok (.ireturn, 1) := by decide +kernel
theorem dL_law_373 : decode cL_law 373 = .ok (.aload_n 1, 1) := by decide +kernel
theorem dL_law_374 : decode cL_law 374 = .ok (.aload_n 0, 1) := by decide +kernel
theorem dL_law_375 : decode cL_law 375 = .ok (.iload_n 3, 1) := by decide +kernel
theorem dL_law_376 : decode cL_law 376 = .ok (.iconst 1, 1) := by decide +kernel
theorem dL_law_377 : decode cL_law 377 = .ok (.iadd, 1) := by decide +kernel
theorem dL_law_378 : decode cL_law 378 = .ok (.iaload, 1) := by decide +kernel
theorem dL_law_379 : decode cL_law 379 = .ok (.aload_n 0, 1) := by decide +kernel
theorem dL_law_380 : decode cL_law 380 = .ok (.iload_n 3, 1) := by decide +kernel
theorem dL_law_381 : decode cL_law 381 = .ok (.iconst 2, 1) := by decide +kernel
theorem dL_law_382 : decode cL_law 382 = .ok (.iadd, 1) := by decide +kernel
theorem dL_law_383 : decode cL_law 383 = .ok (.iaload, 1) := by decide +kernel
theorem dL_law_384 : decode cL_law 384 = .ok (.invokevirtual 36, 3) := by decide +kernel
theorem dL_law_387 : decode cL_law 387 = .ok (.aload_n 2, 1) := by decide +kernel
theorem dL_law_388 : decode cL_law 388 = .ok (.aload_n 0, 1) := by decide +kernel
theorem dL_law_389 : decode cL_law 389 = .ok (.iload_n 3, 1) := by decide +kernel
theorem dL_law_390 : decode cL_law 390 = .ok (.iconst 1, 1) := by decide +kernel
theorem dL_law_391 : decode cL_law 391 = .ok (.iadd, 1) := by decide +kernel
theorem dL_law_392 : decode cL_law 392 = .ok (.iaload, 1) := by decide +kernel
theorem dL_law_393 : decode cL_law 393 = .ok (.aload_n 0, 1) := by decide +kernel
theorem dL_law_394 : decode cL_law 394 = .ok (.iload_n 3, 1) := by decide +kernel
theorem dL_law_395 : decode cL_law 395 = .ok (.iconst 2, 1) := by decide +kernel
theorem dL_law_396 : decode cL_law 396 = .ok (.iadd, 1) := by decide +kernel
theorem dL_law_397 : decode cL_law 397 = .ok (.iaload, 1) := by decide +kernel
theorem dL_law_398 : decode cL_law 398 = .ok (.invokevirtual 39, 3) := by decide +kernel
theorem dL_law_401 : decode cL_law 401 = .ok (.if_icmp .eq 1148, 3) := by decide +kernel
theorem dL_law_404 : decode cL_law 404 = .ok (.iconst 0, 1) := by decide +kernel
theorem dL_law_405 : decode cL_law 405 = .ok (.ireturn, 1) := by decide +kernel
theorem dL_law_406 : decode cL_law 406 = .ok (.aload_n 1, 1) := by decide +kernel
theorem dL_law_407 : decode cL_law 407 = .ok (.aload_n 0, 1) := by decide +kernel
theorem dL_law_408 : decode cL_law 408 = .ok (.iload_n 3, 1) := by decide +kernel
theorem dL_law_409 : decode cL_law 409 = .ok (.iconst 1, 1) := by decide +kernel
theorem dL_law_410 : decode cL_law 410 = .ok (.iadd, 1) := by decide +kernel
theorem dL_law_411 : decode cL_law 411 = .ok (.iaload, 1) := by decide +kernel
theorem dL_law_412 : decode cL_law 412 = .ok (.aload_n 0, 1) := by decide +kernel
theorem dL_law_413 : decode cL_law 413 = .ok (.iload_n 3, 1) := by decide +kernel
theorem dL_law_414 : decode cL_law 414 = .ok (.iconst 2, 1) := by decide +kernel
theorem dL_law_415 : decode cL_law 415 = .ok (.iadd, 1) := by decide +kernel
theorem dL_law_416 : decode cL_law 416 = .ok (.iaload, 1) := by decide +kernel
theorem dL_law_417 : decode cL_law 417 = .ok (.invokevirtual 40, 3) := by decide +kernel
theorem dL_law_420 : decode cL_law 420 = .ok (.aload_n 2, 1) := by decide +kernel
theorem dL_law_421 : decode cL_law 421 = .ok (.aload_n 0, 1) := by decide +kernel
theorem dL_law_422 : decode cL_law 422 = .ok (.iload_n 3, 1) := by decide +kernel
theorem dL_law_423 : decode cL_law 423 = .ok (.iconst 1, 1) := by decide +kernel
theorem dL_law_424 : decode cL_law 424 = .ok (.iadd, 1) := by decide +kernel
theorem dL_law_425 : decode cL_law 425 = .ok (.iaload, 1) := by decide +kernel
theorem dL_law_426 : decode cL_law 426 = .ok (.aload_n 0, 1) := by decide +kernel
theorem dL_law_427 : decode cL_law 427 = .ok (.iload_n 3, 1) := by decide +kernel
theorem dL_law_428 : decode cL_law 428 = .ok (.iconst 2, 1) := by decide +kernel
theorem dL_law_429 : decode cL_law 429 = .ok (.iadd, 1) := by decide +kernel
theorem dL_law_430 : decode cL_law 430 = .ok (.iaload, 1) := by decide +kernel
theorem dL_law_431 : decode cL_law 431 = .ok (.invokevirtual 43, 3) := by decide +kernel
theorem dL_law_434 : decode cL_law 434 = .ok (.if_icmp .eq 1115, 3) := by decide +kernel
theorem dL_law_437 : decode cL_law 437 = .ok (.iconst 0, 1) := by decide +kernel
theorem dL_law_438 : decode cL_law 438 = .ok (.ireturn, 1) := by decide +kernel
theorem dL_law_439 : decode cL_law 439 = .ok (.aload_n 1, 1) := by decide +kernel
theorem dL_law_440 : decode cL_law 440 = .ok (.aload_n 0, 1) := by decide +kernel
theorem dL_law_441 : decode cL_law 441 = .ok (.iload_n 3, 1) := by decide +kernel
theorem dL_law_442 : decode cL_law 442 = .ok (.iconst 1, 1) := by decide +kernel
theorem dL_law_443 : decode cL_law 443 = .ok (.iadd, 1) := by decide +kernel
theorem dL_law_444 : decode cL_law 444 = .ok (.iaload, 1) := by decide +kernel
theorem dL_law_445 : decode cL_law 445 = .ok (.aload_n 0, 1) := by decide +kernel
theorem dL_law_446 : decode cL_law 446 = .ok (.iload_n 3, 1) := by decide +kernel
theorem dL_law_447 : decode cL_law 447 = .ok (.iconst 2, 1) := by decide +kernel
theorem dL_law_448 : decode cL_law 448 = .ok (.iadd, 1) := by decide +kernel
theorem dL_law_449 : decode cL_law 449 = .ok (.iaload, 1) := by decide +kernel
theorem dL_law_450 : decode cL_law 450 = .ok (.invokevirtual 44, 3) := by decide +kernel
theorem dL_law_453 : decode cL_law 453 = .ok (.aload_n 2, 1) := by decide +kernel
theorem dL_law_454 : decode cL_law 454 = .ok (.aload_n 0, 1) := by decide +kernel
theorem dL_law_455 : decode cL_law 455 = .ok (.iload_n 3, 1) := by decide +kernel
theorem dL_law_456 : decode cL_law 456 = .ok (.iconst 1, 1) := by decide +kernel
theorem dL_law_457 : decode cL_law 457 = .ok (.iadd, 1) := by decide +kernel
theorem dL_law_458 : decode cL_law 458 = .ok (.iaload, 1) := by decide +kernel
theorem dL_law_459 : decode cL_law 459 = .ok (.aload_n 0, 1) := by decide +kernel
theorem dL_law_460 : decode cL_law 460 = .ok (.iload_n 3, 1) := by decide +kernel
theorem dL_law_461 : decode cL_law 461 = .ok (.iconst 2, 1) := by decide +kernel
theorem dL_law_462 : decode cL_law 462 = .ok (.iadd, 1) := by decide +kernel
theorem dL_law_463 : decode cL_law 463 = .ok (.iaload, 1) := by decide +kernel
theorem dL_law_464 : decode cL_law 464 = .ok (.invokevirtual 47, 3) := by decide +kernel
theorem dL_law_467 : decode cL_law 467 = .ok (.if_icmp .eq 1082, 3) := by decide +kernel
theorem dL_law_470 : decode cL_law 470 = .ok (.iconst 0, 1) := by decide +kernel
theorem dL_law_471 : decode cL_law 471 = .ok (.ireturn, 1) := by decide +kernel
theorem dL_law_472 : decode cL_law 472 = .ok (.aload_n 1, 1) := by decide +kernel
theorem dL_law_473 : decode cL_law 473 = .ok (.aload_n 0, 1) := by decide +kernel
theorem dL_law_474 : decode cL_law 474 = .ok (.iload_n 3, 1) := by decide +kernel
theorem dL_law_475 : decode cL_law 475 = .ok (.iconst 1, 1) := by decide +kernel
theorem dL_law_476 : decode cL_law 476 = .ok (.iadd, 1) := by decide +kernel
theorem dL_law_477 : decode cL_law 477 = .ok (.iaload, 1) := by decide +kernel
theorem dL_law_478 : decode cL_law 478 = .ok (.i2l, 1) := by decide +kernel
theorem dL_law_479 : decode cL_law 479 = .ok (.bipush 32, 2) := by decide +kernel
theorem dL_law_481 : decode cL_law 481 = .ok (.lshl, 1) := by decide +kernel
theorem dL_law_482 : decode cL_law 482 = .ok (.aload_n 0, 1) := by decide +kernel
theorem dL_law_483 : decode cL_law 483 = .ok (.iload_n 3, 1) := by decide +kernel
theorem dL_law_484 : decode cL_law 484 = .ok (.iconst 2, 1) := by decide +kernel
theorem dL_law_485 : decode cL_law 485 = .ok (.iadd, 1) := by decide +kernel
theorem dL_law_486 : decode cL_law 486 = .ok (.iaload, 1) := by decide +kernel
theorem dL_law_487 : decode cL_law 487 = .ok (.i2l, 1) := by decide +kernel
theorem dL_law_488 : decode cL_law 488 = .ok (.ldc2_w 48, 3) := by decide +kernel
theorem dL_law_491 : decode cL_law 491 = .ok (.land, 1) := by decide +kernel
theorem dL_law_492 : decode cL_law 492 = .ok (.lor, 1) := by decide +kernel
theorem dL_law_493 : decode cL_law 493 = .ok (.aload_n 0, 1) := by decide +kernel
theorem dL_law_494 : decode cL_law 494 = .ok (.iload_n 3, 1) := by decide +kernel
theorem dL_law_495 : decode cL_law 495 = .ok (.iconst 3, 1) := by decide +kernel
theorem dL_law_496 : decode cL_law 496 = .ok (.iadd, 1) := by decide +kernel
theorem dL_law_497 : decode cL_law 497 = .ok (.iaload, 1) := by decide +kernel
theorem dL_law_498 : decode cL_law 498 = .ok (.invokevirtual 50, 3) := by decide +kernel
theorem dL_law_501 : decode cL_law 501 = .ok (.aload_n 2, 1) := by decide +kernel
theorem dL_law_502 : decode cL_law 502 = .ok (.aload_n 0, 1) := by decide +kernel
theorem dL_law_503 : decode cL_law 503 = .ok (.iload_n 3, 1) := by decide +kernel
theorem dL_law_504 : decode cL_law 504 = .ok (.iconst 1, 1) := by decide +kernel
theorem dL_law_505 : decode cL_law 505 = .ok (.iadd, 1) := by decide +kernel
theorem dL_law_506 : decode cL_law 506 = .ok (.iaload, 1) := by decide +kernel
theorem dL_law_507 : decode cL_law 507 = .ok (.i2l, 1) := by decide +kernel
theorem dL_law_508 : decode cL_law 508 = .ok (.bipush 32, 2) := by decide +kernel
theorem dL_law_510 : decode cL_law 510 = .ok (.lshl, 1) := by decide +kernel
theorem dL_law_511 : decode cL_law 511 = .ok (.aload_n 0, 1) := by decide +kernel
theorem dL_law_512 : decode cL_law 512 = .ok (.iload_n 3, 1) := by decide +kernel
theorem dL_law_513 : decode cL_law 513 = .ok (.iconst 2, 1) := by decide +kernel
theorem dL_law_514 : decode cL_law 514 = .ok (.iadd, 1) := by decide +kernel
theorem dL_law_515 : decode cL_law 515 = .ok (.iaload, 1) := by decide +kernel
theorem dL_law_516 : decode cL_law 516 = .ok (.i2l, 1) := by decide +kernel
theorem dL_law_517 : decode cL_law 517 = .ok (.ldc2_w 48, 3) := by decide +kernel
theorem dL_law_520 : decode cL_law 520 = .ok (.land, 1) := by decide +kernel
theorem dL_law_521 : decode cL_law 521 = .ok (.lor, 1) := by decide +kernel
theorem dL_law_522 : decode cL_law 522 = .ok (.aload_n 0, 1) := by decide +kernel
theorem dL_law_523 : decode cL_law 523 = .ok (.iload_n 3, 1) := by decide +kernel
theorem dL_law_524 : decode cL_law 524 = .ok (.iconst 3, 1) := by decide +kernel
theorem dL_law_525 : decode cL_law 525 = .ok (.iadd, 1) := by decide +kernel
theorem dL_law_526 : decode cL_law 526 = .ok (.iaload, 1) := by decide +kernel
theorem dL_law_527 : decode cL_law 527 = .ok (.invokevirtual 54, 3) := by decide +kernel
theorem dL_law_530 : decode cL_law 530 = .ok (.if_icmp .eq 1019, 3) := by decide +kernel
theorem dL_law_533 : decode cL_law 533 = .ok (.iconst 0, 1) := by decide +kernel
theorem dL_law_534 : decode cL_law 534 = .ok (.ireturn, 1) := by decide +kernel
theorem dL_law_535 : decode cL_law 535 = .ok (.aload_n 1, 1) := by decide +kernel
theorem dL_law_536 : decode cL_law 536 = .ok (.aload_n 0, 1) := by decide +kernel
theorem dL_law_537 : decode cL_law 537 = .ok (.iload_n 3, 1) := by decide +kernel
theorem dL_law_538 : decode cL_law 538 = .ok (.iconst 1, 1) := by decide +kernel
theorem dL_law_539 : decode cL_law 539 = .ok (.iadd, 1) := by decide +kernel
theorem dL_law_540 : decode cL_law 540 = .ok (.iaload, 1) := by decide +kernel
theorem dL_law_541 : decode cL_law 541 = .ok (.invokevirtual 55, 3) := by decide +kernel
theorem dL_law_544 : decode cL_law 544 = .ok (.aload_n 2, 1) := by decide +kernel
theorem dL_law_545 : decode cL_law 545 = .ok (.aload_n 0, 1) := by decide +kernel
theorem dL_law_546 : decode cL_law 546 = .ok (.iload_n 3, 1) := by decide +kernel
theorem dL_law_547 : decode cL_law 547 = .ok (.iconst 1, 1) := by decide +kernel
theorem dL_law_548 : decode cL_law 548 = .ok (.iadd, 1) := by decide +kernel
theorem dL_law_549 : decode cL_law 549 = .ok (.iaload, 1) := by decide +kernel
theorem dL_law_550 : decode cL_law 550 = .ok (.invokevirtual 58, 3) := by decide +kernel
theorem dL_law_553 : decode cL_law 553 = .ok (.if_icmp .eq 996, 3) := by decide +kernel
theorem dL_law_556 : decode cL_law 556 = .ok (.iconst 0, 1) := by decide +kernel
theorem dL_law_557 : decode cL_law 557 = .ok (.ireturn, 1) := by decide +kernel
theorem dL_law_558 : decode cL_law 558 = .ok (.aload_n 1, 1) := by decide +kernel
theorem dL_law_559 : decode cL_law 559 = .ok (.aload_n 0, 1) := by decide +kernel
theorem dL_law_560 : decode cL_law 560 = .ok (.iload_n 3, 1) := by decide +kernel
theorem dL_law_561 : decode cL_law 561 = .ok (.iconst 1, 1) := by decide +kernel
theorem dL_law_562 : decode cL_law 562 = .ok (.iadd, 1) := by decide +kernel
theorem dL_law_563 : decode cL_law 563 = .ok (.iaload, 1) := by decide +kernel
theorem dL_law_564 : decode cL_law 564 = .ok (.aload_n 0, 1) := by decide +kernel
theorem dL_law_565 : decode cL_law 565 = .ok (.iload_n 3, 1) := by decide +kernel
theorem dL_law_566 : decode cL_law 566 = .ok (.iconst 2, 1) := by decide +kernel
theorem dL_law_567 : decode cL_law 567 = .ok (.iadd, 1) := by decide +kernel
theorem dL_law_568 : decode cL_law 568 = .ok (.iaload, 1) := by decide +kernel
theorem dL_law_569 : decode cL_law 569 = .ok (.aload_n 0, 1) := by decide +kernel
theorem dL_law_570 : decode cL_law 570 = .ok (.iload_n 3, 1) := by decide +kernel
theorem dL_law_571 : decode cL_law 571 = .ok (.iconst 3, 1) := by decide +kernel
theorem dL_law_572 : decode cL_law 572 = .ok (.iadd, 1) := by decide +kernel
theorem dL_law_573 : decode cL_law 573 = .ok (.iaload, 1) := by decide +kernel
theorem dL_law_574 : decode cL_law 574 = .ok (.aload_n 0, 1) := by decide +kernel
theorem dL_law_575 : decode cL_law 575 = .ok (.iload_n 3, 1) := by decide +kernel
theorem dL_law_576 : decode cL_law 576 = .ok (.iconst 4, 1) := by decide +kernel
theorem dL_law_577 : decode cL_law 577 = .ok (.iadd, 1) := by decide +kernel
theorem dL_law_578 : decode cL_law 578 = .ok (.iaload, 1) := by decide +kernel
theorem dL_law_579 : decode cL_law 579 = .ok (.invokevirtual 59, 3) := by decide +kernel
theorem dL_law_582 : decode cL_law 582 = .ok (.aload_n 2, 1) := by decide +kernel
theorem dL_law_583 : decode cL_law 583 = .ok (.aload_n 0, 1) := by decide +kernel
theorem dL_law_584 : decode cL_law 584 = .ok (.iload_n 3, 1) := by decide +kernel
theorem dL_law_585 : decode cL_law 585 = .ok (.iconst 1, 1) := by decide +kernel
theorem dL_law_586 : decode cL_law 586 = .ok (.iadd, 1) := by decide +kernel
theorem dL_law_587 : decode cL_law 587 = .ok (.iaload, 1) := by decide +kernel
theorem dL_law_588 : decode cL_law 588 = .ok (.aload_n 0, 1) := by decide +kernel
theorem dL_law_589 : decode cL_law 589 = .ok (.iload_n 3, 1) := by decide +kernel
theorem dL_law_590 : decode cL_law 590 = .ok (.iconst 2, 1) := by decide +kernel
theorem dL_law_591 : decode cL_law 591 = .ok (.iadd, 1) := by decide +kernel
theorem dL_law_592 : decode cL_law 592 = .ok (.iaload, 1) := by decide +kernel
theorem dL_law_593 : decode cL_law 593 = .ok (.aload_n 0, 1) := by decide +kernel
theorem dL_law_594 : decode cL_law 594 = .ok (.iload_n 3, 1) := by decide +kernel
theorem dL_law_595 : decode cL_law 595 = .ok (.iconst 3, 1) := by decide +kernel
theorem dL_law_596 : decode cL_law 596 = .ok (.iadd, 1) := by decide +kernel
theorem dL_law_597 : decode cL_law 597 = .ok (.iaload, 1) := by decide +kernel
theorem dL_law_598 : decode cL_law 598 = .ok (.aload_n 0, 1) := by decide +kernel
theorem dL_law_599 : decode cL_law 599 = .ok (.iload_n 3, 1) := by decide +kernel
theorem dL_law_600 : decode cL_law 600 = .ok (.iconst 4, 1) := by decide +kernel
theorem dL_law_601 : decode cL_law 601 = .ok (.iadd, 1) := by decide +kernel
theorem dL_law_602 : decode cL_law 602 = .ok (.iaload, 1) := by decide +kernel
theorem dL_law_603 : decode cL_law 603 = .ok (.invokevirtual 63, 3) := by decide +kernel
theorem dL_law_606 : decode cL_law 606 = .ok (.if_icmp .eq 943, 3) := by decide +kernel
theorem dL_law_609 : decode cL_law 609 = .ok (.iconst 0, 1) := by decide +kernel
theorem dL_law_610 : decode cL_law 610 = .ok (.ireturn, 1) := by decide +kernel
theorem dL_law_611 : decode cL_law 611 = .ok (.aload_n 1, 1) := by decide +kernel
theorem dL_law_612 : decode cL_law 612 = .ok (.aload_n 0, 1) := by decide +kernel
theorem dL_law_613 : decode cL_law 613 = .ok (.iload_n 3, 1) := by decide +kernel
theorem dL_law_614 : decode cL_law 614 = .ok (.iconst 1, 1) := by decide +kernel
theorem dL_law_615 : decode cL_law 615 = .ok (.iadd, 1) := by decide +kernel
theorem dL_law_616 : decode cL_law 616 = .ok (.iaload, 1) := by decide +kernel
theorem dL_law_617 : decode cL_law 617 = .ok (.invokevirtual 64, 3) := by decide +kernel
theorem dL_law_620 : decode cL_law 620 = .ok (.aload_n 2, 1) := by decide +kernel
theorem dL_law_621 : decode cL_law 621 = .ok (.aload_n 0, 1) := by decide +kernel
theorem dL_law_622 : decode cL_law 622 = .ok (.iload_n 3, 1) := by decide +kernel
theorem dL_law_623 : decode cL_law 623 = .ok (.iconst 1, 1) := by decide +kernel
theorem dL_law_624 : decode cL_law 624 = .ok (.iadd, 1) := by decide +kernel
theorem dL_law_625 : decode cL_law 625 = .ok (.iaload, 1) := by decide +kernel
theorem dL_law_626 : decode cL_law 626 = .ok (.invokevirtual 67, 3) := by decide +kernel
theorem dL_law_629 : decode cL_law 629 = .ok (.if_icmp .eq 920, 3) := by decide +kernel
theorem dL_law_632 : decode cL_law 632 = .ok (.iconst 0, 1) := by decide +kernel
theorem dL_law_633 : decode cL_law 633 = .ok (.ireturn, 1) := by decide +kernel
theorem dL_law_634 : decode cL_law 634 = .ok (.aload_n 1, 1) := by decide +kernel
theorem dL_law_635 : decode cL_law 635 = .ok (.aload_n 0, 1) := by decide +kernel
theorem dL_law_636 : decode cL_law 636 = .ok (.iload_n 3, 1) := by decide +kernel
theorem dL_law_637 : decode cL_law 637 = .ok (.iconst 1, 1) := by decide +kernel
theorem dL_law_638 : decode cL_law 638 = .ok (.iadd, 1) := by decide +kernel
theorem dL_law_639 : decode cL_law 639 = .ok (.iaload, 1) := by decide +kernel
theorem dL_law_640 : decode cL_law 640 = .ok (.invokevirtual 68, 3) := by decide +kernel
theorem dL_law_643 : decode cL_law 643 = .ok (.aload_n 2, 1) := by decide +kernel
theorem dL_law_644 : decode cL_law 644 = .ok (.aload_n 0, 1) := by decide +kernel
theorem dL_law_645 : decode cL_law 645 = .ok (.iload_n 3, 1) := by decide +kernel
theorem dL_law_646 : decode cL_law 646 = .ok (.iconst 1, 1) := by decide +kernel
theorem dL_law_647 : decode cL_law 647 = .ok (.iadd, 1) := by decide +kernel
theorem dL_law_648 : decode cL_law 648 = .ok (.iaload, 1) := by decide +kernel
theorem dL_law_649 : decode cL_law 649 = .ok (.invokevirtual 71, 3) := by decide +kernel
theorem dL_law_652 : decode cL_law 652 = .ok (.if_icmp .eq 897, 3) := by decide +kernel
theorem dL_law_655 : decode cL_law 655 = .ok (.iconst 0, 1) := by decide +kernel
theorem dL_law_656 : decode cL_law 656 = .ok (.ireturn, 1) := by decide +kernel
theorem dL_law_657 : decode cL_law 657 = .ok (.aload_n 1, 1) := by decide +kernel
theorem dL_law_658 : decode cL_law 658 = .ok (.aload_n 0, 1) := by decide +kernel
theorem dL_law_659 : decode cL_law 659 = .ok (.iload_n 3, 1) := by decide +kernel
theorem dL_law_660 : decode cL_law 660 = .ok (.iconst 1, 1) := by decide +kernel
theorem dL_law_661 : decode cL_law 661 = .ok (.iadd, 1) := by decide +kernel
theorem dL_law_662 : decode cL_law 662 = .ok (.iaload, 1) := by decide +kernel
theorem dL_law_663 : decode cL_law 663 = .ok (.invokevirtual 72, 3) := by decide +kernel
theorem dL_law_666 : decode cL_law 666 = .ok (.aload_n 2, 1) := by decide +kernel
theorem dL_law_667 : decode cL_law 667 = .ok (.aload_n 0, 1) := by decide +kernel
theorem dL_law_668 : decode cL_law 668 = .ok (.iload_n 3, 1) := by decide +kernel
theorem dL_law_669 : decode cL_law 669 = .ok (.iconst 1, 1) := by decide +kernel
theorem dL_law_670 : decode cL_law 670 = .ok (.iadd, 1) := by decide +kernel
theorem dL_law_671 : decode cL_law 671 = .ok (.iaload, 1) := by decide +kernel
theorem dL_law_672 : decode cL_law 672 = .ok (.invokevirtual 75, 3) := by decide +kernel
theorem dL_law_675 : decode cL_law 675 = .ok (.if_icmp .eq 874, 3) := by decide +kernel
theorem dL_law_678 : decode cL_law 678 = .ok (.iconst 0, 1) := by decide +kernel
theorem dL_law_679 : decode cL_law 679 = .ok (.ireturn, 1) := by decide +kernel
theorem dL_law_680 : decode cL_law 680 = .ok (.aload_n 1, 1) := by decide +kernel
theorem dL_law_681 : decode cL_law 681 = .ok (.invokevirtual 76, 3) := by decide +kernel
theorem dL_law_684 : decode cL_law 684 = .ok (.aload_n 2, 1) := by decide +kernel
theorem dL_law_685 : decode cL_law 685 = .ok (.invokevirtual 80, 3) := by decide +kernel
theorem dL_law_688 : decode cL_law 688 = .ok (.if_icmp .eq 861, 3) := by decide +kernel
theorem dL_law_691 : decode cL_law 691 = .ok (.iconst 0, 1) := by decide +kernel
theorem dL_law_692 : decode cL_law 692 = .ok (.ireturn, 1) := by decide +kernel
theorem dL_law_693 : decode cL_law 693 = .ok (.aload_n 1, 1) := by decide +kernel
theorem dL_law_694 : decode cL_law 694 = .ok (.aload_n 0, 1) := by decide +kernel
theorem dL_law_695 : decode cL_law 695 = .ok (.iload_n 3, 1) := by decide +kernel
theorem dL_law_696 : decode cL_law 696 = .ok (.iconst 1, 1) := by decide +kernel
theorem dL_law_697 : decode cL_law 697 = .ok (.iadd, 1) := by decide +kernel
theorem dL_law_698 : decode cL_law 698 = .ok (.iaload, 1) := by decide +kernel
theorem dL_law_699 : decode cL_law 699 = .ok (.aload_n 0, 1) := by decide +kernel
theorem dL_law_700 : decode cL_law 700 = .ok (.iload_n 3, 1) := by decide +kernel
theorem dL_law_701 : decode cL_law 701 = .ok (.iconst 2, 1) := by decide +kernel
theorem dL_law_702 : decode cL_law 702 = .ok (.iadd, 1) := by decide +kernel
theorem dL_law_703 : decode cL_law 703 = .ok (.iaload, 1) := by decide +kernel
theorem dL_law_704 : decode cL_law 704 = .ok (.aload_n 0, 1) := by decide +kernel
theorem dL_law_705 : decode cL_law 705 = .ok (.iload_n 3, 1) := by decide +kernel
theorem dL_law_706 : decode cL_law 706 = .ok (.iconst 3, 1) := by decide +kernel
theorem dL_law_707 : decode cL_law 707 = .ok (.iadd, 1) := by decide +kernel
theorem dL_law_708 : decode cL_law 708 = .ok (.iaload, 1) := by decide +kernel
theorem dL_law_709 : decode cL_law 709 = .ok (.invokevirtual 81, 3) := by decide +kernel
theorem dL_law_712 : decode cL_law 712 = .ok (.aload_n 2, 1) := by decide +kernel
theorem dL_law_713 : decode cL_law 713 = .ok (.aload_n 0, 1) := by decide +kernel
theorem dL_law_714 : decode cL_law 714 = .ok (.iload_n 3, 1) := by decide +kernel
theorem dL_law_715 : decode cL_law 715 = .ok (.iconst 1, 1) := by decide +kernel
theorem dL_law_716 : decode cL_law 716 = .ok (.iadd, 1) := by decide +kernel
theorem dL_law_717 : decode cL_law 717 = .ok (.iaload, 1) := by decide +kernel
theorem dL_law_718 : decode cL_law 718 = .ok (.aload_n 0, 1) := by decide +kernel
theorem dL_law_719 : decode cL_law 719 = .ok (.iload_n 3, 1) := by decide +kernel
theorem dL_law_720 : decode cL_law 720 = .ok (.iconst 2, 1) := by decide +kernel
theorem dL_law_721 : decode cL_law 721 = .ok (.iadd, 1) := by decide +kernel
theorem dL_law_722 : decode cL_law 722 = .ok (.iaload, 1) := by decide +kernel
theorem dL_law_723 : decode cL_law 723 = .ok (.aload_n 0, 1) := by decide +kernel
theorem dL_law_724 : decode cL_law 724 = .ok (.iload_n 3, 1) := by decide +kernel
theorem dL_law_725 : decode cL_law 725 = .ok (.iconst 3, 1) := by decide +kernel
theorem dL_law_726 : decode cL_law 726 = .ok (.iadd, 1) := by decide +kernel
theorem dL_law_727 : decode cL_law 727 = .ok (.iaload, 1) := by decide +kernel
theorem dL_law_728 : decode cL_law 728 = .ok (.invokevirtual 84, 3) := by decide +kernel
theorem dL_law_731 : decode cL_law 731 = .ok (.if_icmp .eq 818, 3) := by decide +kernel
theorem dL_law_734 : decode cL_law 734 = .ok (.iconst 0, 1) := by decide +kernel
theorem dL_law_735 : decode cL_law 735 = .ok (.ireturn, 1) := by decide +kernel
theorem dL_law_736 : decode cL_law 736 = .ok (.aload_n 1, 1) := by decide +kernel
theorem dL_law_737 : decode cL_law 737 = .ok (.aload_n 0, 1) := by decide +kernel
theorem dL_law_738 : decode cL_law 738 = .ok (.iload_n 3, 1) := by decide +kernel
theorem dL_law_739 : decode cL_law 739 = .ok (.iconst 1, 1) := by decide +kernel
theorem dL_law_740 : decode cL_law 740 = .ok (.iadd, 1) := by decide +kernel
theorem dL_law_741 : decode cL_law 741 = .ok (.iaload, 1) := by decide +kernel
theorem dL_law_742 : decode cL_law 742 = .ok (.aload_n 0, 1) := by decide +kernel
theorem dL_law_743 : decode cL_law 743 = .ok (.iload_n 3, 1) := by decide +kernel
theorem dL_law_744 : decode cL_law 744 = .ok (.iconst 2, 1) := by decide +kernel
theorem dL_law_745 : decode cL_law 745 = .ok (.iadd, 1) := by decide +kernel
theorem dL_law_746 : decode cL_law 746 = .ok (.iaload, 1) := by decide +kernel
theorem dL_law_747 : decode cL_law 747 = .ok (.aload_n 0, 1) := by decide +kernel
theorem dL_law_748 : decode cL_law 748 = .ok (.iload_n 3, 1) := by decide +kernel
theorem dL_law_749 : decode cL_law 749 = .ok (.iconst 3, 1) := by decide +kernel
theorem dL_law_750 : decode cL_law 750 = .ok (.iadd, 1) := by decide +kernel
theorem dL_law_751 : decode cL_law 751 = .ok (.iaload, 1) := by decide +kernel
theorem dL_law_752 : decode cL_law 752 = .ok (.invokevirtual 85, 3) := by decide +kernel
theorem dL_law_755 : decode cL_law 755 = .ok (.aload_n 2, 1) := by decide +kernel
theorem dL_law_756 : decode cL_law 756 = .ok (.aload_n 0, 1) := by decide +kernel
theorem dL_law_757 : decode cL_law 757 = .ok (.iload_n 3, 1) := by decide +kernel
theorem dL_law_758 : decode cL_law 758 = .ok (.iconst 1, 1) := by decide +kernel
theorem dL_law_759 : decode cL_law 759 = .ok (.iadd, 1) := by decide +kernel
theorem dL_law_760 : decode cL_law 760 = .ok (.iaload, 1) := by decide +kernel
theorem dL_law_761 : decode cL_law 761 = .ok (.aload_n 0, 1) := by decide +kernel
theorem dL_law_762 : decode cL_law 762 = .ok (.iload_n 3, 1) := by decide +kernel
theorem dL_law_763 : decode cL_law 763 = .ok (.iconst 2, 1) := by decide +kernel
theorem dL_law_764 : decode cL_law 764 = .ok (.iadd, 1) := by decide +kernel
theorem dL_law_765 : decode cL_law 765 = .ok (.iaload, 1) := by decide +kernel
theorem dL_law_766 : decode cL_law 766 = .ok (.aload_n 0, 1) := by decide +kernel
theorem dL_law_767 : decode cL_law 767 = .ok (.iload_n 3, 1) := by decide +kernel
theorem dL_law_768 : decode cL_law 768 = .ok (.iconst 3, 1) := by decide +kernel
theorem dL_law_769 : decode cL_law 769 = .ok (.iadd, 1) := by decide +kernel
theorem dL_law_770 : decode cL_law 770 = .ok (.iaload, 1) := by decide +kernel
theorem dL_law_771 : decode cL_law 771 = .ok (.invokevirtual 88, 3) := by decide +kernel
theorem dL_law_774 : decode cL_law 774 = .ok (.if_icmp .eq 775, 3) := by decide +kernel
theorem dL_law_777 : decode cL_law 777 = .ok (.iconst 0, 1) := by decide +kernel
theorem dL_law_778 : decode cL_law 778 = .ok (.ireturn, 1) := by decide +kernel
theorem dL_law_779 : decode cL_law 779 = .ok (.aload_n 1, 1) := by decide +kernel
theorem dL_law_780 : decode cL_law 780 = .ok (.aload_n 0, 1) := by decide +kernel
theorem dL_law_781 : decode cL_law 781 = .ok (.iload_n 3, 1) := by decide +kernel
theorem dL_law_782 : decode cL_law 782 = .ok (.iconst 1, 1) := by decide +kernel
theorem dL_law_783 : decode cL_law 783 = .ok (.iadd, 1) := by decide +kernel
theorem dL_law_784 : decode cL_law 784 = .ok (.iaload, 1) := by decide +kernel
theorem dL_law_785 : decode cL_law 785 = .ok (.aload_n 0, 1) := by decide +kernel
theorem dL_law_786 : decode cL_law 786 = .ok (.iload_n 3, 1) := by decide +kernel
theorem dL_law_787 : decode cL_law 787 = .ok (.iconst 2, 1) := by decide +kernel
theorem dL_law_788 : decode cL_law 788 = .ok (.iadd, 1) := by decide +kernel
theorem dL_law_789 : decode cL_law 789 = .ok (.iaload, 1) := by decide +kernel
theorem dL_law_790 : decode cL_law 790 = .ok (.invokevirtual 89, 3) := by decide +kernel
theorem dL_law_793 : decode cL_law 793 = .ok (.aload_n 2, 1) := by decide +kernel
theorem dL_law_794 : decode cL_law 794 = .ok (.aload_n 0, 1) := by decide +kernel
theorem dL_law_795 : decode cL_law 795 = .ok (.iload_n 3, 1) := by decide +kernel
theorem dL_law_796 : decode cL_law 796 = .ok (.iconst 1, 1) := by decide +kernel
theorem dL_law_797 : decode cL_law 797 = .ok (.iadd, 1) := by decide +kernel
theorem dL_law_798 : decode cL_law 798 = .ok (.iaload, 1) := by decide +kernel
theorem dL_law_799 : decode cL_law 799 = .ok (.aload_n 0, 1) := by decide +kernel
theorem dL_law_800 : decode cL_law 800 = .ok (.iload_n 3, 1) := by decide +kernel
theorem dL_law_801 : decode cL_law 801 = .ok (.iconst 2, 1) := by decide +kernel
theorem dL_law_802 : decode cL_law 802 = .ok (.iadd, 1) := by decide +kernel
theorem dL_law_803 : decode cL_law 803 = .ok (.iaload, 1) := by decide +kernel
theorem dL_law_804 : decode cL_law 804 = .ok (.invokevirtual 92, 3) := by decide +kernel
theorem dL_law_807 : decode cL_law 807 = .ok (.if_icmp .eq 742, 3) := by decide +kernel
theorem dL_law_810 : decode cL_law 810 = .ok (.iconst 0, 1) := by decide +kernel
theorem dL_law_811 : decode cL_law 811 = .ok (.ireturn, 1) := by decide +kernel
theorem dL_law_812 : decode cL_law 812 = .ok (.aload_n 1, 1) := by decide +kernel
theorem dL_law_813 : decode cL_law 813 = .ok (.aload_n 0, 1) := by decide +kernel
theorem dL_law_814 : decode cL_law 814 = .ok (.iload_n 3, 1) := by decide +kernel
theorem dL_law_815 : decode cL_law 815 = .ok (.iconst 1, 1) := by decide +kernel
theorem dL_law_816 : decode cL_law 816 = .ok (.iadd, 1) := by decide +kernel
theorem dL_law_817 : decode cL_law 817 = .ok (.iaload, 1) := by decide +kernel
theorem dL_law_818 : decode cL_law 818 = .ok (.aload_n 0, 1) := by decide +kernel
theorem dL_law_819 : decode cL_law 819 = .ok (.iload_n 3, 1) := by decide +kernel
theorem dL_law_820 : decode cL_law 820 = .ok (.iconst 2, 1) := by decide +kernel
theorem dL_law_821 : decode cL_law 821 = .ok (.iadd, 1) := by decide +kernel
theorem dL_law_822 : decode cL_law 822 = .ok (.iaload, 1) := by decide +kernel
theorem dL_law_823 : decode cL_law 823 = .ok (.aload_n 0, 1) := by decide +kernel
theorem dL_law_824 : decode cL_law 824 = .ok (.iload_n 3, 1) := by decide +kernel
theorem dL_law_825 : decode cL_law 825 = .ok (.iconst 3, 1) := by decide +kernel
theorem dL_law_826 : decode cL_law 826 = .ok (.iadd, 1) := by decide +kernel
theorem dL_law_827 : decode cL_law 827 = .ok (.iaload, 1) := by decide +kernel
theorem dL_law_828 : decode cL_law 828 = .ok (.invokevirtual 93, 3) := by decide +kernel
theorem dL_law_831 : decode cL_law 831 = .ok (.aload_n 2, 1) := by decide +kernel
theorem dL_law_832 : decode cL_law 832 = .ok (.aload_n 0, 1) := by decide +kernel
theorem dL_law_833 : decode cL_law 833 = .ok (.iload_n 3, 1) := by decide +kernel
theorem dL_law_834 : decode cL_law 834 = .ok (.iconst 1, 1) := by decide +kernel
theorem dL_law_835 : decode cL_law 835 = .ok (.iadd, 1) := by decide +kernel
theorem dL_law_836 : decode cL_law 836 = .ok (.iaload, 1) := by decide +kernel
theorem dL_law_837 : decode cL_law 837 = .ok (.aload_n 0, 1) := by decide +kernel
theorem dL_law_838 : decode cL_law 838 = .ok (.iload_n 3, 1) := by decide +kernel
theorem dL_law_839 : decode cL_law 839 = .ok (.iconst 2, 1) := by decide +kernel
theorem dL_law_840 : decode cL_law 840 = .ok (.iadd, 1) := by decide +kernel
theorem dL_law_841 : decode cL_law 841 = .ok (.iaload, 1) := by decide +kernel
theorem dL_law_842 : decode cL_law 842 = .ok (.aload_n 0, 1) := by decide +kernel
theorem dL_law_843 : decode cL_law 843 = .ok (.iload_n 3, 1) := by decide +kernel
theorem dL_law_844 : decode cL_law 844 = .ok (.iconst 3, 1) := by decide +kernel
theorem dL_law_845 : decode cL_law 845 = .ok (.iadd, 1) := by decide +kernel
theorem dL_law_846 : decode cL_law 846 = .ok (.iaload, 1) := by decide +kernel
theorem dL_law_847 : decode cL_law 847 = .ok (.invokevirtual 96, 3) := by decide +kernel
theorem dL_law_850 : decode cL_law 850 = .ok (.if_icmp .eq 699, 3) := by decide +kernel
theorem dL_law_853 : decode cL_law 853 = .ok (.iconst 0, 1) := by decide +kernel
theorem dL_law_854 : decode cL_law 854 = .ok (.ireturn, 1) := by decide +kernel
theorem dL_law_855 : decode cL_law 855 = .ok (.aload_n 1, 1) := by decide +kernel
theorem dL_law_856 : decode cL_law 856 = .ok (.aload_n 0, 1) := by decide +kernel
theorem dL_law_857 : decode cL_law 857 = .ok (.iload_n 3, 1) := by decide +kernel
theorem dL_law_858 : decode cL_law 858 = .ok (.iconst 1, 1) := by decide +kernel
theorem dL_law_859 : decode cL_law 859 = .ok (.iadd, 1) := by decide +kernel
theorem dL_law_860 : decode cL_law 860 = .ok (.iaload, 1) := by decide +kernel
theorem dL_law_861 : decode cL_law 861 = .ok (.aload_n 0, 1) := by decide +kernel
theorem dL_law_862 : decode cL_law 862 = .ok (.iload_n 3, 1) := by decide +kernel
theorem dL_law_863 : decode cL_law 863 = .ok (.iconst 2, 1) := by decide +kernel
theorem dL_law_864 : decode cL_law 864 = .ok (.iadd, 1) := by decide +kernel
theorem dL_law_865 : decode cL_law 865 = .ok (.iaload, 1) := by decide +kernel
theorem dL_law_866 : decode cL_law 866 = .ok (.invokevirtual 97, 3) := by decide +kernel
theorem dL_law_869 : decode cL_law 869 = .ok (.aload_n 2, 1) := by decide +kernel
theorem dL_law_870 : decode cL_law 870 = .ok (.aload_n 0, 1) := by decide +kernel
theorem dL_law_871 : decode cL_law 871 = .ok (.iload_n 3, 1) := by decide +kernel
theorem dL_law_872 : decode cL_law 872 = .ok (.iconst 1, 1) := by decide +kernel
theorem dL_law_873 : decode cL_law 873 = .ok (.iadd, 1) := by decide +kernel
theorem dL_law_874 : decode cL_law 874 = .ok (.iaload, 1) := by decide +kernel
theorem dL_law_875 : decode cL_law 875 = .ok (.aload_n 0, 1) := by decide +kernel
theorem dL_law_876 : decode cL_law 876 = .ok (.iload_n 3, 1) := by decide +kernel
theorem dL_law_877 : decode cL_law 877 = .ok (.iconst 2, 1) := by decide +kernel
theorem dL_law_878 : decode cL_law 878 = .ok (.iadd, 1) := by decide +kernel
theorem dL_law_879 : decode cL_law 879 = .ok (.iaload, 1) := by decide +kernel
theorem dL_law_880 : decode cL_law 880 = .ok (.invokevirtual 100, 3) := by decide +kernel
theorem dL_law_883 : decode cL_law 883 = .ok (.if_icmp .eq 666, 3) := by decide +kernel
theorem dL_law_886 : decode cL_law 886 = .ok (.iconst 0, 1) := by decide +kernel
theorem dL_law_887 : decode cL_law 887 = .ok (.ireturn, 1) := by decide +kernel
theorem dL_law_888 : decode cL_law 888 = .ok (.aload_n 1, 1) := by decide +kernel
theorem dL_law_889 : decode cL_law 889 = .ok (.aload_n 0, 1) := by decide +kernel
theorem dL_law_890 : decode cL_law 890 = .ok (.iload_n 3, 1) := by decide +kernel
theorem dL_law_891 : decode cL_law 891 = .ok (.iconst 1, 1) := by decide +kernel
theorem dL_law_892 : decode cL_law 892 = .ok (.iadd, 1) := by decide +kernel
theorem dL_law_893 : decode cL_law 893 = .ok (.iaload, 1) := by decide +kernel
theorem dL_law_894 : decode cL_law 894 = .ok (.aload_n 0, 1) := by decide +kernel
theorem dL_law_895 : decode cL_law 895 = .ok (.iload_n 3, 1) := by decide +kernel
theorem dL_law_896 : decode cL_law 896 = .ok (.iconst 2, 1) := by decide +kernel
theorem dL_law_897 : decode cL_law 897 = .ok (.iadd, 1) := by decide +kernel
theorem dL_law_898 : decode cL_law 898 = .ok (.iaload, 1) := by decide +kernel
theorem dL_law_899 : decode cL_law 899 = .ok (.invokevirtual 101, 3) := by decide +kernel
theorem dL_law_902 : decode cL_law 902 = .ok (.aload_n 2, 1) := by decide +kernel
theorem dL_law_903 : decode cL_law 903 = .ok (.aload_n 0, 1) := by decide +kernel
theorem dL_law_904 : decode cL_law 904 = .ok (.iload_n 3, 1) := by decide +kernel
theorem dL_law_905 : decode cL_law 905 = .ok (.iconst 1, 1) := by decide +kernel
theorem dL_law_906 : decode cL_law 906 = .ok (.iadd, 1) := by decide +kernel
theorem dL_law_907 : decode cL_law 907 = .ok (.iaload, 1) := by decide +kernel
theorem dL_law_908 : decode cL_law 908 = .ok (.aload_n 0, 1) := by decide +kernel
theorem dL_law_909 : decode cL_law 909 = .ok (.iload_n 3, 1) := by decide +kernel
theorem dL_law_910 : decode cL_law 910 = .ok (.iconst 2, 1) := by decide +kernel
theorem dL_law_911 : decode cL_law 911 = .ok (.iadd, 1) := by decide +kernel
theorem dL_law_912 : decode cL_law 912 = .ok (.iaload, 1) := by decide +kernel
theorem dL_law_913 : decode cL_law 913 = .ok (.invokevirtual 104, 3) := by decide +kernel
theorem dL_law_916 : decode cL_law 916 = .ok (.if_icmp .eq 633, 3) := by decide +kernel
theorem dL_law_919 : decode cL_law 919 = .ok (.iconst 0, 1) := by decide +kernel
theorem dL_law_920 : decode cL_law 920 = .ok (.ireturn, 1) := by decide +kernel
theorem dL_law_921 : decode cL_law 921 = .ok (.aload_n 1, 1) := by decide +kernel
theorem dL_law_922 : decode cL_law 922 = .ok (.aload_n 0, 1) := by decide +kernel
theorem dL_law_923 : decode cL_law 923 = .ok (.iload_n 3, 1) := by decide +kernel
theorem dL_law_924 : decode cL_law 924 = .ok (.iconst 1, 1) := by decide +kernel
theorem dL_law_925 : decode cL_law 925 = .ok (.iadd, 1) := by decide +kernel
theorem dL_law_926 : decode cL_law 926 = .ok (.iaload, 1) := by decide +kernel
theorem dL_law_927 : decode cL_law 927 = .ok (.aload_n 0, 1) := by decide +kernel
theorem dL_law_928 : decode cL_law 928 = .ok (.iload_n 3, 1) := by decide +kernel
theorem dL_law_929 : decode cL_law 929 = .ok (.iconst 2, 1) := by decide +kernel
theorem dL_law_930 : decode cL_law 930 = .ok (.iadd, 1) := by decide +kernel
theorem dL_law_931 : decode cL_law 931 = .ok (.iaload, 1) := by decide +kernel
theorem dL_law_932 : decode cL_law 932 = .ok (.aload_n 0, 1) := by decide +kernel
theorem dL_law_933 : decode cL_law 933 = .ok (.iload_n 3, 1) := by decide +kernel
theorem dL_law_934 : decode cL_law 934 = .ok (.iconst 3, 1) := by decide +kernel
theorem dL_law_935 : decode cL_law 935 = .ok (.iadd, 1) := by decide +kernel
theorem dL_law_936 : decode cL_law 936 = .ok (.iaload, 1) := by decide +kernel
theorem dL_law_937 : decode cL_law 937 = .ok (.aload_n 0, 1) := by decide +kernel
theorem dL_law_938 : decode cL_law 938 = .ok (.iload_n 3, 1) := by decide +kernel
theorem dL_law_939 : decode cL_law 939 = .ok (.iconst 4, 1) := by decide +kernel
theorem dL_law_940 : decode cL_law 940 = .ok (.iadd, 1) := by decide +kernel
theorem dL_law_941 : decode cL_law 941 = .ok (.iaload, 1) := by decide +kernel
theorem dL_law_942 : decode cL_law 942 = .ok (.invokevirtual 105, 3) := by decide +kernel
theorem dL_law_945 : decode cL_law 945 = .ok (.aload_n 2, 1) := by decide +kernel
theorem dL_law_946 : decode cL_law 946 = .ok (.aload_n 0, 1) := by decide +kernel
theorem dL_law_947 : decode cL_law 947 = .ok (.iload_n 3, 1) := by decide +kernel
theorem dL_law_948 : decode cL_law 948 = .ok (.iconst 1, 1) := by decide +kernel
theorem dL_law_949 : decode cL_law 949 = .ok (.iadd, 1) := by decide +kernel
theorem dL_law_950 : decode cL_law 950 = .ok (.iaload, 1) := by decide +kernel
theorem dL_law_951 : decode cL_law 951 = .ok (.aload_n 0, 1) := by decide +kernel
theorem dL_law_952 : decode cL_law 952 = .ok (.iload_n 3, 1) := by decide +kernel
theorem dL_law_953 : decode cL_law 953 = .ok (.iconst 2, 1) := by decide +kernel
theorem dL_law_954 : decode cL_law 954 = .ok (.iadd, 1) := by decide +kernel
theorem dL_law_955 : decode cL_law 955 = .ok (.iaload, 1) := by decide +kernel
theorem dL_law_956 : decode cL_law 956 = .ok (.aload_n 0, 1) := by decide +kernel
theorem dL_law_957 : decode cL_law 957 = .ok (.iload_n 3, 1) := by decide +kernel
theorem dL_law_958 : decode cL_law 958 = .ok (.iconst 3, 1) := by decide +kernel
theorem dL_law_959 : decode cL_law 959 = .ok (.iadd, 1) := by decide +kernel
theorem dL_law_960 : decode cL_law 960 = .ok (.iaload, 1) := by decide +kernel
theorem dL_law_961 : decode cL_law 961 = .ok (.aload_n 0, 1) := by decide +kernel
theorem dL_law_962 : decode cL_law 962 = .ok (.iload_n 3, 1) := by decide +kernel
theorem dL_law_963 : decode cL_law 963 = .ok (.iconst 4, 1) := by decide +kernel
theorem dL_law_964 : decode cL_law 964 = .ok (.iadd, 1) := by decide +kernel
theorem dL_law_965 : decode cL_law 965 = .ok (.iaload, 1) := by decide +kernel
theorem dL_law_966 : decode cL_law 966 = .ok (.invokevirtual 108, 3) := by decide +kernel
theorem dL_law_969 : decode cL_law 969 = .ok (.if_icmp .eq 580, 3) := by decide +kernel
theorem dL_law_972 : decode cL_law 972 = .ok (.iconst 0, 1) := by decide +kernel
theorem dL_law_973 : decode cL_law 973 = .ok (.ireturn, 1) := by decide +kernel
theorem dL_law_974 : decode cL_law 974 = .ok (.aload_n 1, 1) := by decide +kernel
theorem dL_law_975 : decode cL_law 975 = .ok (.aload_n 0, 1) := by decide +kernel
theorem dL_law_976 : decode cL_law 976 = .ok (.iload_n 3, 1) := by decide +kernel
theorem dL_law_977 : decode cL_law 977 = .ok (.iconst 1, 1) := by decide +kernel
theorem dL_law_978 : decode cL_law 978 = .ok (.iadd, 1) := by decide +kernel
theorem dL_law_979 : decode cL_law 979 = .ok (.iaload, 1) := by decide +kernel
theorem dL_law_980 : decode cL_law 980 = .ok (.aload_n 0, 1) := by decide +kernel
theorem dL_law_981 : decode cL_law 981 = .ok (.iload_n 3, 1) := by decide +kernel
theorem dL_law_982 : decode cL_law 982 = .ok (.iconst 2, 1) := by decide +kernel
theorem dL_law_983 : decode cL_law 983 = .ok (.iadd, 1) := by decide +kernel
theorem dL_law_984 : decode cL_law 984 = .ok (.iaload, 1) := by decide +kernel
theorem dL_law_985 : decode cL_law 985 = .ok (.aload_n 0, 1) := by decide +kernel
theorem dL_law_986 : decode cL_law 986 = .ok (.iload_n 3, 1) := by decide +kernel
theorem dL_law_987 : decode cL_law 987 = .ok (.iconst 3, 1) := by decide +kernel
theorem dL_law_988 : decode cL_law 988 = .ok (.iadd, 1) := by decide +kernel
theorem dL_law_989 : decode cL_law 989 = .ok (.iaload, 1) := by decide +kernel
theorem dL_law_990 : decode cL_law 990 = .ok (.aload_n 0, 1) := by decide +kernel
theorem dL_law_991 : decode cL_law 991 = .ok (.iload_n 3, 1) := by decide +kernel
theorem dL_law_992 : decode cL_law 992 = .ok (.iconst 4, 1) := by decide +kernel
theorem dL_law_993 : decode cL_law 993 = .ok (.iadd, 1) := by decide +kernel
theorem dL_law_994 : decode cL_law 994 = .ok (.iaload, 1) := by decide +kernel
theorem dL_law_995 : decode cL_law 995 = .ok (.aload_n 0, 1) := by decide +kernel
theorem dL_law_996 : decode cL_law 996 = .ok (.iload_n 3, 1) := by decide +kernel
theorem dL_law_997 : decode cL_law 997 = .ok (.iconst 5, 1) := by decide +kernel
theorem dL_law_998 : decode cL_law 998 = .ok (.iadd, 1) := by decide +kernel
theorem dL_law_999 : decode cL_law 999 = .ok (.iaload, 1) := by decide +kernel
theorem dL_law_1000 : decode cL_law 1000 = .ok (.invokevirtual 109, 3) := by decide +kernel
theorem dL_law_1003 : decode cL_law 1003 = .ok (.aload_n 2, 1) := by decide +kernel
theorem dL_law_1004 : decode cL_law 1004 = .ok (.aload_n 0, 1) := by decide +kernel
theorem dL_law_1005 : decode cL_law 1005 = .ok (.iload_n 3, 1) := by decide +kernel
theorem dL_law_1006 : decode cL_law 1006 = .ok (.iconst 1, 1) := by decide +kernel
theorem dL_law_1007 : decode cL_law 1007 = .ok (.iadd, 1) := by decide +kernel
theorem dL_law_1008 : decode cL_law 1008 = .ok (.iaload, 1) := by decide +kernel
theorem dL_law_1009 : decode cL_law 1009 = .ok (.aload_n 0, 1) := by decide +kernel
theorem dL_law_1010 : decode cL_law 1010 = .ok (.iload_n 3, 1) := by decide +kernel
theorem dL_law_1011 : decode cL_law 1011 = .ok (.iconst 2, 1) := by decide +kernel
theorem dL_law_1012 : decode cL_law 1012 = .ok (.iadd, 1) := by decide +kernel
theorem dL_law_1013 : decode cL_law 1013 = .ok (.iaload, 1) := by decide +kernel
theorem dL_law_1014 : decode cL_law 1014 = .ok (.aload_n 0, 1) := by decide +kernel
theorem dL_law_1015 : decode cL_law 1015 = .ok (.iload_n 3, 1) := by decide +kernel
theorem dL_law_1016 : decode cL_law 1016 = .ok (.iconst 3, 1) := by decide +kernel
theorem dL_law_1017 : decode cL_law 1017 = .ok (.iadd, 1) := by decide +kernel
theorem dL_law_1018 : decode cL_law 1018 = .ok (.iaload, 1) := by decide +kernel
theorem dL_law_1019 : decode cL_law 1019 = .ok (.aload_n 0, 1) := by decide +kernel
theorem dL_law_1020 : decode cL_law 1020 = .ok (.iload_n 3, 1) := by decide +kernel
theorem dL_law_1021 : decode cL_law 1021 = .ok (.iconst 4, 1) := by decide +kernel
theorem dL_law_1022 : decode cL_law 1022 = .ok (.iadd, 1) := by decide +kernel
theorem dL_law_1023 : decode cL_law 1023 = .ok (.iaload, 1) := by decide +kernel
theorem dL_law_1024 : decode cL_law 1024 = .ok (.aload_n 0, 1) := by decide +kernel
theorem dL_law_1025 : decode cL_law 1025 = .ok (.iload_n 3, 1) := by decide +kernel
theorem dL_law_1026 : decode cL_law 1026 = .ok (.iconst 5, 1) := by decide +kernel
theorem dL_law_1027 : decode cL_law 1027 = .ok (.iadd, 1) := by decide +kernel
theorem dL_law_1028 : decode cL_law 1028 = .ok (.iaload, 1) := by decide +kernel
theorem dL_law_1029 : decode cL_law 1029 = .ok (.invokevirtual 113, 3) := by decide +kernel
theorem dL_law_1032 : decode cL_law 1032 = .ok (.lcmp, 1) := by decide +kernel
theorem dL_law_1033 : decode cL_law 1033 = .ok (.ifCond .eq 516, 3) := by decide +kernel
theorem dL_law_1036 : decode cL_law 1036 = .ok (.iconst 0, 1) := by decide +kernel
theorem dL_law_1037 : decode cL_law 1037 = .ok (.ireturn, 1) := by decide +kernel
theorem dL_law_1038 : decode cL_law 1038 = .ok (.aload_n 1, 1) := by decide +kernel
theorem dL_law_1039 : decode cL_law 1039 = .ok (.aload_n 0, 1) := by decide +kernel
theorem dL_law_1040 : decode cL_law 1040 = .ok (.iload_n 3, 1) := by decide +kernel
theorem dL_law_1041 : decode cL_law 1041 = .ok (.iconst 1, 1) := by decide +kernel
theorem dL_law_1042 : decode cL_law 1042 = .ok (.iadd, 1) := by decide +kernel
theorem dL_law_1043 : decode cL_law 1043 = .ok (.iaload, 1) := by decide +kernel
theorem dL_law_1044 : decode cL_law 1044 = .ok (.aload_n 0, 1) := by decide +kernel
theorem dL_law_1045 : decode cL_law 1045 = .ok (.iload_n 3, 1) := by decide +kernel
theorem dL_law_1046 : decode cL_law 1046 = .ok (.iconst 2, 1) := by decide +kernel
theorem dL_law_1047 : decode cL_law 1047 = .ok (.iadd, 1) := by decide +kernel
theorem dL_law_1048 : decode cL_law 1048 = .ok (.iaload, 1) := by decide +kernel
theorem dL_law_1049 : decode cL_law 1049 = .ok (.aload_n 0, 1) := by decide +kernel
theorem dL_law_1050 : decode cL_law 1050 = .ok (.iload_n 3, 1) := by decide +kernel
theorem dL_law_1051 : decode cL_law 1051 = .ok (.iconst 3, 1) := by decide +kernel
theorem dL_law_1052 : decode cL_law 1052 = .ok (.iadd, 1) := by decide +kernel
theorem dL_law_1053 : decode cL_law 1053 = .ok (.iaload, 1) := by decide +kernel
theorem dL_law_1054 : decode cL_law 1054 = .ok (.invokevirtual 114, 3) := by decide +kernel
theorem dL_law_1057 : decode cL_law 1057 = .ok (.aload_n 2, 1) := by decide +kernel
theorem dL_law_1058 : decode cL_law 1058 = .ok (.aload_n 0, 1) := by decide +kernel
theorem dL_law_1059 : decode cL_law 1059 = .ok (.iload_n 3, 1) := by decide +kernel
theorem dL_law_1060 : decode cL_law 1060 = .ok (.iconst 1, 1) := by decide +kernel
theorem dL_law_1061 : decode cL_law 1061 = .ok (.iadd, 1) := by decide +kernel
theorem dL_law_1062 : decode cL_law 1062 = .ok (.iaload, 1) := by decide +kernel
theorem dL_law_1063 : decode cL_law 1063 = .ok (.aload_n 0, 1) := by decide +kernel
theorem dL_law_1064 : decode cL_law 1064 = .ok (.iload_n 3, 1) := by decide +kernel
theorem dL_law_1065 : decode cL_law 1065 = .ok (.iconst 2, 1) := by decide +kernel
theorem dL_law_1066 : decode cL_law 1066 = .ok (.iadd, 1) := by decide +kernel
theorem dL_law_1067 : decode cL_law 1067 = .ok (.iaload, 1) := by decide +kernel
theorem dL_law_1068 : decode cL_law 1068 = .ok (.aload_n 0, 1) := by decide +kernel
theorem dL_law_1069 : decode cL_law 1069 = .ok (.iload_n 3, 1) := by decide +kernel
theorem dL_law_1070 : decode cL_law 1070 = .ok (.iconst 3, 1) := by decide +kernel
theorem dL_law_1071 : decode cL_law 1071 = .ok (.iadd, 1) := by decide +kernel
theorem dL_law_1072 : decode cL_law 1072 = .ok (.iaload, 1) := by decide +kernel
theorem dL_law_1073 : decode cL_law 1073 = .ok (.invokevirtual 117, 3) := by decide +kernel
theorem dL_law_1076 : decode cL_law 1076 = .ok (.if_icmp .eq 473, 3) := by decide +kernel
theorem dL_law_1079 : decode cL_law 1079 = .ok (.iconst 0, 1) := by decide +kernel
theorem dL_law_1080 : decode cL_law 1080 = .ok (.ireturn, 1) := by decide +kernel
theorem dL_law_1081 : decode cL_law 1081 = .ok (.aload_n 1, 1) := by decide +kernel
theorem dL_law_1082 : decode cL_law 1082 = .ok (.aload_n 0, 1) := by decide +kernel
theorem dL_law_1083 : decode cL_law 1083 = .ok (.iload_n 3, 1) := by decide +kernel
theorem dL_law_1084 : decode cL_law 1084 = .ok (.iconst 1, 1) := by decide +kernel
theorem dL_law_1085 : decode cL_law 1085 = .ok (.iadd, 1) := by decide +kernel
theorem dL_law_1086 : decode cL_law 1086 = .ok (.iaload, 1) := by decide +kernel
theorem dL_law_1087 : decode cL_law 1087 = .ok (.aload_n 0, 1) := by decide +kernel
theorem dL_law_1088 : decode cL_law 1088 = .ok (.iload_n 3, 1) := by decide +kernel
theorem dL_law_1089 : decode cL_law 1089 = .ok (.iconst 2, 1) := by decide +kernel
theorem dL_law_1090 : decode cL_law 1090 = .ok (.iadd, 1) := by decide +kernel
theorem dL_law_1091 : decode cL_law 1091 = .ok (.iaload, 1) := by decide +kernel
theorem dL_law_1092 : decode cL_law 1092 = .ok (.aload_n 0, 1) := by decide +kernel
theorem dL_law_1093 : decode cL_law 1093 = .ok (.iload_n 3, 1) := by decide +kernel
theorem dL_law_1094 : decode cL_law 1094 = .ok (.iconst 3, 1) := by decide +kernel
theorem dL_law_1095 : decode cL_law 1095 = .ok (.iadd, 1) := by decide +kernel
theorem dL_law_1096 : decode cL_law 1096 = .ok (.iaload, 1) := by decide +kernel
theorem dL_law_1097 : decode cL_law 1097 = .ok (.invokevirtual 118, 3) := by decide +kernel
theorem dL_law_1100 : decode cL_law 1100 = .ok (.aload_n 2, 1) := by decide +kernel
theorem dL_law_1101 : decode cL_law 1101 = .ok (.aload_n 0, 1) := by decide +kernel
theorem dL_law_1102 : decode cL_law 1102 = .ok (.iload_n 3, 1) := by decide +kernel
theorem dL_law_1103 : decode cL_law 1103 = .ok (.iconst 1, 1) := by decide +kernel
theorem dL_law_1104 : decode cL_law 1104 = .ok (.iadd, 1) := by decide +kernel
theorem dL_law_1105 : decode cL_law 1105 = .ok (.iaload, 1) := by decide +kernel
theorem dL_law_1106 : decode cL_law 1106 = .ok (.aload_n 0, 1) := by decide +kernel
theorem dL_law_1107 : decode cL_law 1107 = .ok (.iload_n 3, 1) := by decide +kernel
theorem dL_law_1108 : decode cL_law 1108 = .ok (.iconst 2, 1) := by decide +kernel
theorem dL_law_1109 : decode cL_law 1109 = .ok (.iadd, 1) := by decide +kernel
theorem dL_law_1110 : decode cL_law 1110 = .ok (.iaload, 1) := by decide +kernel
theorem dL_law_1111 : decode cL_law 1111 = .ok (.aload_n 0, 1) := by decide +kernel
theorem dL_law_1112 : decode cL_law 1112 = .ok (.iload_n 3, 1) := by decide +kernel
theorem dL_law_1113 : decode cL_law 1113 = .ok (.iconst 3, 1) := by decide +kernel
theorem dL_law_1114 : decode cL_law 1114 = .ok (.iadd, 1) := by decide +kernel
theorem dL_law_1115 : decode cL_law 1115 = .ok (.iaload, 1) := by decide +kernel
theorem dL_law_1116 : decode cL_law 1116 = .ok (.invokevirtual 121, 3) := by decide +kernel
theorem dL_law_1119 : decode cL_law 1119 = .ok (.if_icmp .eq 430, 3) := by decide +kernel
theorem dL_law_1122 : decode cL_law 1122 = .ok (.iconst 0, 1) := by decide +kernel
theorem dL_law_1123 : decode cL_law 1123 = .ok (.ireturn, 1) := by decide +kernel
theorem dL_law_1124 : decode cL_law 1124 = .ok (.aload_n 1, 1) := by decide +kernel
theorem dL_law_1125 : decode cL_law 1125 = .ok (.aload_n 0, 1) := by decide +kernel
theorem dL_law_1126 : decode cL_law 1126 = .ok (.iload_n 3, 1) := by decide +kernel
theorem dL_law_1127 : decode cL_law 1127 = .ok (.iconst 1, 1) := by decide +kernel
theorem dL_law_1128 : decode cL_law 1128 = .ok (.iadd, 1) := by decide +kernel
theorem dL_law_1129 : decode cL_law 1129 = .ok (.iaload, 1) := by decide +kernel
theorem dL_law_1130 : decode cL_law 1130 = .ok (.aload_n 0, 1) := by decide +kernel
theorem dL_law_1131 : decode cL_law 1131 = .ok (.iload_n 3, 1) := by decide +kernel
theorem dL_law_1132 : decode cL_law 1132 = .ok (.iconst 2, 1) := by decide +kernel
theorem dL_law_1133 : decode cL_law 1133 = .ok (.iadd, 1) := by decide +kernel
theorem dL_law_1134 : decode cL_law 1134 = .ok (.iaload, 1) := by decide +kernel
theorem dL_law_1135 : decode cL_law 1135 = .ok (.invokevirtual 122, 3) := by decide +kernel
theorem dL_law_1138 : decode cL_law 1138 = .ok (.aload_n 2, 1) := by decide +kernel
theorem dL_law_1139 : decode cL_law 1139 = .ok (.aload_n 0, 1) := by decide +kernel
theorem dL_law_1140 : decode cL_law 1140 = .ok (.iload_n 3, 1) := by decide +kernel
theorem dL_law_1141 : decode cL_law 1141 = .ok (.iconst 1, 1) := by decide +kernel
theorem dL_law_1142 : decode cL_law 1142 = .ok (.iadd, 1) := by decide +kernel
theorem dL_law_1143 : decode cL_law 1143 = .ok (.iaload, 1) := by decide +kernel
theorem dL_law_1144 : decode cL_law 1144 = .ok (.aload_n 0, 1) := by decide +kernel
theorem dL_law_1145 : decode cL_law 1145 = .ok (.iload_n 3, 1) := by decide +kernel
theorem dL_law_1146 : decode cL_law 1146 = .ok (.iconst 2, 1) := by decide +kernel
theorem dL_law_1147 : decode cL_law 1147 = .ok (.iadd, 1) := by decide +kernel
theorem dL_law_1148 : decode cL_law 1148 = .ok (.iaload, 1) := by decide +kernel
theorem dL_law_1149 : decode cL_law 1149 = .ok (.invokevirtual 125, 3) := by decide +kernel
theorem dL_law_1152 : decode cL_law 1152 = .ok (.if_icmp .eq 397, 3) := by decide +kernel
theorem dL_law_1155 : decode cL_law 1155 = .ok (.iconst 0, 1) := by decide +kernel
theorem dL_law_1156 : decode cL_law 1156 = .ok (.ireturn, 1) := by decide +kernel
theorem dL_law_1157 : decode cL_law 1157 = .ok (.aload_n 1, 1) := by decide +kernel
theorem dL_law_1158 : decode cL_law 1158 = .ok (.aload_n 0, 1) := by decide +kernel
theorem dL_law_1159 : decode cL_law 1159 = .ok (.iload_n 3, 1) := by decide +kernel
theorem dL_law_1160 : decode cL_law 1160 = .ok (.iconst 1, 1) := by decide +kernel
theorem dL_law_1161 : decode cL_law 1161 = .ok (.iadd, 1) := by decide +kernel
theorem dL_law_1162 : decode cL_law 1162 = .ok (.iaload, 1) := by decide +kernel
theorem dL_law_1163 : decode cL_law 1163 = .ok (.invokevirtual 126, 3) := by decide +kernel
theorem dL_law_1166 : decode cL_law 1166 = .ok (.aload_n 2, 1) := by decide +kernel
theorem dL_law_1167 : decode cL_law 1167 = .ok (.aload_n 0, 1) := by decide +kernel
theorem dL_law_1168 : decode cL_law 1168 = .ok (.iload_n 3, 1) := by decide +kernel
theorem dL_law_1169 : decode cL_law 1169 = .ok (.iconst 1, 1) := by decide +kernel
theorem dL_law_1170 : decode cL_law 1170 = .ok (.iadd, 1) := by decide +kernel
theorem dL_law_1171 : decode cL_law 1171 = .ok (.iaload, 1) := by decide +kernel
theorem dL_law_1172 : decode cL_law 1172 = .ok (.invokevirtual 129, 3) := by decide +kernel
theorem dL_law_1175 : decode cL_law 1175 = .ok (.if_icmp .eq 374, 3) := by decide +kernel
theorem dL_law_1178 : decode cL_law 1178 = .ok (.iconst 0, 1) := by decide +kernel
theorem dL_law_1179 : decode cL_law 1179 = .ok (.ireturn, 1) := by decide +kernel
theorem dL_law_1180 : decode cL_law 1180 = .ok (.aload_n 1, 1) := by decide +kernel
theorem dL_law_1181 : decode cL_law 1181 = .ok (.aload_n 0, 1) := by decide +kernel
theorem dL_law_1182 : decode cL_law 1182 = .ok (.iload_n 3, 1) := by decide +kernel
theorem dL_law_1183 : decode cL_law 1183 = .ok (.iconst 1, 1) := by decide +kernel
theorem dL_law_1184 : decode cL_law 1184 = .ok (.iadd, 1) := by decide +kernel
theorem dL_law_1185 : decode cL_law 1185 = .ok (.iaload, 1) := by decide +kernel
theorem dL_law_1186 : decode cL_law 1186 = .ok (.aload_n 0, 1) := by decide +kernel
theorem dL_law_1187 : decode cL_law 1187 = .ok (.iload_n 3, 1) := by decide +kernel
theorem dL_law_1188 : decode cL_law 1188 = .ok (.iconst 2, 1) := by decide +kernel
theorem dL_law_1189 : decode cL_law 1189 = .ok (.iadd, 1) := by decide +kernel
theorem dL_law_1190 : decode cL_law 1190 = .ok (.iaload, 1) := by decide +kernel
theorem dL_law_1191 : decode cL_law 1191 = .ok (.aload_n 0, 1) := by decide +kernel
theorem dL_law_1192 : decode cL_law 1192 = .ok (.iload_n 3, 1) := by decide +kernel
theorem dL_law_1193 : decode cL_law 1193 = .ok (.iconst 3, 1) := by decide +kernel
theorem dL_law_1194 : decode cL_law 1194 = .ok (.iadd, 1) := by decide +kernel
theorem dL_law_1195 : decode cL_law 1195 = .ok (.iaload, 1) := by decide +kernel
theorem dL_law_1196 : decode cL_law 1196 = .ok (.invokevirtual 130, 3) := by decide +kernel
theorem dL_law_1199 : decode cL_law 1199 = .ok (.aload_n 2, 1) := by decide +kernel
theorem dL_law_1200 : decode cL_law 1200 = .ok (.aload_n 0, 1) := by decide +kernel
theorem dL_law_1201 : decode cL_law 1201 = .ok (.iload_n 3, 1) := by decide +kernel
theorem dL_law_1202 : decode cL_law 1202 = .ok (.iconst 1, 1) := by decide +kernel
theorem dL_law_1203 : decode cL_law 1203 = .ok (.iadd, 1) := by decide +kernel
theorem dL_law_1204 : decode cL_law 1204 = .ok (.iaload, 1) := by decide +kernel
theorem dL_law_1205 : decode cL_law 1205 = .ok (.aload_n 0, 1) := by decide +kernel
theorem dL_law_1206 : decode cL_law 1206 = .ok (.iload_n 3, 1) := by decide +kernel
theorem dL_law_1207 : decode cL_law 1207 = .ok (.iconst 2, 1) := by decide +kernel
theorem dL_law_1208 : decode cL_law 1208 = .ok (.iadd, 1) := by decide +kernel
theorem dL_law_1209 : decode cL_law 1209 = .ok (.iaload, 1) := by decide +kernel
theorem dL_law_1210 : decode cL_law 1210 = .ok (.aload_n 0, 1) := by decide +kernel
theorem dL_law_1211 : decode cL_law 1211 = .ok (.iload_n 3, 1) := by decide +kernel
theorem dL_law_1212 : decode cL_law 1212 = .ok (.iconst 3, 1) := by decide +kernel
theorem dL_law_1213 : decode cL_law 1213 = .ok (.iadd, 1) := by decide +kernel
theorem dL_law_1214 : decode cL_law 1214 = .ok (.iaload, 1) := by decide +kernel
theorem dL_law_1215 : decode cL_law 1215 = .ok (.invokevirtual 133, 3) := by decide +kernel
theorem dL_law_1218 : decode cL_law 1218 = .ok (.if_icmp .eq 331, 3) := by decide +kernel
theorem dL_law_1221 : decode cL_law 1221 = .ok (.iconst 0, 1) := by decide +kernel
theorem dL_law_1222 : decode cL_law 1222 = .ok (.ireturn, 1) := by decide +kernel
theorem dL_law_1223 : decode cL_law 1223 = .ok (.aload_n 1, 1) := by decide +kernel
theorem dL_law_1224 : decode cL_law 1224 = .ok (.aload_n 0, 1) := by decide +kernel
theorem dL_law_1225 : decode cL_law 1225 = .ok (.iload_n 3, 1) := by decide +kernel
theorem dL_law_1226 : decode cL_law 1226 = .ok (.iconst 1, 1) := by decide +kernel
theorem dL_law_1227 : decode cL_law 1227 = .ok (.iadd, 1) := by decide +kernel
theorem dL_law_1228 : decode cL_law 1228 = .ok (.iaload, 1) := by decide +kernel
theorem dL_law_1229 : decode cL_law 1229 = .ok (.invokevirtual 134, 3) := by decide +kernel
theorem dL_law_1232 : decode cL_law 1232 = .ok (.aload_n 2, 1) := by decide +kernel
theorem dL_law_1233 : decode cL_law 1233 = .ok (.aload_n 0, 1) := by decide +kernel
theorem dL_law_1234 : decode cL_law 1234 = .ok (.iload_n 3, 1) := by decide +kernel
theorem dL_law_1235 : decode cL_law 1235 = .ok (.iconst 1, 1) := by decide +kernel
theorem dL_law_1236 : decode cL_law 1236 = .ok (.iadd, 1) := by decide +kernel
theorem dL_law_1237 : decode cL_law 1237 = .ok (.iaload, 1) := by decide +kernel
theorem dL_law_1238 : decode cL_law 1238 = .ok (.invokevirtual 137, 3) := by decide +kernel
theorem dL_law_1241 : decode cL_law 1241 = .ok (.if_icmp .eq 308, 3) := by decide +kernel
theorem dL_law_1244 : decode cL_law 1244 = .ok (.iconst 0, 1) := by decide +kernel
theorem dL_law_1245 : decode cL_law 1245 = .ok (.ireturn, 1) := by decide +kernel
theorem dL_law_1246 : decode cL_law 1246 = .ok (.aload_n 1, 1) := by decide +kernel
theorem dL_law_1247 : decode cL_law 1247 = .ok (.aload_n 0, 1) := by decide +kernel
theorem dL_law_1248 : decode cL_law 1248 = .ok (.iload_n 3, 1) := by decide +kernel
theorem dL_law_1249 : decode cL_law 1249 = .ok (.iconst 1, 1) := by decide +kernel
theorem dL_law_1250 : decode cL_law 1250 = .ok (.iadd, 1) := by decide +kernel
theorem dL_law_1251 : decode cL_law 1251 = .ok (.iaload, 1) := by decide +kernel
theorem dL_law_1252 : decode cL_law 1252 = .ok (.aload_n 0, 1) := by decide +kernel
theorem dL_law_1253 : decode cL_law 1253 = .ok (.iload_n 3, 1) := by decide +kernel
theorem dL_law_1254 : decode cL_law 1254 = .ok (.iconst 2, 1) := by decide +kernel
theorem dL_law_1255 : decode cL_law 1255 = .ok (.iadd, 1) := by decide +kernel
theorem dL_law_1256 : decode cL_law 1256 = .ok (.iaload, 1) := by decide +kernel
theorem dL_law_1257 : decode cL_law 1257 = .ok (.aload_n 0, 1) := by decide +kernel
theorem dL_law_1258 : decode cL_law 1258 = .ok (.iload_n 3, 1) := by decide +kernel
theorem dL_law_1259 : decode cL_law 1259 = .ok (.iconst 3, 1) := by decide +kernel
theorem dL_law_1260 : decode cL_law 1260 = .ok (.iadd, 1) := by decide +kernel
theorem dL_law_1261 : decode cL_law 1261 = .ok (.iaload, 1) := by decide +kernel
theorem dL_law_1262 : decode cL_law 1262 = .ok (.invokevirtual 138, 3) := by decide +kernel
theorem dL_law_1265 : decode cL_law 1265 = .ok (.aload_n 2, 1) := by decide +kernel
theorem dL_law_1266 : decode cL_law 1266 = .ok (.aload_n 0, 1) := by decide +kernel
theorem dL_law_1267 : decode cL_law 1267 = .ok (.iload_n 3, 1) := by decide +kernel
theorem dL_law_1268 : decode cL_law 1268 = .ok (.iconst 1, 1) := by decide +kernel
theorem dL_law_1269 : decode cL_law 1269 = .ok (.iadd, 1) := by decide +kernel
theorem dL_law_1270 : decode cL_law 1270 = .ok (.iaload, 1) := by decide +kernel
theorem dL_law_1271 : decode cL_law 1271 = .ok (.aload_n 0, 1) := by decide +kernel
theorem dL_law_1272 : decode cL_law 1272 = .ok (.iload_n 3, 1) := by decide +kernel
theorem dL_law_1273 : decode cL_law 1273 = .ok (.iconst 2, 1) := by decide +kernel
theorem dL_law_1274 : decode cL_law 1274 = .ok (.iadd, 1) := by decide +kernel
theorem dL_law_1275 : decode cL_law 1275 = .ok (.iaload, 1) := by decide +kernel
theorem dL_law_1276 : decode cL_law 1276 = .ok (.aload_n 0, 1) := by decide +kernel
theorem dL_law_1277 : decode cL_law 1277 = .ok (.iload_n 3, 1) := by decide +kernel
theorem dL_law_1278 : decode cL_law 1278 = .ok (.iconst 3, 1) := by decide +kernel
theorem dL_law_1279 : decode cL_law 1279 = .ok (.iadd, 1) := by decide +kernel
theorem dL_law_1280 : decode cL_law 1280 = .ok (.iaload, 1) := by decide +kernel
theorem dL_law_1281 : decode cL_law 1281 = .ok (.invokevirtual 141, 3) := by decide +kernel
theorem dL_law_1284 : decode cL_law 1284 = .ok (.if_icmp .eq 265, 3) := by decide +kernel
theorem dL_law_1287 : decode cL_law 1287 = .ok (.iconst 0, 1) := by decide +kernel
theorem dL_law_1288 : decode cL_law 1288 = .ok (.ireturn, 1) := by decide +kernel
theorem dL_law_1289 : decode cL_law 1289 = .ok (.aload_n 1, 1) := by decide +kernel
theorem dL_law_1290 : decode cL_law 1290 = .ok (.aload_n 0, 1) := by decide +kernel
theorem dL_law_1291 : decode cL_law 1291 = .ok (.iload_n 3, 1) := by decide +kernel
theorem dL_law_1292 : decode cL_law 1292 = .ok (.iconst 1, 1) := by decide +kernel
theorem dL_law_1293 : decode cL_law 1293 = .ok (.iadd, 1) := by decide +kernel
theorem dL_law_1294 : decode cL_law 1294 = .ok (.iaload, 1) := by decide +kernel
theorem dL_law_1295 : decode cL_law 1295 = .ok (.aload_n 0, 1) := by decide +kernel
theorem dL_law_1296 : decode cL_law 1296 = .ok (.iload_n 3, 1) := by decide +kernel
theorem dL_law_1297 : decode cL_law 1297 = .ok (.iconst 2, 1) := by decide +kernel
theorem dL_law_1298 : decode cL_law 1298 = .ok (.iadd, 1) := by decide +kernel
theorem dL_law_1299 : decode cL_law 1299 = .ok (.iaload, 1) := by decide +kernel
theorem dL_law_1300 : decode cL_law 1300 = .ok (.aload_n 0, 1) := by decide +kernel
theorem dL_law_1301 : decode cL_law 1301 = .ok (.iload_n 3, 1) := by decide +kernel
theorem dL_law_1302 : decode cL_law 1302 = .ok (.iconst 3, 1) := by decide +kernel
theorem dL_law_1303 : decode cL_law 1303 = .ok (.iadd, 1) := by decide +kernel
theorem dL_law_1304 : decode cL_law 1304 = .ok (.iaload, 1) := by decide +kernel
theorem dL_law_1305 : decode cL_law 1305 = .ok (.invokevirtual 142, 3) := by decide +kernel
theorem dL_law_1308 : decode cL_law 1308 = .ok (.aload_n 2, 1) := by decide +kernel
theorem dL_law_1309 : decode cL_law 1309 = .ok (.aload_n 0, 1) := by decide +kernel
theorem dL_law_1310 : decode cL_law 1310 = .ok (.iload_n 3, 1) := by decide +kernel
theorem dL_law_1311 : decode cL_law 1311 = .ok (.iconst 1, 1) := by decide +kernel
theorem dL_law_1312 : decode cL_law 1312 = .ok (.iadd, 1) := by decide +kernel
theorem dL_law_1313 : decode cL_law 1313 = .ok (.iaload, 1) := by decide +kernel
theorem dL_law_1314 : decode cL_law 1314 = .ok (.aload_n 0, 1) := by decide +kernel
theorem dL_law_1315 : decode cL_law 1315 = .ok (.iload_n 3, 1) := by decide +kernel
theorem dL_law_1316 : decode cL_law 1316 = .ok (.iconst 2, 1) := by decide +kernel
theorem dL_law_1317 : decode cL_law 1317 = .ok (.iadd, 1) := by decide +kernel
theorem dL_law_1318 : decode cL_law 1318 = .ok (.iaload, 1) := by decide +kernel
theorem dL_law_1319 : decode cL_law 1319 = .ok (.aload_n 0, 1) := by decide +kernel
theorem dL_law_1320 : decode cL_law 1320 = .ok (.iload_n 3, 1) := by decide +kernel
theorem dL_law_1321 : decode cL_law 1321 = .ok (.iconst 3, 1) := by decide +kernel
theorem dL_law_1322 : decode cL_law 1322 = .ok (.iadd, 1) := by decide +kernel
theorem dL_law_1323 : decode cL_law 1323 = .ok (.iaload, 1) := by decide +kernel
theorem dL_law_1324 : decode cL_law 1324 = .ok (.invokevirtual 145, 3) := by decide +kernel
theorem dL_law_1327 : decode cL_law 1327 = .ok (.if_icmp .eq 222, 3) := by decide +kernel
theorem dL_law_1330 : decode cL_law 1330 = .ok (.iconst 0, 1) := by decide +kernel
theorem dL_law_1331 : decode cL_law 1331 = .ok (.ireturn, 1) := by decide +kernel
theorem dL_law_1332 : decode cL_law 1332 = .ok (.aload_n 1, 1) := by decide +kernel
theorem dL_law_1333 : decode cL_law 1333 = .ok (.aload_n 0, 1) := by decide +kernel
theorem dL_law_1334 : decode cL_law 1334 = .ok (.iload_n 3, 1) := by decide +kernel
theorem dL_law_1335 : decode cL_law 1335 = .ok (.iconst 1, 1) := by decide +kernel
theorem dL_law_1336 : decode cL_law 1336 = .ok (.iadd, 1) := by decide +kernel
theorem dL_law_1337 : decode cL_law 1337 = .ok (.iaload, 1) := by decide +kernel
theorem dL_law_1338 : decode cL_law 1338 = .ok (.aload_n 0, 1) := by decide +kernel
theorem dL_law_1339 : decode cL_law 1339 = .ok (.iload_n 3, 1) := by decide +kernel
theorem dL_law_1340 : decode cL_law 1340 = .ok (.iconst 2, 1) := by decide +kernel
theorem dL_law_1341 : decode cL_law 1341 = .ok (.iadd, 1) := by decide +kernel
theorem dL_law_1342 : decode cL_law 1342 = .ok (.iaload, 1) := by decide +kernel
theorem dL_law_1343 : decode cL_law 1343 = .ok (.aload_n 0, 1) := by decide +kernel
theorem dL_law_1344 : decode cL_law 1344 = .ok (.iload_n 3, 1) := by decide +kernel
theorem dL_law_1345 : decode cL_law 1345 = .ok (.iconst 3, 1) := by decide +kernel
theorem dL_law_1346 : decode cL_law 1346 = .ok (.iadd, 1) := by decide +kernel
theorem dL_law_1347 : decode cL_law 1347 = .ok (.iaload, 1) := by decide +kernel
theorem dL_law_1348 : decode cL_law 1348 = .ok (.aload_n 0, 1) := by decide +kernel
theorem dL_law_1349 : decode cL_law 1349 = .ok (.iload_n 3, 1) := by decide +kernel
theorem dL_law_1350 : decode cL_law 1350 = .ok (.iconst 4, 1) := by decide +kernel
theorem dL_law_1351 : decode cL_law 1351 = .ok (.iadd, 1) := by decide +kernel
theorem dL_law_1352 : decode cL_law 1352 = .ok (.iaload, 1) := by decide +kernel
theorem dL_law_1353 : decode cL_law 1353 = .ok (.aload_n 0, 1) := by decide +kernel
theorem dL_law_1354 : decode cL_law 1354 = .ok (.iload_n 3, 1) := by decide +kernel
theorem dL_law_1355 : decode cL_law 1355 = .ok (.iconst 5, 1) := by decide +kernel
theorem dL_law_1356 : decode cL_law 1356 = .ok (.iadd, 1) := by decide +kernel
theorem dL_law_1357 : decode cL_law 1357 = .ok (.iaload, 1) := by decide +kernel
theorem dL_law_1358 : decode cL_law 1358 = .ok (.invokevirtual 146, 3) := by decide +kernel
theorem dL_law_1361 : decode cL_law 1361 = .ok (.aload_n 2, 1) := by decide +kernel
theorem dL_law_1362 : decode cL_law 1362 = .ok (.aload_n 0, 1) := by decide +kernel
theorem dL_law_1363 : decode cL_law 1363 = .ok (.iload_n 3, 1) := by decide +kernel
theorem dL_law_1364 : decode cL_law 1364 = .ok (.iconst 1, 1) := by decide +kernel
theorem dL_law_1365 : decode cL_law 1365 = .ok (.iadd, 1) := by decide +kernel
theorem dL_law_1366 : decode cL_law 1366 = .ok (.iaload, 1) := by decide +kernel
theorem dL_law_1367 : decode cL_law 1367 = .ok (.aload_n 0, 1) := by decide +kernel
theorem dL_law_1368 : decode cL_law 1368 = .ok (.iload_n 3, 1) := by decide +kernel
theorem dL_law_1369 : decode cL_law 1369 = .ok (.iconst 2, 1) := by decide +kernel
theorem dL_law_1370 : decode cL_law 1370 = .ok (.iadd, 1) := by decide +kernel
theorem dL_law_1371 : decode cL_law 1371 = .ok (.iaload, 1) := by decide +kernel
theorem dL_law_1372 : decode cL_law 1372 = .ok (.aload_n 0, 1) := by decide +kernel
theorem dL_law_1373 : decode cL_law 1373 = .ok (.iload_n 3, 1) := by decide +kernel
theorem dL_law_1374 : decode cL_law 1374 = .ok (.iconst 3, 1) := by decide +kernel
theorem dL_law_1375 : decode cL_law 1375 = .ok (.iadd, 1) := by decide +kernel
theorem dL_law_1376 : decode cL_law 1376 = .ok (.iaload, 1) := by decide +kernel
theorem dL_law_1377 : decode cL_law 1377 = .ok (.aload_n 0, 1) := by decide +kernel
theorem dL_law_1378 : decode cL_law 1378 = .ok (.iload_n 3, 1) := by decide +kernel
theorem dL_law_1379 : decode cL_law 1379 = .ok (.iconst 4, 1) := by decide +kernel
theorem dL_law_1380 : decode cL_law 1380 = .ok (.iadd, 1) := by decide +kernel
theorem dL_law_1381 : decode cL_law 1381 = .ok (.iaload, 1) := by decide +kernel
theorem dL_law_1382 : decode cL_law 1382 = .ok (.aload_n 0, 1) := by decide +kernel
theorem dL_law_1383 : decode cL_law 1383 = .ok (.iload_n 3, 1) := by decide +kernel
theorem dL_law_1384 : decode cL_law 1384 = .ok (.iconst 5, 1) := by decide +kernel
theorem dL_law_1385 : decode cL_law 1385 = .ok (.iadd, 1) := by decide +kernel
theorem dL_law_1386 : decode cL_law 1386 = .ok (.iaload, 1) := by decide +kernel
theorem dL_law_1387 : decode cL_law 1387 = .ok (.invokevirtual 150, 3) := by decide +kernel
theorem dL_law_1390 : decode cL_law 1390 = .ok (.if_icmp .eq 159, 3) := by decide +kernel
theorem dL_law_1393 : decode cL_law 1393 = .ok (.iconst 0, 1) := by decide +kernel
theorem dL_law_1394 : decode cL_law 1394 = .ok (.ireturn, 1) := by decide +kernel
theorem dL_law_1395 : decode cL_law 1395 = .ok (.aload_n 1, 1) := by decide +kernel
theorem dL_law_1396 : decode cL_law 1396 = .ok (.aload_n 0, 1) := by decide +kernel
theorem dL_law_1397 : decode cL_law 1397 = .ok (.iload_n 3, 1) := by decide +kernel
theorem dL_law_1398 : decode cL_law 1398 = .ok (.iconst 1, 1) := by decide +kernel
theorem dL_law_1399 : decode cL_law 1399 = .ok (.iadd, 1) := by decide +kernel
theorem dL_law_1400 : decode cL_law 1400 = .ok (.iaload, 1) := by decide +kernel
theorem dL_law_1401 : decode cL_law 1401 = .ok (.invokevirtual 151, 3) := by decide +kernel
theorem dL_law_1404 : decode cL_law 1404 = .ok (.aload_n 2, 1) := by decide +kernel
theorem dL_law_1405 : decode cL_law 1405 = .ok (.aload_n 0, 1) := by decide +kernel
theorem dL_law_1406 : decode cL_law 1406 = .ok (.iload_n 3, 1) := by decide +kernel
theorem dL_law_1407 : decode cL_law 1407 = .ok (.iconst 1, 1) := by decide +kernel
theorem dL_law_1408 : decode cL_law 1408 = .ok (.iadd, 1) := by decide +kernel
theorem dL_law_1409 : decode cL_law 1409 = .ok (.iaload, 1) := by decide +kernel
theorem dL_law_1410 : decode cL_law 1410 = .ok (.invokevirtual 154, 3) := by decide +kernel
theorem dL_law_1413 : decode cL_law 1413 = .ok (.if_icmp .eq 136, 3) := by decide +kernel
theorem dL_law_1416 : decode cL_law 1416 = .ok (.iconst 0, 1) := by decide +kernel
theorem dL_law_1417 : decode cL_law 1417 = .ok (.ireturn, 1) := by decide +kernel
theorem dL_law_1418 : decode cL_law 1418 = .ok (.aload_n 1, 1) := by decide +kernel
theorem dL_law_1419 : decode cL_law 1419 = .ok (.aload_n 0, 1) := by decide +kernel
theorem dL_law_1420 : decode cL_law 1420 = .ok (.iload_n 3, 1) := by decide +kernel
theorem dL_law_1421 : decode cL_law 1421 = .ok (.iconst 1, 1) := by decide +kernel
theorem dL_law_1422 : decode cL_law 1422 = .ok (.iadd, 1) := by decide +kernel
theorem dL_law_1423 : decode cL_law 1423 = .ok (.iaload, 1) := by decide +kernel
theorem dL_law_1424 : decode cL_law 1424 = .ok (.invokevirtual 155, 3) := by decide +kernel
theorem dL_law_1427 : decode cL_law 1427 = .ok (.aload_n 2, 1) := by decide +kernel
theorem dL_law_1428 : decode cL_law 1428 = .ok (.aload_n 0, 1) := by decide +kernel
theorem dL_law_1429 : decode cL_law 1429 = .ok (.iload_n 3, 1) := by decide +kernel
theorem dL_law_1430 : decode cL_law 1430 = .ok (.iconst 1, 1) := by decide +kernel
theorem dL_law_1431 : decode cL_law 1431 = .ok (.iadd, 1) := by decide +kernel
theorem dL_law_1432 : decode cL_law 1432 = .ok (.iaload, 1) := by decide +kernel
theorem dL_law_1433 : decode cL_law 1433 = .ok (.invokevirtual 158, 3) := by decide +kernel
theorem dL_law_1436 : decode cL_law 1436 = .ok (.if_icmp .eq 113, 3) := by decide +kernel
theorem dL_law_1439 : decode cL_law 1439 = .ok (.iconst 0, 1) := by decide +kernel
theorem dL_law_1440 : decode cL_law 1440 = .ok (.ireturn, 1) := by decide +kernel
theorem dL_law_1441 : decode cL_law 1441 = .ok (.aload_n 1, 1) := by decide +kernel
theorem dL_law_1442 : decode cL_law 1442 = .ok (.invokevirtual 159, 3) := by decide +kernel
theorem dL_law_1445 : decode cL_law 1445 = .ok (.aload_n 2, 1) := by decide +kernel
theorem dL_law_1446 : decode cL_law 1446 = .ok (.invokevirtual 162, 3) := by decide +kernel
theorem dL_law_1449 : decode cL_law 1449 = .ok (.if_icmp .eq 100, 3) := by decide +kernel
theorem dL_law_1452 : decode cL_law 1452 = .ok (.iconst 0, 1) := by decide +kernel
theorem dL_law_1453 : decode cL_law 1453 = .ok (.ireturn, 1) := by decide +kernel
theorem dL_law_1454 : decode cL_law 1454 = .ok (.aload_n 1, 1) := by decide +kernel
theorem dL_law_1455 : decode cL_law 1455 = .ok (.invokevirtual 163, 3) := by decide +kernel
theorem dL_law_1458 : decode cL_law 1458 = .ok (.aload_n 2, 1) := by decide +kernel
theorem dL_law_1459 : decode cL_law 1459 = .ok (.invokevirtual 166, 3) := by decide +kernel
theorem dL_law_1462 : decode cL_law 1462 = .ok (.if_icmp .eq 87, 3) := by decide +kernel
theorem dL_law_1465 : decode cL_law 1465 = .ok (.iconst 0, 1) := by decide +kernel
theorem dL_law_1466 : decode cL_law 1466 = .ok (.ireturn, 1) := by decide +kernel
theorem dL_law_1467 : decode cL_law 1467 = .ok (.aload_n 1, 1) := by decide +kernel
theorem dL_law_1468 : decode cL_law 1468 = .ok (.aload_n 0, 1) := by decide +kernel
theorem dL_law_1469 : decode cL_law 1469 = .ok (.iload_n 3, 1) := by decide +kernel
theorem dL_law_1470 : decode cL_law 1470 = .ok (.iconst 1, 1) := by decide +kernel
theorem dL_law_1471 : decode cL_law 1471 = .ok (.iadd, 1) := by decide +kernel
theorem dL_law_1472 : decode cL_law 1472 = .ok (.iaload, 1) := by decide +kernel
theorem dL_law_1473 : decode cL_law 1473 = .ok (.invokevirtual 167, 3) := by decide +kernel
theorem dL_law_1476 : decode cL_law 1476 = .ok (.aload_n 2, 1) := by decide +kernel
theorem dL_law_1477 : decode cL_law 1477 = .ok (.aload_n 0, 1) := by decide +kernel
theorem dL_law_1478 : decode cL_law 1478 = .ok (.iload_n 3, 1) := by decide +kernel
theorem dL_law_1479 : decode cL_law 1479 = .ok (.iconst 1, 1) := by decide +kernel
theorem dL_law_1480 : decode cL_law 1480 = .ok (.iadd, 1) := by decide +kernel
theorem dL_law_1481 : decode cL_law 1481 = .ok (.iaload, 1) := by decide +kernel
theorem dL_law_1482 : decode cL_law 1482 = .ok (.invokevirtual 170, 3) := by decide +kernel
theorem dL_law_1485 : decode cL_law 1485 = .ok (.if_icmp .eq 64, 3) := by decide +kernel
theorem dL_law_1488 : decode cL_law 1488 = .ok (.iconst 0, 1) := by decide +kernel
theorem dL_law_1489 : decode cL_law 1489 = .ok (.ireturn, 1) := by decide +kernel
theorem dL_law_1490 : decode cL_law 1490 = .ok (.aload_n 1, 1) := by decide +kernel
theorem dL_law_1491 : decode cL_law 1491 = .ok (.invokevirtual 171, 3) := by decide +kernel
theorem dL_law_1494 : decode cL_law 1494 = .ok (.aload_n 2, 1) := by decide +kernel
theorem dL_law_1495 : decode cL_law 1495 = .ok (.invokevirtual 174, 3) := by decide +kernel
theorem dL_law_1498 : decode cL_law 1498 = .ok (.if_icmp .eq 51, 3) := by decide +kernel
theorem dL_law_1501 : decode cL_law 1501 = .ok (.iconst 0, 1) := by decide +kernel
theorem dL_law_1502 : decode cL_law 1502 = .ok (.ireturn, 1) := by decide +kernel
theorem dL_law_1503 : decode cL_law 1503 = .ok (.aload_n 1, 1) := by decide +kernel
theorem dL_law_1504 : decode cL_law 1504 = .ok (.aload_n 0, 1) := by decide +kernel
theorem dL_law_1505 : decode cL_law 1505 = .ok (.iload_n 3, 1) := by decide +kernel
theorem dL_law_1506 : decode cL_law 1506 = .ok (.iconst 1, 1) := by decide +kernel
theorem dL_law_1507 : decode cL_law 1507 = .ok (.iadd, 1) := by decide +kernel
theorem dL_law_1508 : decode cL_law 1508 = .ok (.iaload, 1) := by decide +kernel
theorem dL_law_1509 : decode cL_law 1509 = .ok (.invokevirtual 175, 3) := by decide +kernel
theorem dL_law_1512 : decode cL_law 1512 = .ok (.aload_n 2, 1) := by decide +kernel
theorem dL_law_1513 : decode cL_law 1513 = .ok (.aload_n 0, 1) := by decide +kernel
theorem dL_law_1514 : decode cL_law 1514 = .ok (.iload_n 3, 1) := by decide +kernel
theorem dL_law_1515 : decode cL_law 1515 = .ok (.iconst 1, 1) := by decide +kernel
theorem dL_law_1516 : decode cL_law 1516 = .ok (.iadd, 1) := by decide +kernel
theorem dL_law_1517 : decode cL_law 1517 = .ok (.iaload, 1) := by decide +kernel
theorem dL_law_1518 : decode cL_law 1518 = .ok (.invokevirtual 178, 3) := by decide +kernel
theorem dL_law_1521 : decode cL_law 1521 = .ok (.if_icmp .eq 28, 3) := by decide +kernel
theorem dL_law_1524 : decode cL_law 1524 = .ok (.iconst 0, 1) := by decide +kernel
theorem dL_law_1525 : decode cL_law 1525 = .ok (.ireturn, 1) := by decide +kernel
theorem dL_law_1526 : decode cL_law 1526 = .ok (.aload_n 1, 1) := by decide +kernel
theorem dL_law_1527 : decode cL_law 1527 = .ok (.aload_n 0, 1) := by decide +kernel
theorem dL_law_1528 : decode cL_law 1528 = .ok (.iload_n 3, 1) := by decide +kernel
theorem dL_law_1529 : decode cL_law 1529 = .ok (.iconst 1, 1) := by decide +kernel
theorem dL_law_1530 : decode cL_law 1530 = .ok (.iadd, 1) := by decide +kernel
theorem dL_law_1531 : decode cL_law 1531 = .ok (.iaload, 1) := by decide +kernel
theorem dL_law_1532 : decode cL_law 1532 = .ok (.invokevirtual 179, 3) := by decide +kernel
theorem dL_law_1535 : decode cL_law 1535 = .ok (.aload_n 2, 1) := by decide +kernel
theorem dL_law_1536 : decode cL_law 1536 = .ok (.aload_n 0, 1) := by decide +kernel
theorem dL_law_1537 : decode cL_law 1537 = .ok (.iload_n 3, 1) := by decide +kernel
theorem dL_law_1538 : decode cL_law 1538 = .ok (.iconst 1, 1) := by decide +kernel
theorem dL_law_1539 : decode cL_law 1539 = .ok (.iadd, 1) := by decide +kernel
theorem dL_law_1540 : decode cL_law 1540 = .ok (.iaload, 1) := by decide +kernel
theorem dL_law_1541 : decode cL_law 1541 = .ok (.invokevirtual 182, 3) := by decide +kernel
theorem dL_law_1544 : decode cL_law 1544 = .ok (.if_icmp .eq 5, 3) := by decide +kernel
theorem dL_law_1547 : decode cL_law 1547 = .ok (.iconst 0, 1) := by decide +kernel
theorem dL_law_1548 : decode cL_law 1548 = .ok (.ireturn, 1) := by decide +kernel
theorem dL_law_1549 : decode cL_law 1549 = .ok (.iinc 3 6, 3) := by decide +kernel
theorem dL_law_1552 : decode cL_law 1552 = .ok (.goto (-1534), 3) := by decide +kernel
theorem dL_law_1555 : decode cL_law 1555 = .ok (.iconst 1, 1) := by decide +kernel
theorem dL_law_1556 : decode cL_law 1556 = .ok (.ireturn, 1) := by decide +kernel
