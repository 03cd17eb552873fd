theorem dX0_init_0 : decode cX0_init 0 = .ok (.aload_n 0, 1) := by decide +kernel
theorem dX0_init_1 : decode cX0_init 1 = .ok (.invokespecial 3, 3) := by decide +kernel
theorem dX0_init_4 : decode cX0_init 4 = .ok (.aload_n 0, 1) := by decide +kernel
theorem dX0_init_5 : decode cX0_init 5 = .ok (.bipush 10, 2) := by decide +kernel
theorem dX0_init_7 : decode cX0_init 7 = .ok (.newarray .int, 2) := by decide +kernel
theorem dX0_init_9 : decode cX0_init 9 = .ok (.putfield 9, 3) := by decide +kernel
theorem dX0_init_12 : decode cX0_init 12 = .ok (.aload_n 0, 1) := by decide +kernel
theorem dX0_init_13 : decode cX0_init 13 = .ok (.bipush 10, 2) := by decide +kernel
theorem dX0_init_15 : decode cX0_init 15 = .ok (.newarray .int, 2) := by decide +kernel
theorem dX0_init_17 : decode cX0_init 17 = .ok (.putfield 15, 3) := by decide +kernel
theorem dX0_init_20 : decode cX0_init 20 = .ok (.aload_n 0, 1) := by decide +kernel
theorem dX0_init_21 : decode cX0_init 21 = .ok (.bipush 10, 2) := by decide +kernel
theorem dX0_init_23 : decode cX0_init 23 = .ok (.newarray .int, 2) := by decide +kernel
theorem dX0_init_25 : decode cX0_init 25 = .ok (.putfield 18, 3) := by decide +kernel
theorem dX0_init_28 : decode cX0_init 28 = .ok (.return_, 1) := by decide +kernel
theorem dX0_see_0 : decode cX0_see 0 = .ok (.aload_n 0, 1) := by decide +kernel
theorem dX0_see_1 : decode cX0_see 1 = .ok (.getfield 9, 3) := by decide +kernel
theorem dX0_see_4 : decode cX0_see 4 = .ok (.iload_n 1, 1) := by decide +kernel
theorem dX0_see_5 : decode cX0_see 5 = .ok (.invokestatic 21, 3) := by decide +kernel
theorem dX0_see_8 : decode cX0_see 8 = .ok (.istore_n 3, 1) := by decide +kernel
theorem dX0_see_9 : decode cX0_see 9 = .ok (.iconst 1, 1) := by decide +kernel
theorem dX0_see_10 : decode cX0_see 10 = .ok (.iload_n 2, 1) := by decide +kernel
theorem dX0_see_11 : decode cX0_see 11 = .ok (.ishl, 1) := by decide +kernel
theorem dX0_see_12 : decode cX0_see 12 = .ok (.istore 4, 2) := by decide +kernel
theorem dX0_see_14 : decode cX0_see 14 = .ok (.iload_n 3, 1) := by decide +kernel
theorem dX0_see_15 : decode cX0_see 15 = .ok (.iload 4, 2) := by decide +kernel
theorem dX0_see_17 : decode cX0_see 17 = .ok (.iand, 1) := by decide +kernel
theorem dX0_see_18 : decode cX0_see 18 = .ok (.ifCond .eq 32, 3) := by decide +kernel
theorem dX0_see_21 : decode cX0_see 21 = .ok (.iload_n 3, 1) := by decide +kernel
theorem dX0_see_22 : decode cX0_see 22 = .ok (.invokestatic 25, 3) := by decide +kernel
theorem dX0_see_25 : decode cX0_see 25 = .ok (.iconst 2, 1) := by decide +kernel
theorem dX0_see_26 : decode cX0_see 26 = .ok (.if_icmp .gt 24, 3) := by decide +kernel
theorem dX0_see_29 : decode cX0_see 29 = .ok (.aload_n 0, 1) := by decide +kernel
theorem dX0_see_30 : decode cX0_see 30 = .ok (.getfield 15, 3) := by decide +kernel
theorem dX0_see_33 : decode cX0_see 33 = .ok (.iload_n 1, 1) := by decide +kernel
theorem dX0_see_34 : decode cX0_see 34 = .ok (.aload_n 0, 1) := by decide +kernel
theorem dX0_see_35 : decode cX0_see 35 = .ok (.getfield 15, 3) := by decide +kernel
theorem dX0_see_38 : decode cX0_see 38 = .ok (.iload_n 1, 1) := by decide +kernel
theorem dX0_see_39 : decode cX0_see 39 = .ok (.invokestatic 21, 3) := by decide +kernel
theorem dX0_see_42 : decode cX0_see 42 = .ok (.iconst 1, 1) := by decide +kernel
theorem dX0_see_43 : decode cX0_see 43 = .ok (.iadd, 1) := by decide +kernel
theorem dX0_see_44 : decode cX0_see 44 = .ok (.invokestatic 31, 3) := by decide +kernel
theorem dX0_see_47 : decode cX0_see 47 = .ok (.goto 33, 3) := by decide +kernel
theorem dX0_see_50 : decode cX0_see 50 = .ok (.aload_n 0, 1) := by decide +kernel
theorem dX0_see_51 : decode cX0_see 51 = .ok (.getfield 18, 3) := by decide +kernel
theorem dX0_see_54 : decode cX0_see 54 = .ok (.iload_n 1, 1) := by decide +kernel
theorem dX0_see_55 : decode cX0_see 55 = .ok (.aload_n 0, 1) := by decide +kernel
theorem dX0_see_56 : decode cX0_see 56 = .ok (.getfield 18, 3) := by decide +kernel
theorem dX0_see_59 : decode cX0_see 59 = .ok (.iload_n 1, 1) := by decide +kernel
theorem dX0_see_60 : decode cX0_see 60 = .ok (.invokestatic 21, 3) := by decide +kernel
theorem dX0_see_63 : decode cX0_see 63 = .ok (.iconst 1, 1) := by decide +kernel
theorem dX0_see_64 : decode cX0_see 64 = .ok (.iadd, 1) := by decide +kernel
theorem dX0_see_65 : decode cX0_see 65 = .ok (.invokestatic 31, 3) := by decide +kernel
theorem dX0_see_68 : decode cX0_see 68 = .ok (.aload_n 0, 1) := by decide +kernel
theorem dX0_see_69 : decode cX0_see 69 = .ok (.getfield 9, 3) := by decide +kernel
theorem dX0_see_72 : decode cX0_see 72 = .ok (.iload_n 1, 1) := by decide +kernel
theorem dX0_see_73 : decode cX0_see 73 = .ok (.iload_n 3, 1) := by decide +kernel
theorem dX0_see_74 : decode cX0_see 74 = .ok (.iload 4, 2) := by decide +kernel
theorem dX0_see_76 : decode cX0_see 76 = .ok (.ior, 1) := by decide +kernel
theorem dX0_see_77 : decode cX0_see 77 = .ok (.invokestatic 31, 3) := by decide +kernel
theorem dX0_see_80 : decode cX0_see 80 = .ok (.return_, 1) := by decide +kernel
theorem dX0_stateOf_0 : decode cX0_stateOf 0 = .ok (.aload_n 0, 1) := by decide +kernel
theorem dX0_stateOf_1 : decode cX0_stateOf 1 = .ok (.getfield 9, 3) := by decide +kernel
theorem dX0_stateOf_4 : decode cX0_stateOf 4 = .ok (.iload_n 1, 1) := by decide +kernel
theorem dX0_stateOf_5 : decode cX0_stateOf 5 = .ok (.invokestatic 21, 3) := by decide +kernel
theorem dX0_stateOf_8 : decode cX0_stateOf 8 = .ok (.invokestatic 25, 3) := by decide +kernel
theorem dX0_stateOf_11 : decode cX0_stateOf 11 = .ok (.iconst 3, 1) := by decide +kernel
theorem dX0_stateOf_12 : decode cX0_stateOf 12 = .ok (.invokestatic 35, 3) := by decide +kernel
theorem dX0_stateOf_15 : decode cX0_stateOf 15 = .ok (.ireturn, 1) := by decide +kernel
theorem dX0_tell_0 : decode cX0_tell 0 = .ok (.iload_n 2, 1) := by decide +kernel
theorem dX0_tell_1 : decode cX0_tell 1 = .ok (.tableswitch 51 0 2 #[27, 33, 42], 27) := by decide +kernel
theorem dX0_tell_28 : decode cX0_tell 28 = .ok (.aload_n 0, 1) := by decide +kernel
theorem dX0_tell_29 : decode cX0_tell 29 = .ok (.iload_n 1, 1) := by decide +kernel
theorem dX0_tell_30 : decode cX0_tell 30 = .ok (.invokevirtual 41, 3) := by decide +kernel
theorem dX0_tell_33 : decode cX0_tell 33 = .ok (.ireturn, 1) := by decide +kernel
theorem dX0_tell_34 : decode cX0_tell 34 = .ok (.aload_n 0, 1) := by decide +kernel
theorem dX0_tell_35 : decode cX0_tell 35 = .ok (.getfield 9, 3) := by decide +kernel
theorem dX0_tell_38 : decode cX0_tell 38 = .ok (.iload_n 1, 1) := by decide +kernel
theorem dX0_tell_39 : decode cX0_tell 39 = .ok (.invokestatic 21, 3) := by decide +kernel
theorem dX0_tell_42 : decode cX0_tell 42 = .ok (.ireturn, 1) := by decide +kernel
theorem dX0_tell_43 : decode cX0_tell 43 = .ok (.aload_n 0, 1) := by decide +kernel
theorem dX0_tell_44 : decode cX0_tell 44 = .ok (.getfield 15, 3) := by decide +kernel
theorem dX0_tell_47 : decode cX0_tell 47 = .ok (.iload_n 1, 1) := by decide +kernel
theorem dX0_tell_48 : decode cX0_tell 48 = .ok (.invokestatic 21, 3) := by decide +kernel
theorem dX0_tell_51 : decode cX0_tell 51 = .ok (.ireturn, 1) := by decide +kernel
theorem dX0_tell_52 : decode cX0_tell 52 = .ok (.aload_n 0, 1) := by decide +kernel
theorem dX0_tell_53 : decode cX0_tell 53 = .ok (.getfield 18, 3) := by decide +kernel
theorem dX0_tell_56 : decode cX0_tell 56 = .ok (.iload_n 1, 1) := by decide +kernel
theorem dX0_tell_57 : decode cX0_tell 57 = .ok (.invokestatic 21, 3) := by decide +kernel
theorem dX0_tell_60 : decode cX0_tell 60 = .ok (.ireturn, 1) := by decide +kernel
theorem dX0_allHits_0 : decode cX0_allHits 0 = .ok (.aload_n 0, 1) := by decide +kernel
theorem dX0_allHits_1 : decode cX0_allHits 1 = .ok (.getfield 15, 3) := by decide +kernel
theorem dX0_allHits_4 : decode cX0_allHits 4 = .ok (.invokestatic 44, 3) := by decide +kernel
theorem dX0_allHits_7 : decode cX0_allHits 7 = .ok (.ireturn, 1) := by decide +kernel
theorem dX0_allMisses_0 : decode cX0_allMisses 0 = .ok (.aload_n 0, 1) := by decide +kernel
theorem dX0_allMisses_1 : decode cX0_allMisses 1 = .ok (.getfield 18, 3) := by decide +kernel
theorem dX0_allMisses_4 : decode cX0_allMisses 4 = .ok (.invokestatic 44, 3) := by decide +kernel
theorem dX0_allMisses_7 : decode cX0_allMisses 7 = .ok (.ireturn, 1) := by decide +kernel
theorem dX0_sumOf_0 : decode cX0_sumOf 0 = .ok (.iconst 0, 1) := by decide +kernel
theorem dX0_sumOf_1 : decode cX0_sumOf 1 = .ok (.istore_n 1, 1) := by decide +kernel
theorem dX0_sumOf_2 : decode cX0_sumOf 2 = .ok (.aload_n 0, 1) := by decide +kernel
theorem dX0_sumOf_3 : decode cX0_sumOf 3 = .ok (.astore_n 2, 1) := by decide +kernel
theorem dX0_sumOf_4 : decode cX0_sumOf 4 = .ok (.aload_n 2, 1) := by decide +kernel
theorem dX0_sumOf_5 : decode cX0_sumOf 5 = .ok (.arraylength, 1) := by decide +kernel
theorem dX0_sumOf_6 : decode cX0_sumOf 6 = .ok (.istore_n 3, 1) := by decide +kernel
theorem dX0_sumOf_7 : decode cX0_sumOf 7 = .ok (.iconst 0, 1) := by decide +kernel
theorem dX0_sumOf_8 : decode cX0_sumOf 8 = .ok (.istore 4, 2) := by decide +kernel
theorem dX0_sumOf_10 : decode cX0_sumOf 10 = .ok (.iload 4, 2) := by decide +kernel
theorem dX0_sumOf_12 : decode cX0_sumOf 12 = .ok (.iload_n 3, 1) := by decide +kernel
theorem dX0_sumOf_13 : decode cX0_sumOf 13 = .ok (.if_icmp .ge 20, 3) := by decide +kernel
theorem dX0_sumOf_16 : decode cX0_sumOf 16 = .ok (.aload_n 2, 1) := by decide +kernel
theorem dX0_sumOf_17 : decode cX0_sumOf 17 = .ok (.iload 4, 2) := by decide +kernel
theorem dX0_sumOf_19 : decode cX0_sumOf 19 = .ok (.iaload, 1) := by decide +kernel
theorem dX0_sumOf_20 : decode cX0_sumOf 20 = .ok (.istore 5, 2) := by decide +kernel
theorem dX0_sumOf_22 : decode cX0_sumOf 22 = .ok (.iload_n 1, 1) := by decide +kernel
theorem dX0_sumOf_23 : decode cX0_sumOf 23 = .ok (.iload 5, 2) := by decide +kernel
theorem dX0_sumOf_25 : decode cX0_sumOf 25 = .ok (.iadd, 1) := by decide +kernel
theorem dX0_sumOf_26 : decode cX0_sumOf 26 = .ok (.istore_n 1, 1) := by decide +kernel
theorem dX0_sumOf_27 : decode cX0_sumOf 27 = .ok (.iinc 4 1, 3) := by decide +kernel
theorem dX0_sumOf_30 : decode cX0_sumOf 30 = .ok (.goto (-20), 3) := by decide +kernel
theorem dX0_sumOf_33 : decode cX0_sumOf 33 = .ok (.iload_n 1, 1) := by decide +kernel
theorem dX0_sumOf_34 : decode cX0_sumOf 34 = .ok (.ireturn, 1) := by decide +kernel
theorem dX0_forget_0 : decode cX0_forget 0 = .ok (.iconst 0, 1) := by decide +kernel
theorem dX0_forget_1 : decode cX0_forget 1 = .ok (.istore_n 1, 1) := by decide +kernel
theorem dX0_forget_2 : decode cX0_forget 2 = .ok (.iload_n 1, 1) := by decide +kernel
theorem dX0_forget_3 : decode cX0_forget 3 = .ok (.bipush 10, 2) := by decide +kernel
theorem dX0_forget_5 : decode cX0_forget 5 = .ok (.if_icmp .ge 36, 3) := by decide +kernel
theorem dX0_forget_8 : decode cX0_forget 8 = .ok (.aload_n 0, 1) := by decide +kernel
theorem dX0_forget_9 : decode cX0_forget 9 = .ok (.getfield 9, 3) := by decide +kernel
theorem dX0_forget_12 : decode cX0_forget 12 = .ok (.iload_n 1, 1) := by decide +kernel
theorem dX0_forget_13 : decode cX0_forget 13 = .ok (.iconst 0, 1) := by decide +kernel
theorem dX0_forget_14 : decode cX0_forget 14 = .ok (.invokestatic 31, 3) := by decide +kernel
theorem dX0_forget_17 : decode cX0_forget 17 = .ok (.aload_n 0, 1) := by decide +kernel
theorem dX0_forget_18 : decode cX0_forget 18 = .ok (.getfield 15, 3) := by decide +kernel
theorem dX0_forget_21 : decode cX0_forget 21 = .ok (.iload_n 1, 1) := by decide +kernel
theorem dX0_forget_22 : decode cX0_forget 22 = .ok (.iconst 0, 1) := by decide +kernel
theorem dX0_forget_23 : decode cX0_forget 23 = .ok (.invokestatic 31, 3) := by decide +kernel
theorem dX0_forget_26 : decode cX0_forget 26 = .ok (.aload_n 0, 1) := by decide +kernel
theorem dX0_forget_27 : decode cX0_forget 27 = .ok (.getfield 18, 3) := by decide +kernel
theorem dX0_forget_30 : decode cX0_forget 30 = .ok (.iload_n 1, 1) := by decide +kernel
theorem dX0_forget_31 : decode cX0_forget 31 = .ok (.iconst 0, 1) := by decide +kernel
theorem dX0_forget_32 : decode cX0_forget 32 = .ok (.invokestatic 31, 3) := by decide +kernel
theorem dX0_forget_35 : decode cX0_forget 35 = .ok (.iinc 1 1, 3) := by decide +kernel
theorem dX0_forget_38 : decode cX0_forget 38 = .ok (.goto (-36), 3) := by decide +kernel
theorem dX0_forget_41 : decode cX0_forget 41 = .ok (.return_, 1) := by decide +kernel
theorem dX0_copyFrom_0 : decode cX0_copyFrom 0 = .ok (.aload_n 1, 1) := by decide +kernel
theorem dX0_copyFrom_1 : decode cX0_copyFrom 1 = .ok (.getfield 9, 3) := by decide +kernel
theorem dX0_copyFrom_4 : decode cX0_copyFrom 4 = .ok (.aload_n 0, 1) := by decide +kernel
theorem dX0_copyFrom_5 : decode cX0_copyFrom 5 = .ok (.getfield 9, 3) := by decide +kernel
theorem dX0_copyFrom_8 : decode cX0_copyFrom 8 = .ok (.invokestatic 48, 3) := by decide +kernel
theorem dX0_copyFrom_11 : decode cX0_copyFrom 11 = .ok (.aload_n 1, 1) := by decide +kernel
theorem dX0_copyFrom_12 : decode cX0_copyFrom 12 = .ok (.getfield 15, 3) := by decide +kernel
theorem dX0_copyFrom_15 : decode cX0_copyFrom 15 = .ok (.aload_n 0, 1) := by decide +kernel
theorem dX0_copyFrom_16 : decode cX0_copyFrom 16 = .ok (.getfield 15, 3) := by decide +kernel
theorem dX0_copyFrom_19 : decode cX0_copyFrom 19 = .ok (.invokestatic 48, 3) := by decide +kernel
theorem dX0_copyFrom_22 : decode cX0_copyFrom 22 = .ok (.aload_n 1, 1) := by decide +kernel
theorem dX0_copyFrom_23 : decode cX0_copyFrom 23 = .ok (.getfield 18, 3) := by decide +kernel
theorem dX0_copyFrom_26 : decode cX0_copyFrom 26 = .ok (.aload_n 0, 1) := by decide +kernel
theorem dX0_copyFrom_27 : decode cX0_copyFrom 27 = .ok (.getfield 18, 3) := by decide +kernel
theorem dX0_copyFrom_30 : decode cX0_copyFrom 30 = .ok (.invokestatic 48, 3) := by decide +kernel
theorem dX0_copyFrom_33 : decode cX0_copyFrom 33 = .ok (.return_, 1) := by decide +kernel
theorem dX1_init_0 : decode cX1_init 0 = .ok (.aload_n 0, 1) := by decide +kernel
theorem dX1_init_1 : decode cX1_init 1 = .ok (.invokespecial 3, 3) := by decide +kernel
theorem dX1_init_4 : decode cX1_init 4 = .ok (.aload_n 0, 1) := by decide +kernel
theorem dX1_init_5 : decode cX1_init 5 = .ok (.sipush 400, 3) := by decide +kernel
theorem dX1_init_8 : decode cX1_init 8 = .ok (.newarray .int, 2) := by decide +kernel
theorem dX1_init_10 : decode cX1_init 10 = .ok (.putfield 9, 3) := by decide +kernel
theorem dX1_init_13 : decode cX1_init 13 = .ok (.aload_n 0, 1) := by decide +kernel
theorem dX1_init_14 : decode cX1_init 14 = .ok (.sipush 400, 3) := by decide +kernel
theorem dX1_init_17 : decode cX1_init 17 = .ok (.newarray .int, 2) := by decide +kernel
theorem dX1_init_19 : decode cX1_init 19 = .ok (.putfield 15, 3) := by decide +kernel
theorem dX1_init_22 : decode cX1_init 22 = .ok (.aload_n 0, 1) := by decide +kernel
theorem dX1_init_23 : decode cX1_init 23 = .ok (.sipush 400, 3) := by decide +kernel
theorem dX1_init_26 : decode cX1_init 26 = .ok (.newarray .int, 2) := by decide +kernel
theorem dX1_init_28 : decode cX1_init 28 = .ok (.putfield 18, 3) := by decide +kernel
theorem dX1_init_31 : decode cX1_init 31 = .ok (.aload_n 0, 1) := by decide +kernel
theorem dX1_init_32 : decode cX1_init 32 = .ok (.iconst 0, 1) := by decide +kernel
theorem dX1_init_33 : decode cX1_init 33 = .ok (.putfield 21, 3) := by decide +kernel
theorem dX1_init_36 : decode cX1_init 36 = .ok (.return_, 1) := by decide +kernel
theorem dX1_forget_0 : decode cX1_forget 0 = .ok (.aload_n 0, 1) := by decide +kernel
theorem dX1_forget_1 : decode cX1_forget 1 = .ok (.iconst 0, 1) := by decide +kernel
theorem dX1_forget_2 : decode cX1_forget 2 = .ok (.putfield 21, 3) := by decide +kernel
theorem dX1_forget_5 : decode cX1_forget 5 = .ok (.return_, 1) := by decide +kernel
theorem dX1_add_0 : decode cX1_add 0 = .ok (.aload_n 0, 1) := by decide +kernel
theorem dX1_add_1 : decode cX1_add 1 = .ok (.getfield 9, 3) := by decide +kernel
theorem dX1_add_4 : decode cX1_add 4 = .ok (.aload_n 0, 1) := by decide +kernel
theorem dX1_add_5 : decode cX1_add 5 = .ok (.getfield 21, 3) := by decide +kernel
theorem dX1_add_8 : decode cX1_add 8 = .ok (.iload_n 1, 1) := by decide +kernel
theorem dX1_add_9 : decode cX1_add 9 = .ok (.invokestatic 25, 3) := by decide +kernel
theorem dX1_add_12 : decode cX1_add 12 = .ok (.aload_n 0, 1) := by decide +kernel
theorem dX1_add_13 : decode cX1_add 13 = .ok (.getfield 15, 3) := by decide +kernel
theorem dX1_add_16 : decode cX1_add 16 = .ok (.aload_n 0, 1) := by decide +kernel
theorem dX1_add_17 : decode cX1_add 17 = .ok (.getfield 21, 3) := by decide +kernel
theorem dX1_add_20 : decode cX1_add 20 = .ok (.iload_n 2, 1) := by decide +kernel
theorem dX1_add_21 : decode cX1_add 21 = .ok (.invokestatic 25, 3) := by decide +kernel
theorem dX1_add_24 : decode cX1_add 24 = .ok (.aload_n 0, 1) := by decide +kernel
theorem dX1_add_25 : decode cX1_add 25 = .ok (.getfield 18, 3) := by decide +kernel
theorem dX1_add_28 : decode cX1_add 28 = .ok (.aload_n 0, 1) := by decide +kernel
theorem dX1_add_29 : decode cX1_add 29 = .ok (.getfield 21, 3) := by decide +kernel
theorem dX1_add_32 : decode cX1_add 32 = .ok (.iload_n 3, 1) := by decide +kernel
theorem dX1_add_33 : decode cX1_add 33 = .ok (.invokestatic 25, 3) := by decide +kernel
theorem dX1_add_36 : decode cX1_add 36 = .ok (.aload_n 0, 1) := by decide +kernel
theorem dX1_add_37 : decode cX1_add 37 = .ok (.dup, 1) := by decide +kernel
theorem dX1_add_38 : decode cX1_add 38 = .ok (.getfield 21, 3) := by decide +kernel
theorem dX1_add_41 : decode cX1_add 41 = .ok (.iconst 1, 1) := by decide +kernel
theorem dX1_add_42 : decode cX1_add 42 = .ok (.iadd, 1) := by decide +kernel
theorem dX1_add_43 : decode cX1_add 43 = .ok (.putfield 21, 3) := by decide +kernel
theorem dX1_add_46 : decode cX1_add 46 = .ok (.aload_n 0, 1) := by decide +kernel
theorem dX1_add_47 : decode cX1_add 47 = .ok (.getfield 21, 3) := by decide +kernel
theorem dX1_add_50 : decode cX1_add 50 = .ok (.iconst 1, 1) := by decide +kernel
theorem dX1_add_51 : decode cX1_add 51 = .ok (.isub, 1) := by decide +kernel
theorem dX1_add_52 : decode cX1_add 52 = .ok (.ireturn, 1) := by decide +kernel
theorem dX1_innermost_0 : decode cX1_innermost 0 = .ok (.iload_n 2, 1) := by decide +kernel
theorem dX1_innermost_1 : decode cX1_innermost 1 = .ok (.istore_n 3, 1) := by decide +kernel
theorem dX1_innermost_2 : decode cX1_innermost 2 = .ok (.iconst 0, 1) := by decide +kernel
theorem dX1_innermost_3 : decode cX1_innermost 3 = .ok (.istore 4, 2) := by decide +kernel
theorem dX1_innermost_5 : decode cX1_innermost 5 = .ok (.iload 4, 2) := by decide +kernel
theorem dX1_innermost_7 : decode cX1_innermost 7 = .ok (.sipush 400, 3) := by decide +kernel
theorem dX1_innermost_10 : decode cX1_innermost 10 = .ok (.if_icmp .ge 37, 3) := by decide +kernel
theorem dX1_innermost_13 : decode cX1_innermost 13 = .ok (.iload_n 3, 1) := by decide +kernel
theorem dX1_innermost_14 : decode cX1_innermost 14 = .ok (.iconst (-1), 1) := by decide +kernel
theorem dX1_innermost_15 : decode cX1_innermost 15 = .ok (.if_icmp .eq 32, 3) := by decide +kernel
theorem dX1_innermost_18 : decode cX1_innermost 18 = .ok (.aload_n 0, 1) := by decide +kernel
theorem dX1_innermost_19 : decode cX1_innermost 19 = .ok (.getfield 9, 3) := by decide +kernel
theorem dX1_innermost_22 : decode cX1_innermost 22 = .ok (.iload_n 3, 1) := by decide +kernel
theorem dX1_innermost_23 : decode cX1_innermost 23 = .ok (.invokestatic 29, 3) := by decide +kernel
theorem dX1_innermost_26 : decode cX1_innermost 26 = .ok (.iload_n 1, 1) := by decide +kernel
theorem dX1_innermost_27 : decode cX1_innermost 27 = .ok (.if_icmp .ne 5, 3) := by decide +kernel
theorem dX1_innermost_30 : decode cX1_innermost 30 = .ok (.iload_n 3, 1) := by decide +kernel
theorem dX1_innermost_31 : decode cX1_innermost 31 = .ok (.ireturn, 1) := by decide +kernel
theorem dX1_innermost_32 : decode cX1_innermost 32 = .ok (.aload_n 0, 1) := by decide +kernel
theorem dX1_innermost_33 : decode cX1_innermost 33 = .ok (.getfield 18, 3) := by decide +kernel
theorem dX1_innermost_36 : decode cX1_innermost 36 = .ok (.iload_n 3, 1) := by decide +kernel
theorem dX1_innermost_37 : decode cX1_innermost 37 = .ok (.invokestatic 29, 3) := by decide +kernel
theorem dX1_innermost_40 : decode cX1_innermost 40 = .ok (.istore_n 3, 1) := by decide +kernel
theorem dX1_innermost_41 : decode cX1_innermost 41 = .ok (.iinc 4 1, 3) := by decide +kernel
theorem dX1_innermost_44 : decode cX1_innermost 44 = .ok (.goto (-39), 3) := by decide +kernel
theorem dX1_innermost_47 : decode cX1_innermost 47 = .ok (.iconst (-1), 1) := by decide +kernel
theorem dX1_innermost_48 : decode cX1_innermost 48 = .ok (.ireturn, 1) := by decide +kernel
theorem dX1_valueIn_0 : decode cX1_valueIn 0 = .ok (.aload_n 0, 1) := by decide +kernel
theorem dX1_valueIn_1 : decode cX1_valueIn 1 = .ok (.getfield 15, 3) := by decide +kernel
theorem dX1_valueIn_4 : decode cX1_valueIn 4 = .ok (.iload_n 1, 1) := by decide +kernel
theorem dX1_valueIn_5 : decode cX1_valueIn 5 = .ok (.invokestatic 29, 3) := by decide +kernel
theorem dX1_valueIn_8 : decode cX1_valueIn 8 = .ok (.ireturn, 1) := by decide +kernel
theorem dX1_change_0 : decode cX1_change 0 = .ok (.aload_n 0, 1) := by decide +kernel
theorem dX1_change_1 : decode cX1_change 1 = .ok (.getfield 15, 3) := by decide +kernel
theorem dX1_change_4 : decode cX1_change 4 = .ok (.iload_n 1, 1) := by decide +kernel
theorem dX1_change_5 : decode cX1_change 5 = .ok (.iload_n 2, 1) := by decide +kernel
theorem dX1_change_6 : decode cX1_change 6 = .ok (.invokestatic 25, 3) := by decide +kernel
theorem dX1_change_9 : decode cX1_change 9 = .ok (.return_, 1) := by decide +kernel
theorem dX2_init_0 : decode cX2_init 0 = .ok (.aload_n 0, 1) := by decide +kernel
theorem dX2_init_1 : decode cX2_init 1 = .ok (.invokespecial 3, 3) := by decide +kernel
theorem dX2_init_4 : decode cX2_init 4 = .ok (.aload_n 0, 1) := by decide +kernel
theorem dX2_init_5 : decode cX2_init 5 = .ok (.iconst 0, 1) := by decide +kernel
theorem dX2_init_6 : decode cX2_init 6 = .ok (.putfield 9, 3) := by decide +kernel
theorem dX2_init_9 : decode cX2_init 9 = .ok (.aload_n 0, 1) := by decide +kernel
theorem dX2_init_10 : decode cX2_init 10 = .ok (.iconst 0, 1) := by decide +kernel
theorem dX2_init_11 : decode cX2_init 11 = .ok (.putfield 15, 3) := by decide +kernel
theorem dX2_init_14 : decode cX2_init 14 = .ok (.aload_n 0, 1) := by decide +kernel
theorem dX2_init_15 : decode cX2_init 15 = .ok (.iconst 0, 1) := by decide +kernel
theorem dX2_init_16 : decode cX2_init 16 = .ok (.putfield 18, 3) := by decide +kernel
theorem dX2_init_19 : decode cX2_init 19 = .ok (.aload_n 0, 1) := by decide +kernel
theorem dX2_init_20 : decode cX2_init 20 = .ok (.iconst 0, 1) := by decide +kernel
theorem dX2_init_21 : decode cX2_init 21 = .ok (.putfield 21, 3) := by decide +kernel
theorem dX2_init_24 : decode cX2_init 24 = .ok (.aload_n 0, 1) := by decide +kernel
theorem dX2_init_25 : decode cX2_init 25 = .ok (.iconst 0, 1) := by decide +kernel
theorem dX2_init_26 : decode cX2_init 26 = .ok (.putfield 24, 3) := by decide +kernel
theorem dX2_init_29 : decode cX2_init 29 = .ok (.aload_n 0, 1) := by decide +kernel
theorem dX2_init_30 : decode cX2_init 30 = .ok (.iconst 0, 1) := by decide +kernel
theorem dX2_init_31 : decode cX2_init 31 = .ok (.putfield 27, 3) := by decide +kernel
theorem dX2_init_34 : decode cX2_init 34 = .ok (.aload_n 0, 1) := by decide +kernel
theorem dX2_init_35 : decode cX2_init 35 = .ok (.iconst 0, 1) := by decide +kernel
theorem dX2_init_36 : decode cX2_init 36 = .ok (.putfield 30, 3) := by decide +kernel
theorem dX2_init_39 : decode cX2_init 39 = .ok (.return_, 1) := by decide +kernel
theorem dX2_tell_0 : decode cX2_tell 0 = .ok (.iload_n 1, 1) := by decide +kernel
theorem dX2_tell_1 : decode cX2_tell 1 = .ok (.tableswitch 60 0 4 #[35, 40, 45, 50, 55], 35) := by decide +kernel
theorem dX2_tell_36 : decode cX2_tell 36 = .ok (.aload_n 0, 1) := by decide +kernel
theorem dX2_tell_37 : decode cX2_tell 37 = .ok (.getfield 9, 3) := by decide +kernel
theorem dX2_tell_40 : decode cX2_tell 40 = .ok (.ireturn, 1) := by decide +kernel
theorem dX2_tell_41 : decode cX2_tell 41 = .ok (.aload_n 0, 1) := by decide +kernel
theorem dX2_tell_42 : decode cX2_tell 42 = .ok (.getfield 15, 3) := by decide +kernel
theorem dX2_tell_45 : decode cX2_tell 45 = .ok (.ireturn, 1) := by decide +kernel
theorem dX2_tell_46 : decode cX2_tell 46 = .ok (.aload_n 0, 1) := by decide +kernel
theorem dX2_tell_47 : decode cX2_tell 47 = .ok (.getfield 18, 3) := by decide +kernel
theorem dX2_tell_50 : decode cX2_tell 50 = .ok (.ireturn, 1) := by decide +kernel
theorem dX2_tell_51 : decode cX2_tell 51 = .ok (.aload_n 0, 1) := by decide +kernel
theorem dX2_tell_52 : decode cX2_tell 52 = .ok (.getfield 21, 3) := by decide +kernel
theorem dX2_tell_55 : decode cX2_tell 55 = .ok (.ireturn, 1) := by decide +kernel
theorem dX2_tell_56 : decode cX2_tell 56 = .ok (.aload_n 0, 1) := by decide +kernel
theorem dX2_tell_57 : decode cX2_tell 57 = .ok (.getfield 24, 3) := by decide +kernel
theorem dX2_tell_60 : decode cX2_tell 60 = .ok (.ireturn, 1) := by decide +kernel
theorem dX2_tell_61 : decode cX2_tell 61 = .ok (.aload_n 0, 1) := by decide +kernel
theorem dX2_tell_62 : decode cX2_tell 62 = .ok (.getfield 27, 3) := by decide +kernel
theorem dX2_tell_65 : decode cX2_tell 65 = .ok (.ireturn, 1) := by decide +kernel
theorem dX2_codeAt_0 : decode cX2_codeAt 0 = .ok (.iload_n 1, 1) := by decide +kernel
theorem dX2_codeAt_1 : decode cX2_codeAt 1 = .ok (.aload_n 0, 1) := by decide +kernel
theorem dX2_codeAt_2 : decode cX2_codeAt 2 = .ok (.getfield 27, 3) := by decide +kernel
theorem dX2_codeAt_5 : decode cX2_codeAt 5 = .ok (.if_icmp .ge 8, 3) := by decide +kernel
theorem dX2_codeAt_8 : decode cX2_codeAt 8 = .ok (.bipush 7, 2) := by decide +kernel
theorem dX2_codeAt_10 : decode cX2_codeAt 10 = .ok (.goto 7, 3) := by decide +kernel
theorem dX2_codeAt_13 : decode cX2_codeAt 13 = .ok (.aload_n 0, 1) := by decide +kernel
theorem dX2_codeAt_14 : decode cX2_codeAt 14 = .ok (.getfield 30, 3) := by decide +kernel
theorem dX2_codeAt_17 : decode cX2_codeAt 17 = .ok (.ireturn, 1) := by decide +kernel
theorem dX2_isNumber_0 : decode cX2_isNumber 0 = .ok (.aload_n 0, 1) := by decide +kernel
theorem dX2_isNumber_1 : decode cX2_isNumber 1 = .ok (.getfield 9, 3) := by decide +kernel
theorem dX2_isNumber_4 : decode cX2_isNumber 4 = .ok (.ifCond .ne 15, 3) := by decide +kernel
theorem dX2_isNumber_7 : decode cX2_isNumber 7 = .ok (.aload_n 0, 1) := by decide +kernel
theorem dX2_isNumber_8 : decode cX2_isNumber 8 = .ok (.getfield 15, 3) := by decide +kernel
theorem dX2_isNumber_11 : decode cX2_isNumber 11 = .ok (.iload_n 1, 1) := by decide +kernel
theorem dX2_isNumber_12 : decode cX2_isNumber 12 = .ok (.if_icmp .ne 7, 3) := by decide +kernel
theorem dX2_isNumber_15 : decode cX2_isNumber 15 = .ok (.iconst 1, 1) := by decide +kernel
theorem dX2_isNumber_16 : decode cX2_isNumber 16 = .ok (.goto 4, 3) := by decide +kernel
theorem dX2_isNumber_19 : decode cX2_isNumber 19 = .ok (.iconst 0, 1) := by decide +kernel
theorem dX2_isNumber_20 : decode cX2_isNumber 20 = .ok (.ireturn, 1) := by decide +kernel
theorem dX2_copyFrom_0 : decode cX2_copyFrom 0 = .ok (.aload_n 0, 1) := by decide +kernel
theorem dX2_copyFrom_1 : decode cX2_copyFrom 1 = .ok (.aload_n 1, 1) := by decide +kernel
theorem dX2_copyFrom_2 : decode cX2_copyFrom 2 = .ok (.getfield 9, 3) := by decide +kernel
theorem dX2_copyFrom_5 : decode cX2_copyFrom 5 = .ok (.putfield 9, 3) := by decide +kernel
theorem dX2_copyFrom_8 : decode cX2_copyFrom 8 = .ok (.aload_n 0, 1) := by decide +kernel
theorem dX2_copyFrom_9 : decode cX2_copyFrom 9 = .ok (.aload_n 1, 1) := by decide +kernel
theorem dX2_copyFrom_10 : decode cX2_copyFrom 10 = .ok (.getfield 15, 3) := by decide +kernel
theorem dX2_copyFrom_13 : decode cX2_copyFrom 13 = .ok (.putfield 15, 3) := by decide +kernel
theorem dX2_copyFrom_16 : decode cX2_copyFrom 16 = .ok (.aload_n 0, 1) := by decide +kernel
theorem dX2_copyFrom_17 : decode cX2_copyFrom 17 = .ok (.aload_n 1, 1) := by decide +kernel
theorem dX2_copyFrom_18 : decode cX2_copyFrom 18 = .ok (.getfield 18, 3) := by decide +kernel
theorem dX2_copyFrom_21 : decode cX2_copyFrom 21 = .ok (.putfield 18, 3) := by decide +kernel
theorem dX2_copyFrom_24 : decode cX2_copyFrom 24 = .ok (.aload_n 0, 1) := by decide +kernel
theorem dX2_copyFrom_25 : decode cX2_copyFrom 25 = .ok (.aload_n 1, 1) := by decide +kernel
theorem dX2_copyFrom_26 : decode cX2_copyFrom 26 = .ok (.getfield 21, 3) := by decide +kernel
theorem dX2_copyFrom_29 : decode cX2_copyFrom 29 = .ok (.putfield 21, 3) := by decide +kernel
theorem dX2_copyFrom_32 : decode cX2_copyFrom 32 = .ok (.aload_n 0, 1) := by decide +kernel
theorem dX2_copyFrom_33 : decode cX2_copyFrom 33 = .ok (.aload_n 1, 1) := by decide +kernel
theorem dX2_copyFrom_34 : decode cX2_copyFrom 34 = .ok (.getfield 24, 3) := by decide +kernel
theorem dX2_copyFrom_37 : decode cX2_copyFrom 37 = .ok (.putfield 24, 3) := by decide +kernel
theorem dX2_copyFrom_40 : decode cX2_copyFrom 40 = .ok (.aload_n 0, 1) := by decide +kernel
theorem dX2_copyFrom_41 : decode cX2_copyFrom 41 = .ok (.aload_n 1, 1) := by decide +kernel
theorem dX2_copyFrom_42 : decode cX2_copyFrom 42 = .ok (.getfield 27, 3) := by decide +kernel
theorem dX2_copyFrom_45 : decode cX2_copyFrom 45 = .ok (.putfield 27, 3) := by decide +kernel
theorem dX2_copyFrom_48 : decode cX2_copyFrom 48 = .ok (.aload_n 0, 1) := by decide +kernel
theorem dX2_copyFrom_49 : decode cX2_copyFrom 49 = .ok (.aload_n 1, 1) := by decide +kernel
theorem dX2_copyFrom_50 : decode cX2_copyFrom 50 = .ok (.getfield 30, 3) := by decide +kernel
theorem dX2_copyFrom_53 : decode cX2_copyFrom 53 = .ok (.putfield 30, 3) := by decide +kernel
theorem dX2_copyFrom_56 : decode cX2_copyFrom 56 = .ok (.return_, 1) := by decide +kernel
theorem dX3_init_0 : decode cX3_init 0 = .ok (.aload_n 0, 1) := by decide +kernel
theorem dX3_init_1 : decode cX3_init 1 = .ok (.invokespecial 3, 3) := by decide +kernel
theorem dX3_init_4 : decode cX3_init 4 = .ok (.aload_n 0, 1) := by decide +kernel
theorem dX3_init_5 : decode cX3_init 5 = .ok (.bipush 96, 2) := by decide +kernel
theorem dX3_init_7 : decode cX3_init 7 = .ok (.newarray .int, 2) := by decide +kernel
theorem dX3_init_9 : decode cX3_init 9 = .ok (.putfield 9, 3) := by decide +kernel
theorem dX3_init_12 : decode cX3_init 12 = .ok (.aload_n 0, 1) := by decide +kernel
theorem dX3_init_13 : decode cX3_init 13 = .ok (.bipush 96, 2) := by decide +kernel
theorem dX3_init_15 : decode cX3_init 15 = .ok (.newarray .int, 2) := by decide +kernel
theorem dX3_init_17 : decode cX3_init 17 = .ok (.putfield 15, 3) := by decide +kernel
theorem dX3_init_20 : decode cX3_init 20 = .ok (.aload_n 0, 1) := by decide +kernel
theorem dX3_init_21 : decode cX3_init 21 = .ok (.bipush 96, 2) := by decide +kernel
theorem dX3_init_23 : decode cX3_init 23 = .ok (.newarray .int, 2) := by decide +kernel
theorem dX3_init_25 : decode cX3_init 25 = .ok (.putfield 18, 3) := by decide +kernel
theorem dX3_init_28 : decode cX3_init 28 = .ok (.aload_n 0, 1) := by decide +kernel
theorem dX3_init_29 : decode cX3_init 29 = .ok (.sipush 193, 3) := by decide +kernel
theorem dX3_init_32 : decode cX3_init 32 = .ok (.newarray .int, 2) := by decide +kernel
theorem dX3_init_34 : decode cX3_init 34 = .ok (.putfield 21, 3) := by decide +kernel
theorem dX3_init_37 : decode cX3_init 37 = .ok (.aload_n 0, 1) := by decide +kernel
theorem dX3_init_38 : decode cX3_init 38 = .ok (.sipush 193, 3) := by decide +kernel
theorem dX3_init_41 : decode cX3_init 41 = .ok (.newarray .int, 2) := by decide +kernel
theorem dX3_init_43 : decode cX3_init 43 = .ok (.putfield 24, 3) := by decide +kernel
theorem dX3_init_46 : decode cX3_init 46 = .ok (.aload_n 0, 1) := by decide +kernel
theorem dX3_init_47 : decode cX3_init 47 = .ok (.iconst 0, 1) := by decide +kernel
theorem dX3_init_48 : decode cX3_init 48 = .ok (.putfield 27, 3) := by decide +kernel
theorem dX3_init_51 : decode cX3_init 51 = .ok (.aload_n 0, 1) := by decide +kernel
theorem dX3_init_52 : decode cX3_init 52 = .ok (.iconst 0, 1) := by decide +kernel
theorem dX3_init_53 : decode cX3_init 53 = .ok (.putfield 31, 3) := by decide +kernel
theorem dX3_init_56 : decode cX3_init 56 = .ok (.aload_n 0, 1) := by decide +kernel
theorem dX3_init_57 : decode cX3_init 57 = .ok (.iconst 0, 1) := by decide +kernel
theorem dX3_init_58 : decode cX3_init 58 = .ok (.putfield 34, 3) := by decide +kernel
theorem dX3_init_61 : decode cX3_init 61 = .ok (.return_, 1) := by decide +kernel
theorem dX3_isFull_0 : decode cX3_isFull 0 = .ok (.aload_n 0, 1) := by decide +kernel
theorem dX3_isFull_1 : decode cX3_isFull 1 = .ok (.getfield 34, 3) := by decide +kernel
theorem dX3_isFull_4 : decode cX3_isFull 4 = .ok (.bipush 96, 2) := by decide +kernel
theorem dX3_isFull_6 : decode cX3_isFull 6 = .ok (.if_icmp .lt 7, 3) := by decide +kernel
theorem dX3_isFull_9 : decode cX3_isFull 9 = .ok (.iconst 1, 1) := by decide +kernel
theorem dX3_isFull_10 : decode cX3_isFull 10 = .ok (.goto 4, 3) := by decide +kernel
theorem dX3_isFull_13 : decode cX3_isFull 13 = .ok (.iconst 0, 1) := by decide +kernel
theorem dX3_isFull_14 : decode cX3_isFull 14 = .ok (.ireturn, 1) := by decide +kernel
theorem dX3_add_0 : decode cX3_add 0 = .ok (.aload_n 0, 1) := by decide +kernel
theorem dX3_add_1 : decode cX3_add 1 = .ok (.getfield 9, 3) := by decide +kernel
theorem dX3_add_4 : decode cX3_add 4 = .ok (.aload_n 0, 1) := by decide +kernel
theorem dX3_add_5 : decode cX3_add 5 = .ok (.getfield 34, 3) := by decide +kernel
theorem dX3_add_8 : decode cX3_add 8 = .ok (.iload_n 1, 1) := by decide +kernel
theorem dX3_add_9 : decode cX3_add 9 = .ok (.invokestatic 37, 3) := by decide +kernel
theorem dX3_add_12 : decode cX3_add 12 = .ok (.aload_n 0, 1) := by decide +kernel
theorem dX3_add_13 : decode cX3_add 13 = .ok (.dup, 1) := by decide +kernel
theorem dX3_add_14 : decode cX3_add 14 = .ok (.getfield 34, 3) := by decide +kernel
theorem dX3_add_17 : decode cX3_add 17 = .ok (.iconst 1, 1) := by decide +kernel
theorem dX3_add_18 : decode cX3_add 18 = .ok (.iadd, 1) := by decide +kernel
theorem dX3_add_19 : decode cX3_add 19 = .ok (.putfield 34, 3) := by decide +kernel
theorem dX3_add_22 : decode cX3_add 22 = .ok (.aload_n 0, 1) := by decide +kernel
theorem dX3_add_23 : decode cX3_add 23 = .ok (.getfield 34, 3) := by decide +kernel
theorem dX3_add_26 : decode cX3_add 26 = .ok (.ireturn, 1) := by decide +kernel
theorem dX3_forget_0 : decode cX3_forget 0 = .ok (.aload_n 0, 1) := by decide +kernel
theorem dX3_forget_1 : decode cX3_forget 1 = .ok (.iconst 0, 1) := by decide +kernel
theorem dX3_forget_2 : decode cX3_forget 2 = .ok (.putfield 34, 3) := by decide +kernel
theorem dX3_forget_5 : decode cX3_forget 5 = .ok (.return_, 1) := by decide +kernel
theorem dX3_findFault_0 : decode cX3_findFault 0 = .ok (.aload_n 0, 1) := by decide +kernel
theorem dX3_findFault_1 : decode cX3_findFault 1 = .ok (.iconst 0, 1) := by decide +kernel
theorem dX3_findFault_2 : decode cX3_findFault 2 = .ok (.putfield 27, 3) := by decide +kernel
theorem dX3_findFault_5 : decode cX3_findFault 5 = .ok (.aload_n 0, 1) := by decide +kernel
theorem dX3_findFault_6 : decode cX3_findFault 6 = .ok (.iconst 0, 1) := by decide +kernel
theorem dX3_findFault_7 : decode cX3_findFault 7 = .ok (.putfield 31, 3) := by decide +kernel
theorem dX3_findFault_10 : decode cX3_findFault 10 = .ok (.aload_n 0, 1) := by decide +kernel
theorem dX3_findFault_11 : decode cX3_findFault 11 = .ok (.iconst (-1), 1) := by decide +kernel
theorem dX3_findFault_12 : decode cX3_findFault 12 = .ok (.bipush 49, 2) := by decide +kernel
theorem dX3_findFault_14 : decode cX3_findFault 14 = .ok (.invokevirtual 41, 3) := by decide +kernel
theorem dX3_findFault_17 : decode cX3_findFault 17 = .ok (.iconst 0, 1) := by decide +kernel
theorem dX3_findFault_18 : decode cX3_findFault 18 = .ok (.istore_n 1, 1) := by decide +kernel
theorem dX3_findFault_19 : decode cX3_findFault 19 = .ok (.iload_n 1, 1) := by decide +kernel
theorem dX3_findFault_20 : decode cX3_findFault 20 = .ok (.aload_n 0, 1) := by decide +kernel
theorem dX3_findFault_21 : decode cX3_findFault 21 = .ok (.getfield 34, 3) := by decide +kernel
theorem dX3_findFault_24 : decode cX3_findFault 24 = .ok (.if_icmp .ge 23, 3) := by decide +kernel
theorem dX3_findFault_27 : decode cX3_findFault 27 = .ok (.aload_n 0, 1) := by decide +kernel
theorem dX3_findFault_28 : decode cX3_findFault 28 = .ok (.iload_n 1, 1) := by decide +kernel
theorem dX3_findFault_29 : decode cX3_findFault 29 = .ok (.invokevirtual 45, 3) := by decide +kernel
theorem dX3_findFault_32 : decode cX3_findFault 32 = .ok (.ifCond .ne 9, 3) := by decide +kernel
theorem dX3_findFault_35 : decode cX3_findFault 35 = .ok (.sipush (-1000), 3) := by decide +kernel
theorem dX3_findFault_38 : decode cX3_findFault 38 = .ok (.iload_n 1, 1) := by decide +kernel
theorem dX3_findFault_39 : decode cX3_findFault 39 = .ok (.isub, 1) := by decide +kernel
theorem dX3_findFault_40 : decode cX3_findFault 40 = .ok (.ireturn, 1) := by decide +kernel
theorem dX3_findFault_41 : decode cX3_findFault 41 = .ok (.iinc 1 1, 3) := by decide +kernel
theorem dX3_findFault_44 : decode cX3_findFault 44 = .ok (.goto (-25), 3) := by decide +kernel
theorem dX3_findFault_47 : decode cX3_findFault 47 = .ok (.aload_n 0, 1) := by decide +kernel
theorem dX3_findFault_48 : decode cX3_findFault 48 = .ok (.getfield 27, 3) := by decide +kernel
theorem dX3_findFault_51 : decode cX3_findFault 51 = .ok (.ifCond .le 12, 3) := by decide +kernel
theorem dX3_findFault_54 : decode cX3_findFault 54 = .ok (.sipush (-1000), 3) := by decide +kernel
theorem dX3_findFault_57 : decode cX3_findFault 57 = .ok (.aload_n 0, 1) := by decide +kernel
theorem dX3_findFault_58 : decode cX3_findFault 58 = .ok (.getfield 34, 3) := by decide +kernel
theorem dX3_findFault_61 : decode cX3_findFault 61 = .ok (.isub, 1) := by decide +kernel
theorem dX3_findFault_62 : decode cX3_findFault 62 = .ok (.ireturn, 1) := by decide +kernel
theorem dX3_findFault_63 : decode cX3_findFault 63 = .ok (.aload_n 0, 1) := by decide +kernel
theorem dX3_findFault_64 : decode cX3_findFault 64 = .ok (.invokevirtual 49, 3) := by decide +kernel
theorem dX3_findFault_67 : decode cX3_findFault 67 = .ok (.istore_n 1, 1) := by decide +kernel
theorem dX3_findFault_68 : decode cX3_findFault 68 = .ok (.iload_n 1, 1) := by decide +kernel
theorem dX3_findFault_69 : decode cX3_findFault 69 = .ok (.ifCond .ge 7, 3) := by decide +kernel
theorem dX3_findFault_72 : decode cX3_findFault 72 = .ok (.iconst 0, 1) := by decide +kernel
theorem dX3_findFault_73 : decode cX3_findFault 73 = .ok (.goto 8, 3) := by decide +kernel
theorem dX3_findFault_76 : decode cX3_findFault 76 = .ok (.sipush (-2000), 3) := by decide +kernel
theorem dX3_findFault_79 : decode cX3_findFault 79 = .ok (.iload_n 1, 1) := by decide +kernel
theorem dX3_findFault_80 : decode cX3_findFault 80 = .ok (.isub, 1) := by decide +kernel
theorem dX3_findFault_81 : decode cX3_findFault 81 = .ok (.ireturn, 1) := by decide +kernel
theorem dX3_writeInto_0 : decode cX3_writeInto 0 = .ok (.aload_n 1, 1) := by decide +kernel
theorem dX3_writeInto_1 : decode cX3_writeInto 1 = .ok (.invokevirtual 53, 3) := by decide +kernel
theorem dX3_writeInto_4 : decode cX3_writeInto 4 = .ok (.iconst 0, 1) := by decide +kernel
theorem dX3_writeInto_5 : decode cX3_writeInto 5 = .ok (.istore_n 2, 1) := by decide +kernel
theorem dX3_writeInto_6 : decode cX3_writeInto 6 = .ok (.iload_n 2, 1) := by decide +kernel
theorem dX3_writeInto_7 : decode cX3_writeInto 7 = .ok (.aload_n 0, 1) := by decide +kernel
theorem dX3_writeInto_8 : decode cX3_writeInto 8 = .ok (.getfield 34, 3) := by decide +kernel
theorem dX3_writeInto_11 : decode cX3_writeInto 11 = .ok (.if_icmp .ge 64, 3) := by decide +kernel
theorem dX3_writeInto_14 : decode cX3_writeInto 14 = .ok (.aload_n 0, 1) := by decide +kernel
theorem dX3_writeInto_15 : decode cX3_writeInto 15 = .ok (.getfield 9, 3) := by decide +kernel
theorem dX3_writeInto_18 : decode cX3_writeInto 18 = .ok (.iload_n 2, 1) := by decide +kernel
theorem dX3_writeInto_19 : decode cX3_writeInto 19 = .ok (.invokestatic 58, 3) := by decide +kernel
theorem dX3_writeInto_22 : decode cX3_writeInto 22 = .ok (.istore_n 3, 1) := by decide +kernel
theorem dX3_writeInto_23 : decode cX3_writeInto 23 = .ok (.aload_n 0, 1) := by decide +kernel
theorem dX3_writeInto_24 : decode cX3_writeInto 24 = .ok (.getfield 15, 3) := by decide +kernel
theorem dX3_writeInto_27 : decode cX3_writeInto 27 = .ok (.iload_n 2, 1) := by decide +kernel
theorem dX3_writeInto_28 : decode cX3_writeInto 28 = .ok (.invokestatic 58, 3) := by decide +kernel
theorem dX3_writeInto_31 : decode cX3_writeInto 31 = .ok (.istore 4, 2) := by decide +kernel
theorem dX3_writeInto_33 : decode cX3_writeInto 33 = .ok (.aload_n 0, 1) := by decide +kernel
theorem dX3_writeInto_34 : decode cX3_writeInto 34 = .ok (.getfield 18, 3) := by decide +kernel
theorem dX3_writeInto_37 : decode cX3_writeInto 37 = .ok (.iload_n 2, 1) := by decide +kernel
theorem dX3_writeInto_38 : decode cX3_writeInto 38 = .ok (.invokestatic 58, 3) := by decide +kernel
theorem dX3_writeInto_41 : decode cX3_writeInto 41 = .ok (.istore 5, 2) := by decide +kernel
theorem dX3_writeInto_43 : decode cX3_writeInto 43 = .ok (.iload 5, 2) := by decide +kernel
theorem dX3_writeInto_45 : decode cX3_writeInto 45 = .ok (.bipush 118, 2) := by decide +kernel
theorem dX3_writeInto_47 : decode cX3_writeInto 47 = .ok (.if_icmp .ne 13, 3) := by decide +kernel
theorem dX3_writeInto_50 : decode cX3_writeInto 50 = .ok (.aload_n 1, 1) := by decide +kernel
theorem dX3_writeInto_51 : decode cX3_writeInto 51 = .ok (.iload 4, 2) := by decide +kernel
theorem dX3_writeInto_53 : decode cX3_writeInto 53 = .ok (.iload_n 3, 1) := by decide +kernel
theorem dX3_writeInto_54 : decode cX3_writeInto 54 = .ok (.invokevirtual 62, 3) := by decide +kernel
theorem dX3_writeInto_57 : decode cX3_writeInto 57 = .ok (.goto 12, 3) := by decide +kernel
theorem dX3_writeInto_60 : decode cX3_writeInto 60 = .ok (.aload_n 1, 1) := by decide +kernel
theorem dX3_writeInto_61 : decode cX3_writeInto 61 = .ok (.iload_n 3, 1) := by decide +kernel
theorem dX3_writeInto_62 : decode cX3_writeInto 62 = .ok (.iload 4, 2) := by decide +kernel
theorem dX3_writeInto_64 : decode cX3_writeInto 64 = .ok (.iload 5, 2) := by decide +kernel
theorem dX3_writeInto_66 : decode cX3_writeInto 66 = .ok (.invokevirtual 65, 3) := by decide +kernel
theorem dX3_writeInto_69 : decode cX3_writeInto 69 = .ok (.iinc 2 1, 3) := by decide +kernel
theorem dX3_writeInto_72 : decode cX3_writeInto 72 = .ok (.goto (-66), 3) := by decide +kernel
theorem dX3_writeInto_75 : decode cX3_writeInto 75 = .ok (.return_, 1) := by decide +kernel
theorem dX3_fits_0 : decode cX3_fits 0 = .ok (.aload_n 0, 1) := by decide +kernel
theorem dX3_fits_1 : decode cX3_fits 1 = .ok (.getfield 27, 3) := by decide +kernel
theorem dX3_fits_4 : decode cX3_fits 4 = .ok (.ifCond .gt 5, 3) := by decide +kernel
theorem dX3_fits_7 : decode cX3_fits 7 = .ok (.iconst 0, 1) := by decide +kernel
theorem dX3_fits_8 : decode cX3_fits 8 = .ok (.ireturn, 1) := by decide +kernel
theorem dX3_fits_9 : decode cX3_fits 9 = .ok (.aload_n 0, 1) := by decide +kernel
theorem dX3_fits_10 : decode cX3_fits 10 = .ok (.dup, 1) := by decide +kernel
theorem dX3_fits_11 : decode cX3_fits 11 = .ok (.getfield 27, 3) := by decide +kernel
theorem dX3_fits_14 : decode cX3_fits 14 = .ok (.iconst 1, 1) := by decide +kernel
theorem dX3_fits_15 : decode cX3_fits 15 = .ok (.isub, 1) := by decide +kernel
theorem dX3_fits_16 : decode cX3_fits 16 = .ok (.putfield 27, 3) := by decide +kernel
theorem dX3_fits_19 : decode cX3_fits 19 = .ok (.aload_n 0, 1) := by decide +kernel
theorem dX3_fits_20 : decode cX3_fits 20 = .ok (.getfield 9, 3) := by decide +kernel
theorem dX3_fits_23 : decode cX3_fits 23 = .ok (.iload_n 1, 1) := by decide +kernel
theorem dX3_fits_24 : decode cX3_fits 24 = .ok (.invokestatic 58, 3) := by decide +kernel
theorem dX3_fits_27 : decode cX3_fits 27 = .ok (.istore_n 2, 1) := by decide +kernel
theorem dX3_fits_28 : decode cX3_fits 28 = .ok (.aload_n 0, 1) := by decide +kernel
theorem dX3_fits_29 : decode cX3_fits 29 = .ok (.getfield 24, 3) := by decide +kernel
theorem dX3_fits_32 : decode cX3_fits 32 = .ok (.aload_n 0, 1) := by decide +kernel
theorem dX3_fits_33 : decode cX3_fits 33 = .ok (.getfield 27, 3) := by decide +kernel
theorem dX3_fits_36 : decode cX3_fits 36 = .ok (.invokestatic 58, 3) := by decide +kernel
theorem dX3_fits_39 : decode cX3_fits 39 = .ok (.istore_n 3, 1) := by decide +kernel
theorem dX3_fits_40 : decode cX3_fits 40 = .ok (.aload_n 0, 1) := by decide +kernel
theorem dX3_fits_41 : decode cX3_fits 41 = .ok (.getfield 15, 3) := by decide +kernel
theorem dX3_fits_44 : decode cX3_fits 44 = .ok (.iload_n 1, 1) := by decide +kernel
theorem dX3_fits_45 : decode cX3_fits 45 = .ok (.aload_n 0, 1) := by decide +kernel
theorem dX3_fits_46 : decode cX3_fits 46 = .ok (.getfield 21, 3) := by decide +kernel
theorem dX3_fits_49 : decode cX3_fits 49 = .ok (.aload_n 0, 1) := by decide +kernel
theorem dX3_fits_50 : decode cX3_fits 50 = .ok (.getfield 27, 3) := by decide +kernel
theorem dX3_fits_53 : decode cX3_fits 53 = .ok (.invokestatic 58, 3) := by decide +kernel
theorem dX3_fits_56 : decode cX3_fits 56 = .ok (.invokestatic 37, 3) := by decide +kernel
theorem dX3_fits_59 : decode cX3_fits 59 = .ok (.aload_n 0, 1) := by decide +kernel
theorem dX3_fits_60 : decode cX3_fits 60 = .ok (.getfield 18, 3) := by decide +kernel
theorem dX3_fits_63 : decode cX3_fits 63 = .ok (.iload_n 1, 1) := by decide +kernel
theorem dX3_fits_64 : decode cX3_fits 64 = .ok (.iload_n 3, 1) := by decide +kernel
theorem dX3_fits_65 : decode cX3_fits 65 = .ok (.invokestatic 37, 3) := by decide +kernel
theorem dX3_fits_68 : decode cX3_fits 68 = .ok (.iload_n 3, 1) := by decide +kernel
theorem dX3_fits_69 : decode cX3_fits 69 = .ok (.bipush 118, 2) := by decide +kernel
theorem dX3_fits_71 : decode cX3_fits 71 = .ok (.if_icmp .ne 8, 3) := by decide +kernel
theorem dX3_fits_74 : decode cX3_fits 74 = .ok (.iload_n 2, 1) := by decide +kernel
theorem dX3_fits_75 : decode cX3_fits 75 = .ok (.invokestatic 69, 3) := by decide +kernel
theorem dX3_fits_78 : decode cX3_fits 78 = .ok (.ireturn, 1) := by decide +kernel
theorem dX3_fits_79 : decode cX3_fits 79 = .ok (.iload_n 2, 1) := by decide +kernel
theorem dX3_fits_80 : decode cX3_fits 80 = .ok (.invokestatic 72, 3) := by decide +kernel
theorem dX3_fits_83 : decode cX3_fits 83 = .ok (.ifCond .ne 5, 3) := by decide +kernel
theorem dX3_fits_86 : decode cX3_fits 86 = .ok (.iconst 0, 1) := by decide +kernel
theorem dX3_fits_87 : decode cX3_fits 87 = .ok (.ireturn, 1) := by decide +kernel
theorem dX3_fits_88 : decode cX3_fits 88 = .ok (.iload_n 2, 1) := by decide +kernel
theorem dX3_fits_89 : decode cX3_fits 89 = .ok (.invokestatic 75, 3) := by decide +kernel
theorem dX3_fits_92 : decode cX3_fits 92 = .ok (.astore 4, 2) := by decide +kernel
theorem dX3_fits_94 : decode cX3_fits 94 = .ok (.aload 4, 2) := by decide +kernel
theorem dX3_fits_96 : decode cX3_fits 96 = .ok (.invokevirtual 79, 3) := by decide +kernel
theorem dX3_fits_99 : decode cX3_fits 99 = .ok (.iconst 1, 1) := by decide +kernel
theorem dX3_fits_100 : decode cX3_fits 100 = .ok (.isub, 1) := by decide +kernel
theorem dX3_fits_101 : decode cX3_fits 101 = .ok (.istore 5, 2) := by decide +kernel
theorem dX3_fits_103 : decode cX3_fits 103 = .ok (.iload 5, 2) := by decide +kernel
theorem dX3_fits_105 : decode cX3_fits 105 = .ok (.ifCond .lt 24, 3) := by decide +kernel
theorem dX3_fits_108 : decode cX3_fits 108 = .ok (.aload_n 0, 1) := by decide +kernel
theorem dX3_fits_109 : decode cX3_fits 109 = .ok (.aload_n 0, 1) := by decide +kernel
theorem dX3_fits_110 : decode cX3_fits 110 = .ok (.getfield 31, 3) := by decide +kernel
theorem dX3_fits_113 : decode cX3_fits 113 = .ok (.aload 4, 2) := by decide +kernel
theorem dX3_fits_115 : decode cX3_fits 115 = .ok (.iload 5, 2) := by decide +kernel
theorem dX3_fits_117 : decode cX3_fits 117 = .ok (.invokevirtual 83, 3) := by decide +kernel
theorem dX3_fits_120 : decode cX3_fits 120 = .ok (.invokevirtual 41, 3) := by decide +kernel
theorem dX3_fits_123 : decode cX3_fits 123 = .ok (.iinc 5 (-1), 3) := by decide +kernel
theorem dX3_fits_126 : decode cX3_fits 126 = .ok (.goto (-23), 3) := by decide +kernel
theorem dX3_fits_129 : decode cX3_fits 129 = .ok (.aload_n 0, 1) := by decide +kernel
theorem dX3_fits_130 : decode cX3_fits 130 = .ok (.dup, 1) := by decide +kernel
theorem dX3_fits_131 : decode cX3_fits 131 = .ok (.getfield 31, 3) := by decide +kernel
theorem dX3_fits_134 : decode cX3_fits 134 = .ok (.iconst 1, 1) := by decide +kernel
theorem dX3_fits_135 : decode cX3_fits 135 = .ok (.iadd, 1) := by decide +kernel
theorem dX3_fits_136 : decode cX3_fits 136 = .ok (.putfield 31, 3) := by decide +kernel
theorem dX3_fits_139 : decode cX3_fits 139 = .ok (.iconst 1, 1) := by decide +kernel
theorem dX3_fits_140 : decode cX3_fits 140 = .ok (.ireturn, 1) := by decide +kernel
theorem dX3_await_0 : decode cX3_await 0 = .ok (.aload_n 0, 1) := by decide +kernel
theorem dX3_await_1 : decode cX3_await 1 = .ok (.getfield 21, 3) := by decide +kernel
theorem dX3_await_4 : decode cX3_await 4 = .ok (.aload_n 0, 1) := by decide +kernel
theorem dX3_await_5 : decode cX3_await 5 = .ok (.getfield 27, 3) := by decide +kernel
theorem dX3_await_8 : decode cX3_await 8 = .ok (.iload_n 1, 1) := by decide +kernel
theorem dX3_await_9 : decode cX3_await 9 = .ok (.invokestatic 37, 3) := by decide +kernel
theorem dX3_await_12 : decode cX3_await 12 = .ok (.aload_n 0, 1) := by decide +kernel
theorem dX3_await_13 : decode cX3_await 13 = .ok (.getfield 24, 3) := by decide +kernel
theorem dX3_await_16 : decode cX3_await 16 = .ok (.aload_n 0, 1) := by decide +kernel
theorem dX3_await_17 : decode cX3_await 17 = .ok (.getfield 27, 3) := by decide +kernel
theorem dX3_await_20 : decode cX3_await 20 = .ok (.iload_n 2, 1) := by decide +kernel
theorem dX3_await_21 : decode cX3_await 21 = .ok (.invokestatic 37, 3) := by decide +kernel
theorem dX3_await_24 : decode cX3_await 24 = .ok (.aload_n 0, 1) := by decide +kernel
theorem dX3_await_25 : decode cX3_await 25 = .ok (.dup, 1) := by decide +kernel
theorem dX3_await_26 : decode cX3_await 26 = .ok (.getfield 27, 3) := by decide +kernel
theorem dX3_await_29 : decode cX3_await 29 = .ok (.iconst 1, 1) := by decide +kernel
theorem dX3_await_30 : decode cX3_await 30 = .ok (.iadd, 1) := by decide +kernel
theorem dX3_await_31 : decode cX3_await 31 = .ok (.putfield 27, 3) := by decide +kernel
theorem dX3_await_34 : decode cX3_await 34 = .ok (.return_, 1) := by decide +kernel
theorem dX3_placeBeyondLimits_0 : decode cX3_placeBeyondLimits 0 = .ok (.iconst 0, 1) := by decide +kernel
theorem dX3_placeBeyondLimits_1 : decode cX3_placeBeyondLimits 1 = .ok (.istore_n 1, 1) := by decide +kernel
theorem dX3_placeBeyondLimits_2 : decode cX3_placeBeyondLimits 2 = .ok (.iconst 0, 1) := by decide +kernel
theorem dX3_placeBeyondLimits_3 : decode cX3_placeBeyondLimits 3 = .ok (.istore_n 2, 1) := by decide +kernel
theorem dX3_placeBeyondLimits_4 : decode cX3_placeBeyondLimits 4 = .ok (.iconst 0, 1) := by decide +kernel
theorem dX3_placeBeyondLimits_5 : decode cX3_placeBeyondLimits 5 = .ok (.istore_n 3, 1) := by decide +kernel
theorem dX3_placeBeyondLimits_6 : decode cX3_placeBeyondLimits 6 = .ok (.iload_n 3, 1) := by decide +kernel
theorem dX3_placeBeyondLimits_7 : decode cX3_placeBeyondLimits 7 = .ok (.aload_n 0, 1) := by decide +kernel
theorem dX3_placeBeyondLimits_8 : decode cX3_placeBeyondLimits 8 = .ok (.getfield 34, 3) := by decide +kernel
theorem dX3_placeBeyondLimits_11 : decode cX3_placeBeyondLimits 11 = .ok (.if_icmp .ge 64, 3) := by decide +kernel
theorem dX3_placeBeyondLimits_14 : decode cX3_placeBeyondLimits 14 = .ok (.aload_n 0, 1) := by decide +kernel
theorem dX3_placeBeyondLimits_15 : decode cX3_placeBeyondLimits 15 = .ok (.getfield 18, 3) := by decide +kernel
theorem dX3_placeBeyondLimits_18 : decode cX3_placeBeyondLimits 18 = .ok (.iload_n 3, 1) := by decide +kernel
theorem dX3_placeBeyondLimits_19 : decode cX3_placeBeyondLimits 19 = .ok (.invokestatic 58, 3) := by decide +kernel
theorem dX3_placeBeyondLimits_22 : decode cX3_placeBeyondLimits 22 = .ok (.bipush 118, 2) := by decide +kernel
theorem dX3_placeBeyondLimits_24 : decode cX3_placeBeyondLimits 24 = .ok (.if_icmp .ne 6, 3) := by decide +kernel
theorem dX3_placeBeyondLimits_27 : decode cX3_placeBeyondLimits 27 = .ok (.goto 42, 3) := by decide +kernel
theorem dX3_placeBeyondLimits_30 : decode cX3_placeBeyondLimits 30 = .ok (.iinc 1 1, 3) := by decide +kernel
theorem dX3_placeBeyondLimits_33 : decode cX3_placeBeyondLimits 33 = .ok (.iload_n 2, 1) := by decide +kernel
theorem dX3_placeBeyondLimits_34 : decode cX3_placeBeyondLimits 34 = .ok (.aload_n 0, 1) := by decide +kernel
theorem dX3_placeBeyondLimits_35 : decode cX3_placeBeyondLimits 35 = .ok (.getfield 9, 3) := by decide +kernel
theorem dX3_placeBeyondLimits_38 : decode cX3_placeBeyondLimits 38 = .ok (.iload_n 3, 1) := by decide +kernel
theorem dX3_placeBeyondLimits_39 : decode cX3_placeBeyondLimits 39 = .ok (.invokestatic 58, 3) := by decide +kernel
theorem dX3_placeBeyondLimits_42 : decode cX3_placeBeyondLimits 42 = .ok (.invokestatic 87, 3) := by decide +kernel
theorem dX3_placeBeyondLimits_45 : decode cX3_placeBeyondLimits 45 = .ok (.ifCond .eq 7, 3) := by decide +kernel
theorem dX3_placeBeyondLimits_48 : decode cX3_placeBeyondLimits 48 = .ok (.iconst 1, 1) := by decide +kernel
theorem dX3_placeBeyondLimits_49 : decode cX3_placeBeyondLimits 49 = .ok (.goto 4, 3) := by decide +kernel
theorem dX3_placeBeyondLimits_52 : decode cX3_placeBeyondLimits 52 = .ok (.iconst 0, 1) := by decide +kernel
theorem dX3_placeBeyondLimits_53 : decode cX3_placeBeyondLimits 53 = .ok (.iadd, 1) := by decide +kernel
theorem dX3_placeBeyondLimits_54 : decode cX3_placeBeyondLimits 54 = .ok (.istore_n 2, 1) := by decide +kernel
theorem dX3_placeBeyondLimits_55 : decode cX3_placeBeyondLimits 55 = .ok (.iload_n 1, 1) := by decide +kernel
theorem dX3_placeBeyondLimits_56 : decode cX3_placeBeyondLimits 56 = .ok (.bipush 40, 2) := by decide +kernel
theorem dX3_placeBeyondLimits_58 : decode cX3_placeBeyondLimits 58 = .ok (.if_icmp .gt 9, 3) := by decide +kernel
theorem dX3_placeBeyondLimits_61 : decode cX3_placeBeyondLimits 61 = .ok (.iload_n 2, 1) := by decide +kernel
theorem dX3_placeBeyondLimits_62 : decode cX3_placeBeyondLimits 62 = .ok (.bipush 10, 2) := by decide +kernel
theorem dX3_placeBeyondLimits_64 : decode cX3_placeBeyondLimits 64 = .ok (.if_icmp .le 5, 3) := by decide +kernel
theorem dX3_placeBeyondLimits_67 : decode cX3_placeBeyondLimits 67 = .ok (.iload_n 3, 1) := by decide +kernel
theorem dX3_placeBeyondLimits_68 : decode cX3_placeBeyondLimits 68 = .ok (.ireturn, 1) := by decide +kernel
theorem dX3_placeBeyondLimits_69 : decode cX3_placeBeyondLimits 69 = .ok (.iinc 3 1, 3) := by decide +kernel
theorem dX3_placeBeyondLimits_72 : decode cX3_placeBeyondLimits 72 = .ok (.goto (-66), 3) := by decide +kernel
theorem dX3_placeBeyondLimits_75 : decode cX3_placeBeyondLimits 75 = .ok (.iconst (-1), 1) := by decide +kernel
theorem dX3_placeBeyondLimits_76 : decode cX3_placeBeyondLimits 76 = .ok (.ireturn, 1) := by decide +kernel
theorem dX3_isName_0 : decode cX3_isName 0 = .ok (.iload_n 0, 1) := by decide +kernel
theorem dX3_isName_1 : decode cX3_isName 1 = .ok (.bipush 97, 2) := by decide +kernel
theorem dX3_isName_3 : decode cX3_isName 3 = .ok (.if_icmp .lt 13, 3) := by decide +kernel
theorem dX3_isName_6 : decode cX3_isName 6 = .ok (.iload_n 0, 1) := by decide +kernel
theorem dX3_isName_7 : decode cX3_isName 7 = .ok (.bipush 102, 2) := by decide +kernel
theorem dX3_isName_9 : decode cX3_isName 9 = .ok (.if_icmp .gt 7, 3) := by decide +kernel
theorem dX3_isName_12 : decode cX3_isName 12 = .ok (.iconst 1, 1) := by decide +kernel
theorem dX3_isName_13 : decode cX3_isName 13 = .ok (.goto 4, 3) := by decide +kernel
theorem dX3_isName_16 : decode cX3_isName 16 = .ok (.iconst 0, 1) := by decide +kernel
theorem dX3_isName_17 : decode cX3_isName 17 = .ok (.ireturn, 1) := by decide +kernel
theorem dX3_isDigit_0 : decode cX3_isDigit 0 = .ok (.iload_n 0, 1) := by decide +kernel
theorem dX3_isDigit_1 : decode cX3_isDigit 1 = .ok (.bipush 48, 2) := by decide +kernel
theorem dX3_isDigit_3 : decode cX3_isDigit 3 = .ok (.if_icmp .lt 13, 3) := by decide +kernel
theorem dX3_isDigit_6 : decode cX3_isDigit 6 = .ok (.iload_n 0, 1) := by decide +kernel
theorem dX3_isDigit_7 : decode cX3_isDigit 7 = .ok (.bipush 57, 2) := by decide +kernel
theorem dX3_isDigit_9 : decode cX3_isDigit 9 = .ok (.if_icmp .gt 7, 3) := by decide +kernel
theorem dX3_isDigit_12 : decode cX3_isDigit 12 = .ok (.iconst 1, 1) := by decide +kernel
theorem dX3_isDigit_13 : decode cX3_isDigit 13 = .ok (.goto 4, 3) := by decide +kernel
theorem dX3_isDigit_16 : decode cX3_isDigit 16 = .ok (.iconst 0, 1) := by decide +kernel
theorem dX3_isDigit_17 : decode cX3_isDigit 17 = .ok (.ireturn, 1) := by decide +kernel
theorem dX3_isSite_0 : decode cX3_isSite 0 = .ok (.iload_n 0, 1) := by decide +kernel
theorem dX3_isSite_1 : decode cX3_isSite 1 = .ok (.bipush 112, 2) := by decide +kernel
theorem dX3_isSite_3 : decode cX3_isSite 3 = .ok (.if_icmp .eq 9, 3) := by decide +kernel
theorem dX3_isSite_6 : decode cX3_isSite 6 = .ok (.iload_n 0, 1) := by decide +kernel
theorem dX3_isSite_7 : decode cX3_isSite 7 = .ok (.bipush 113, 2) := by decide +kernel
theorem dX3_isSite_9 : decode cX3_isSite 9 = .ok (.if_icmp .ne 7, 3) := by decide +kernel
theorem dX3_isSite_12 : decode cX3_isSite 12 = .ok (.iconst 1, 1) := by decide +kernel
theorem dX3_isSite_13 : decode cX3_isSite 13 = .ok (.goto 4, 3) := by decide +kernel
theorem dX3_isSite_16 : decode cX3_isSite 16 = .ok (.iconst 0, 1) := by decide +kernel
theorem dX3_isSite_17 : decode cX3_isSite 17 = .ok (.ireturn, 1) := by decide +kernel
theorem dX3_isSign_0 : decode cX3_isSign 0 = .ok (.iload_n 0, 1) := by decide +kernel
theorem dX3_isSign_1 : decode cX3_isSign 1 = .ok (.invokestatic 90, 3) := by decide +kernel
theorem dX3_isSign_4 : decode cX3_isSign 4 = .ok (.ifCond .ne 20, 3) := by decide +kernel
theorem dX3_isSign_7 : decode cX3_isSign 7 = .ok (.iload_n 0, 1) := by decide +kernel
theorem dX3_isSign_8 : decode cX3_isSign 8 = .ok (.invokestatic 69, 3) := by decide +kernel
theorem dX3_isSign_11 : decode cX3_isSign 11 = .ok (.ifCond .ne 13, 3) := by decide +kernel
theorem dX3_isSign_14 : decode cX3_isSign 14 = .ok (.iload_n 0, 1) := by decide +kernel
theorem dX3_isSign_15 : decode cX3_isSign 15 = .ok (.invokestatic 75, 3) := by decide +kernel
theorem dX3_isSign_18 : decode cX3_isSign 18 = .ok (.invokevirtual 93, 3) := by decide +kernel
theorem dX3_isSign_21 : decode cX3_isSign 21 = .ok (.ifCond .ne 7, 3) := by decide +kernel
theorem dX3_isSign_24 : decode cX3_isSign 24 = .ok (.iconst 1, 1) := by decide +kernel
theorem dX3_isSign_25 : decode cX3_isSign 25 = .ok (.goto 4, 3) := by decide +kernel
theorem dX3_isSign_28 : decode cX3_isSign 28 = .ok (.iconst 0, 1) := by decide +kernel
theorem dX3_isSign_29 : decode cX3_isSign 29 = .ok (.ireturn, 1) := by decide +kernel
theorem dX3_partsOf_0 : decode cX3_partsOf 0 = .ok (.iload_n 0, 1) := by decide +kernel
theorem dX3_partsOf_1 : decode cX3_partsOf 1 = .ok (.tableswitch 321 42 113 #[303, 303, 303, 303, 321, 321, 321, 321, 321, 321, 321, 321, 321, 321, 321, 321, 321, 321, 321, 321, 321, 306, 303, 321, 303, 303, 321, 321, 312, 321, 321, 321, 321, 321, 309, 321, 321, 321, 315, 315, 321, 312, 321, 321, 321, 315, 315, 318, 321, 321, 321, 321, 321, 321, 321, 321, 321, 321, 321, 321, 321, 321, 321, 321, 321, 321, 321, 321, 321, 321, 315, 315], 303) := by decide +kernel
theorem dX3_partsOf_304 : decode cX3_partsOf 304 = .ok (.ldc 97, 2) := by decide +kernel
theorem dX3_partsOf_306 : decode cX3_partsOf 306 = .ok (.areturn, 1) := by decide +kernel
theorem dX3_partsOf_307 : decode cX3_partsOf 307 = .ok (.ldc 99, 2) := by decide +kernel
theorem dX3_partsOf_309 : decode cX3_partsOf 309 = .ok (.areturn, 1) := by decide +kernel
theorem dX3_partsOf_310 : decode cX3_partsOf 310 = .ok (.ldc 101, 2) := by decide +kernel
theorem dX3_partsOf_312 : decode cX3_partsOf 312 = .ok (.areturn, 1) := by decide +kernel
theorem dX3_partsOf_313 : decode cX3_partsOf 313 = .ok (.ldc 103, 2) := by decide +kernel
theorem dX3_partsOf_315 : decode cX3_partsOf 315 = .ok (.areturn, 1) := by decide +kernel
theorem dX3_partsOf_316 : decode cX3_partsOf 316 = .ok (.ldc 105, 2) := by decide +kernel
theorem dX3_partsOf_318 : decode cX3_partsOf 318 = .ok (.areturn, 1) := by decide +kernel
theorem dX3_partsOf_319 : decode cX3_partsOf 319 = .ok (.ldc 107, 2) := by decide +kernel
theorem dX3_partsOf_321 : decode cX3_partsOf 321 = .ok (.areturn, 1) := by decide +kernel
theorem dX3_partsOf_322 : decode cX3_partsOf 322 = .ok (.ldc 109, 2) := by decide +kernel
theorem dX3_partsOf_324 : decode cX3_partsOf 324 = .ok (.areturn, 1) := by decide +kernel
theorem dX4_init_0 : decode cX4_init 0 = .ok (.aload_n 0, 1) := by decide +kernel
theorem dX4_init_1 : decode cX4_init 1 = .ok (.invokespecial 3, 3) := by decide +kernel
theorem dX4_init_4 : decode cX4_init 4 = .ok (.aload_n 0, 1) := by decide +kernel
theorem dX4_init_5 : decode cX4_init 5 = .ok (.bipush 6, 2) := by decide +kernel
theorem dX4_init_7 : decode cX4_init 7 = .ok (.newarray .int, 2) := by decide +kernel
theorem dX4_init_9 : decode cX4_init 9 = .ok (.putfield 9, 3) := by decide +kernel
theorem dX4_init_12 : decode cX4_init 12 = .ok (.aload_n 0, 1) := by decide +kernel
theorem dX4_init_13 : decode cX4_init 13 = .ok (.new 15, 3) := by decide +kernel
theorem dX4_init_16 : decode cX4_init 16 = .ok (.dup, 1) := by decide +kernel
theorem dX4_init_17 : decode cX4_init 17 = .ok (.invokespecial 17, 3) := by decide +kernel
theorem dX4_init_20 : decode cX4_init 20 = .ok (.putfield 18, 3) := by decide +kernel
theorem dX4_init_23 : decode cX4_init 23 = .ok (.aload_n 0, 1) := by decide +kernel
theorem dX4_init_24 : decode cX4_init 24 = .ok (.new 22, 3) := by decide +kernel
theorem dX4_init_27 : decode cX4_init 27 = .ok (.dup, 1) := by decide +kernel
theorem dX4_init_28 : decode cX4_init 28 = .ok (.invokespecial 24, 3) := by decide +kernel
theorem dX4_init_31 : decode cX4_init 31 = .ok (.putfield 25, 3) := by decide +kernel
theorem dX4_init_34 : decode cX4_init 34 = .ok (.aload_n 0, 1) := by decide +kernel
theorem dX4_init_35 : decode cX4_init 35 = .ok (.new 29, 3) := by decide +kernel
theorem dX4_init_38 : decode cX4_init 38 = .ok (.dup, 1) := by decide +kernel
theorem dX4_init_39 : decode cX4_init 39 = .ok (.invokespecial 31, 3) := by decide +kernel
theorem dX4_init_42 : decode cX4_init 42 = .ok (.putfield 32, 3) := by decide +kernel
theorem dX4_init_45 : decode cX4_init 45 = .ok (.aload_n 0, 1) := by decide +kernel
theorem dX4_init_46 : decode cX4_init 46 = .ok (.new 36, 3) := by decide +kernel
theorem dX4_init_49 : decode cX4_init 49 = .ok (.dup, 1) := by decide +kernel
theorem dX4_init_50 : decode cX4_init 50 = .ok (.invokespecial 38, 3) := by decide +kernel
theorem dX4_init_53 : decode cX4_init 53 = .ok (.putfield 39, 3) := by decide +kernel
theorem dX4_init_56 : decode cX4_init 56 = .ok (.aload_n 0, 1) := by decide +kernel
theorem dX4_init_57 : decode cX4_init 57 = .ok (.new 43, 3) := by decide +kernel
theorem dX4_init_60 : decode cX4_init 60 = .ok (.dup, 1) := by decide +kernel
theorem dX4_init_61 : decode cX4_init 61 = .ok (.invokespecial 45, 3) := by decide +kernel
theorem dX4_init_64 : decode cX4_init 64 = .ok (.putfield 46, 3) := by decide +kernel
theorem dX4_init_67 : decode cX4_init 67 = .ok (.aload_n 0, 1) := by decide +kernel
theorem dX4_init_68 : decode cX4_init 68 = .ok (.new 50, 3) := by decide +kernel
theorem dX4_init_71 : decode cX4_init 71 = .ok (.dup, 1) := by decide +kernel
theorem dX4_init_72 : decode cX4_init 72 = .ok (.invokespecial 52, 3) := by decide +kernel
theorem dX4_init_75 : decode cX4_init 75 = .ok (.putfield 53, 3) := by decide +kernel
theorem dX4_init_78 : decode cX4_init 78 = .ok (.aload_n 0, 1) := by decide +kernel
theorem dX4_init_79 : decode cX4_init 79 = .ok (.iconst 3, 1) := by decide +kernel
theorem dX4_init_80 : decode cX4_init 80 = .ok (.putfield 57, 3) := by decide +kernel
theorem dX4_init_83 : decode cX4_init 83 = .ok (.aload_n 0, 1) := by decide +kernel
theorem dX4_init_84 : decode cX4_init 84 = .ok (.iconst 0, 1) := by decide +kernel
theorem dX4_init_85 : decode cX4_init 85 = .ok (.putfield 61, 3) := by decide +kernel
theorem dX4_init_88 : decode cX4_init 88 = .ok (.aload_n 0, 1) := by decide +kernel
theorem dX4_init_89 : decode cX4_init 89 = .ok (.iconst (-1), 1) := by decide +kernel
theorem dX4_init_90 : decode cX4_init 90 = .ok (.putfield 64, 3) := by decide +kernel
theorem dX4_init_93 : decode cX4_init 93 = .ok (.aload_n 0, 1) := by decide +kernel
theorem dX4_init_94 : decode cX4_init 94 = .ok (.iconst 0, 1) := by decide +kernel
theorem dX4_init_95 : decode cX4_init 95 = .ok (.putfield 67, 3) := by decide +kernel
theorem dX4_init_98 : decode cX4_init 98 = .ok (.aload_n 0, 1) := by decide +kernel
theorem dX4_init_99 : decode cX4_init 99 = .ok (.iconst 0, 1) := by decide +kernel
theorem dX4_init_100 : decode cX4_init 100 = .ok (.putfield 70, 3) := by decide +kernel
theorem dX4_init_103 : decode cX4_init 103 = .ok (.aload_n 0, 1) := by decide +kernel
theorem dX4_init_104 : decode cX4_init 104 = .ok (.iconst 0, 1) := by decide +kernel
theorem dX4_init_105 : decode cX4_init 105 = .ok (.putfield 73, 3) := by decide +kernel
theorem dX4_init_108 : decode cX4_init 108 = .ok (.return_, 1) := by decide +kernel
theorem dX4_takeUp_0 : decode cX4_takeUp 0 = .ok (.aload_n 0, 1) := by decide +kernel
theorem dX4_takeUp_1 : decode cX4_takeUp 1 = .ok (.aload_n 1, 1) := by decide +kernel
theorem dX4_takeUp_2 : decode cX4_takeUp 2 = .ok (.getfield 77, 3) := by decide +kernel
theorem dX4_takeUp_5 : decode cX4_takeUp 5 = .ok (.putfield 53, 3) := by decide +kernel
theorem dX4_takeUp_8 : decode cX4_takeUp 8 = .ok (.aload_n 1, 1) := by decide +kernel
theorem dX4_takeUp_9 : decode cX4_takeUp 9 = .ok (.getfield 80, 3) := by decide +kernel
theorem dX4_takeUp_12 : decode cX4_takeUp 12 = .ok (.aload_n 0, 1) := by decide +kernel
theorem dX4_takeUp_13 : decode cX4_takeUp 13 = .ok (.getfield 9, 3) := by decide +kernel
theorem dX4_takeUp_16 : decode cX4_takeUp 16 = .ok (.invokestatic 81, 3) := by decide +kernel
theorem dX4_takeUp_19 : decode cX4_takeUp 19 = .ok (.aload_n 0, 1) := by decide +kernel
theorem dX4_takeUp_20 : decode cX4_takeUp 20 = .ok (.getfield 18, 3) := by decide +kernel
theorem dX4_takeUp_23 : decode cX4_takeUp 23 = .ok (.aload_n 1, 1) := by decide +kernel
theorem dX4_takeUp_24 : decode cX4_takeUp 24 = .ok (.getfield 85, 3) := by decide +kernel
theorem dX4_takeUp_27 : decode cX4_takeUp 27 = .ok (.invokevirtual 86, 3) := by decide +kernel
theorem dX4_takeUp_30 : decode cX4_takeUp 30 = .ok (.return_, 1) := by decide +kernel
theorem dX4_perform_0 : decode cX4_perform 0 = .ok (.aload_n 0, 1) := by decide +kernel
theorem dX4_perform_1 : decode cX4_perform 1 = .ok (.invokevirtual 90, 3) := by decide +kernel
theorem dX4_perform_4 : decode cX4_perform 4 = .ok (.iconst 0, 1) := by decide +kernel
theorem dX4_perform_5 : decode cX4_perform 5 = .ok (.istore_n 1, 1) := by decide +kernel
theorem dX4_perform_6 : decode cX4_perform 6 = .ok (.iload_n 1, 1) := by decide +kernel
theorem dX4_perform_7 : decode cX4_perform 7 = .ok (.ldc 93, 2) := by decide +kernel
theorem dX4_perform_9 : decode cX4_perform 9 = .ok (.if_icmp .ge 50, 3) := by decide +kernel
theorem dX4_perform_12 : decode cX4_perform 12 = .ok (.aload_n 0, 1) := by decide +kernel
theorem dX4_perform_13 : decode cX4_perform 13 = .ok (.getfield 57, 3) := by decide +kernel
theorem dX4_perform_16 : decode cX4_perform 16 = .ok (.iconst 3, 1) := by decide +kernel
theorem dX4_perform_17 : decode cX4_perform 17 = .ok (.if_icmp .eq 42, 3) := by decide +kernel
theorem dX4_perform_20 : decode cX4_perform 20 = .ok (.aload_n 0, 1) := by decide +kernel
theorem dX4_perform_21 : decode cX4_perform 21 = .ok (.getfield 57, 3) := by decide +kernel
theorem dX4_perform_24 : decode cX4_perform 24 = .ok (.ifCond .ne 10, 3) := by decide +kernel
theorem dX4_perform_27 : decode cX4_perform 27 = .ok (.aload_n 0, 1) := by decide +kernel
theorem dX4_perform_28 : decode cX4_perform 28 = .ok (.invokevirtual 94, 3) := by decide +kernel
theorem dX4_perform_31 : decode cX4_perform 31 = .ok (.goto 22, 3) := by decide +kernel
theorem dX4_perform_34 : decode cX4_perform 34 = .ok (.aload_n 0, 1) := by decide +kernel
theorem dX4_perform_35 : decode cX4_perform 35 = .ok (.getfield 57, 3) := by decide +kernel
theorem dX4_perform_38 : decode cX4_perform 38 = .ok (.iconst 1, 1) := by decide +kernel
theorem dX4_perform_39 : decode cX4_perform 39 = .ok (.if_icmp .ne 10, 3) := by decide +kernel
theorem dX4_perform_42 : decode cX4_perform 42 = .ok (.aload_n 0, 1) := by decide +kernel
theorem dX4_perform_43 : decode cX4_perform 43 = .ok (.invokevirtual 97, 3) := by decide +kernel
theorem dX4_perform_46 : decode cX4_perform 46 = .ok (.goto 7, 3) := by decide +kernel
theorem dX4_perform_49 : decode cX4_perform 49 = .ok (.aload_n 0, 1) := by decide +kernel
theorem dX4_perform_50 : decode cX4_perform 50 = .ok (.invokevirtual 100, 3) := by decide +kernel
theorem dX4_perform_53 : decode cX4_perform 53 = .ok (.iinc 1 1, 3) := by decide +kernel
theorem dX4_perform_56 : decode cX4_perform 56 = .ok (.goto (-50), 3) := by decide +kernel
theorem dX4_perform_59 : decode cX4_perform 59 = .ok (.aload_n 0, 1) := by decide +kernel
theorem dX4_perform_60 : decode cX4_perform 60 = .ok (.invokevirtual 103, 3) := by decide +kernel
theorem dX4_perform_63 : decode cX4_perform 63 = .ok (.aload_n 0, 1) := by decide +kernel
theorem dX4_perform_64 : decode cX4_perform 64 = .ok (.getfield 25, 3) := by decide +kernel
theorem dX4_perform_67 : decode cX4_perform 67 = .ok (.areturn, 1) := by decide +kernel
theorem dX4_start_0 : decode cX4_start 0 = .ok (.aload_n 0, 1) := by decide +kernel
theorem dX4_start_1 : decode cX4_start 1 = .ok (.getfield 32, 3) := by decide +kernel
theorem dX4_start_4 : decode cX4_start 4 = .ok (.invokevirtual 106, 3) := by decide +kernel
theorem dX4_start_7 : decode cX4_start 7 = .ok (.aload_n 0, 1) := by decide +kernel
theorem dX4_start_8 : decode cX4_start 8 = .ok (.getfield 39, 3) := by decide +kernel
theorem dX4_start_11 : decode cX4_start 11 = .ok (.invokevirtual 109, 3) := by decide +kernel
theorem dX4_start_14 : decode cX4_start 14 = .ok (.aload_n 0, 1) := by decide +kernel
theorem dX4_start_15 : decode cX4_start 15 = .ok (.getfield 46, 3) := by decide +kernel
theorem dX4_start_18 : decode cX4_start 18 = .ok (.invokevirtual 110, 3) := by decide +kernel
theorem dX4_start_21 : decode cX4_start 21 = .ok (.aload_n 0, 1) := by decide +kernel
theorem dX4_start_22 : decode cX4_start 22 = .ok (.invokevirtual 111, 3) := by decide +kernel
theorem dX4_start_25 : decode cX4_start 25 = .ok (.aload_n 0, 1) := by decide +kernel
theorem dX4_start_26 : decode cX4_start 26 = .ok (.iconst 0, 1) := by decide +kernel
theorem dX4_start_27 : decode cX4_start 27 = .ok (.putfield 70, 3) := by decide +kernel
theorem dX4_start_30 : decode cX4_start 30 = .ok (.aload_n 0, 1) := by decide +kernel
theorem dX4_start_31 : decode cX4_start 31 = .ok (.getfield 25, 3) := by decide +kernel
theorem dX4_start_34 : decode cX4_start 34 = .ok (.iconst 0, 1) := by decide +kernel
theorem dX4_start_35 : decode cX4_start 35 = .ok (.putfield 114, 3) := by decide +kernel
theorem dX4_start_38 : decode cX4_start 38 = .ok (.aload_n 0, 1) := by decide +kernel
theorem dX4_start_39 : decode cX4_start 39 = .ok (.getfield 25, 3) := by decide +kernel
theorem dX4_start_42 : decode cX4_start 42 = .ok (.iconst 0, 1) := by decide +kernel
theorem dX4_start_43 : decode cX4_start 43 = .ok (.putfield 117, 3) := by decide +kernel
theorem dX4_start_46 : decode cX4_start 46 = .ok (.aload_n 0, 1) := by decide +kernel
theorem dX4_start_47 : decode cX4_start 47 = .ok (.getfield 25, 3) := by decide +kernel
theorem dX4_start_50 : decode cX4_start 50 = .ok (.iconst 0, 1) := by decide +kernel
theorem dX4_start_51 : decode cX4_start 51 = .ok (.putfield 120, 3) := by decide +kernel
theorem dX4_start_54 : decode cX4_start 54 = .ok (.aload_n 0, 1) := by decide +kernel
theorem dX4_start_55 : decode cX4_start 55 = .ok (.iconst 0, 1) := by decide +kernel
theorem dX4_start_56 : decode cX4_start 56 = .ok (.iconst (-1), 1) := by decide +kernel
theorem dX4_start_57 : decode cX4_start 57 = .ok (.invokevirtual 123, 3) := by decide +kernel
theorem dX4_start_60 : decode cX4_start 60 = .ok (.return_, 1) := by decide +kernel
theorem dX4_tellEnding_0 : decode cX4_tellEnding 0 = .ok (.aload_n 0, 1) := by decide +kernel
theorem dX4_tellEnding_1 : decode cX4_tellEnding 1 = .ok (.getfield 73, 3) := by decide +kernel
theorem dX4_tellEnding_4 : decode cX4_tellEnding 4 = .ok (.ifCond .eq 29, 3) := by decide +kernel
theorem dX4_tellEnding_7 : decode cX4_tellEnding 7 = .ok (.aload_n 0, 1) := by decide +kernel
theorem dX4_tellEnding_8 : decode cX4_tellEnding 8 = .ok (.getfield 25, 3) := by decide +kernel
theorem dX4_tellEnding_11 : decode cX4_tellEnding 11 = .ok (.iconst 3, 1) := by decide +kernel
theorem dX4_tellEnding_12 : decode cX4_tellEnding 12 = .ok (.putfield 127, 3) := by decide +kernel
theorem dX4_tellEnding_15 : decode cX4_tellEnding 15 = .ok (.aload_n 0, 1) := by decide +kernel
theorem dX4_tellEnding_16 : decode cX4_tellEnding 16 = .ok (.getfield 25, 3) := by decide +kernel
theorem dX4_tellEnding_19 : decode cX4_tellEnding 19 = .ok (.aload_n 0, 1) := by decide +kernel
theorem dX4_tellEnding_20 : decode cX4_tellEnding 20 = .ok (.getfield 25, 3) := by decide +kernel
theorem dX4_tellEnding_23 : decode cX4_tellEnding 23 = .ok (.iconst 0, 1) := by decide +kernel
theorem dX4_tellEnding_24 : decode cX4_tellEnding 24 = .ok (.invokevirtual 130, 3) := by decide +kernel
theorem dX4_tellEnding_27 : decode cX4_tellEnding 27 = .ok (.putfield 134, 3) := by decide +kernel
theorem dX4_tellEnding_30 : decode cX4_tellEnding 30 = .ok (.goto 111, 3) := by decide +kernel
theorem dX4_tellEnding_33 : decode cX4_tellEnding 33 = .ok (.aload_n 0, 1) := by decide +kernel
theorem dX4_tellEnding_34 : decode cX4_tellEnding 34 = .ok (.getfield 67, 3) := by decide +kernel
theorem dX4_tellEnding_37 : decode cX4_tellEnding 37 = .ok (.invokestatic 137, 3) := by decide +kernel
theorem dX4_tellEnding_40 : decode cX4_tellEnding 40 = .ok (.ifCond .eq 25, 3) := by decide +kernel
theorem dX4_tellEnding_43 : decode cX4_tellEnding 43 = .ok (.aload_n 0, 1) := by decide +kernel
theorem dX4_tellEnding_44 : decode cX4_tellEnding 44 = .ok (.getfield 25, 3) := by decide +kernel
theorem dX4_tellEnding_47 : decode cX4_tellEnding 47 = .ok (.iconst 0, 1) := by decide +kernel
theorem dX4_tellEnding_48 : decode cX4_tellEnding 48 = .ok (.putfield 127, 3) := by decide +kernel
theorem dX4_tellEnding_51 : decode cX4_tellEnding 51 = .ok (.aload_n 0, 1) := by decide +kernel
theorem dX4_tellEnding_52 : decode cX4_tellEnding 52 = .ok (.getfield 25, 3) := by decide +kernel
theorem dX4_tellEnding_55 : decode cX4_tellEnding 55 = .ok (.aload_n 0, 1) := by decide +kernel
theorem dX4_tellEnding_56 : decode cX4_tellEnding 56 = .ok (.getfield 67, 3) := by decide +kernel
theorem dX4_tellEnding_59 : decode cX4_tellEnding 59 = .ok (.putfield 134, 3) := by decide +kernel
theorem dX4_tellEnding_62 : decode cX4_tellEnding 62 = .ok (.goto 79, 3) := by decide +kernel
theorem dX4_tellEnding_65 : decode cX4_tellEnding 65 = .ok (.aload_n 0, 1) := by decide +kernel
theorem dX4_tellEnding_66 : decode cX4_tellEnding 66 = .ok (.getfield 39, 3) := by decide +kernel
theorem dX4_tellEnding_69 : decode cX4_tellEnding 69 = .ok (.aload_n 0, 1) := by decide +kernel
theorem dX4_tellEnding_70 : decode cX4_tellEnding 70 = .ok (.getfield 67, 3) := by decide +kernel
theorem dX4_tellEnding_73 : decode cX4_tellEnding 73 = .ok (.invokevirtual 141, 3) := by decide +kernel
theorem dX4_tellEnding_76 : decode cX4_tellEnding 76 = .ok (.ifCond .eq 39, 3) := by decide +kernel
theorem dX4_tellEnding_79 : decode cX4_tellEnding 79 = .ok (.aload_n 0, 1) := by decide +kernel
theorem dX4_tellEnding_80 : decode cX4_tellEnding 80 = .ok (.getfield 25, 3) := by decide +kernel
theorem dX4_tellEnding_83 : decode cX4_tellEnding 83 = .ok (.iconst 1, 1) := by decide +kernel
theorem dX4_tellEnding_84 : decode cX4_tellEnding 84 = .ok (.putfield 127, 3) := by decide +kernel
theorem dX4_tellEnding_87 : decode cX4_tellEnding 87 = .ok (.aload_n 0, 1) := by decide +kernel
theorem dX4_tellEnding_88 : decode cX4_tellEnding 88 = .ok (.getfield 25, 3) := by decide +kernel
theorem dX4_tellEnding_91 : decode cX4_tellEnding 91 = .ok (.aload_n 0, 1) := by decide +kernel
theorem dX4_tellEnding_92 : decode cX4_tellEnding 92 = .ok (.getfield 53, 3) := by decide +kernel
theorem dX4_tellEnding_95 : decode cX4_tellEnding 95 = .ok (.aload_n 0, 1) := by decide +kernel
theorem dX4_tellEnding_96 : decode cX4_tellEnding 96 = .ok (.getfield 39, 3) := by decide +kernel
theorem dX4_tellEnding_99 : decode cX4_tellEnding 99 = .ok (.aload_n 0, 1) := by decide +kernel
theorem dX4_tellEnding_100 : decode cX4_tellEnding 100 = .ok (.getfield 67, 3) := by decide +kernel
theorem dX4_tellEnding_103 : decode cX4_tellEnding 103 = .ok (.invokevirtual 144, 3) := by decide +kernel
theorem dX4_tellEnding_106 : decode cX4_tellEnding 106 = .ok (.invokevirtual 147, 3) := by decide +kernel
theorem dX4_tellEnding_109 : decode cX4_tellEnding 109 = .ok (.putfield 134, 3) := by decide +kernel
theorem dX4_tellEnding_112 : decode cX4_tellEnding 112 = .ok (.goto 29, 3) := by decide +kernel
theorem dX4_tellEnding_115 : decode cX4_tellEnding 115 = .ok (.aload_n 0, 1) := by decide +kernel
theorem dX4_tellEnding_116 : decode cX4_tellEnding 116 = .ok (.getfield 25, 3) := by decide +kernel
theorem dX4_tellEnding_119 : decode cX4_tellEnding 119 = .ok (.iconst 2, 1) := by decide +kernel
theorem dX4_tellEnding_120 : decode cX4_tellEnding 120 = .ok (.putfield 127, 3) := by decide +kernel
theorem dX4_tellEnding_123 : decode cX4_tellEnding 123 = .ok (.aload_n 0, 1) := by decide +kernel
theorem dX4_tellEnding_124 : decode cX4_tellEnding 124 = .ok (.getfield 25, 3) := by decide +kernel
theorem dX4_tellEnding_127 : decode cX4_tellEnding 127 = .ok (.aload_n 0, 1) := by decide +kernel
theorem dX4_tellEnding_128 : decode cX4_tellEnding 128 = .ok (.getfield 39, 3) := by decide +kernel
theorem dX4_tellEnding_131 : decode cX4_tellEnding 131 = .ok (.aload_n 0, 1) := by decide +kernel
theorem dX4_tellEnding_132 : decode cX4_tellEnding 132 = .ok (.getfield 67, 3) := by decide +kernel
theorem dX4_tellEnding_135 : decode cX4_tellEnding 135 = .ok (.invokevirtual 150, 3) := by decide +kernel
theorem dX4_tellEnding_138 : decode cX4_tellEnding 138 = .ok (.putfield 134, 3) := by decide +kernel
theorem dX4_tellEnding_141 : decode cX4_tellEnding 141 = .ok (.return_, 1) := by decide +kernel
theorem dX4_begin_0 : decode cX4_begin 0 = .ok (.aload_n 0, 1) := by decide +kernel
theorem dX4_begin_1 : decode cX4_begin 1 = .ok (.iconst 0, 1) := by decide +kernel
theorem dX4_begin_2 : decode cX4_begin 2 = .ok (.putfield 57, 3) := by decide +kernel
theorem dX4_begin_5 : decode cX4_begin 5 = .ok (.aload_n 0, 1) := by decide +kernel
theorem dX4_begin_6 : decode cX4_begin 6 = .ok (.iload_n 1, 1) := by decide +kernel
theorem dX4_begin_7 : decode cX4_begin 7 = .ok (.putfield 61, 3) := by decide +kernel
theorem dX4_begin_10 : decode cX4_begin 10 = .ok (.aload_n 0, 1) := by decide +kernel
theorem dX4_begin_11 : decode cX4_begin 11 = .ok (.iload_n 2, 1) := by decide +kernel
theorem dX4_begin_12 : decode cX4_begin 12 = .ok (.putfield 64, 3) := by decide +kernel
theorem dX4_begin_15 : decode cX4_begin 15 = .ok (.return_, 1) := by decide +kernel
theorem dX4_give_0 : decode cX4_give 0 = .ok (.aload_n 0, 1) := by decide +kernel
theorem dX4_give_1 : decode cX4_give 1 = .ok (.iconst 1, 1) := by decide +kernel
theorem dX4_give_2 : decode cX4_give 2 = .ok (.putfield 57, 3) := by decide +kernel
theorem dX4_give_5 : decode cX4_give 5 = .ok (.aload_n 0, 1) := by decide +kernel
theorem dX4_give_6 : decode cX4_give 6 = .ok (.iload_n 1, 1) := by decide +kernel
theorem dX4_give_7 : decode cX4_give 7 = .ok (.putfield 67, 3) := by decide +kernel
theorem dX4_give_10 : decode cX4_give 10 = .ok (.return_, 1) := by decide +kernel
theorem dX4_fail_0 : decode cX4_fail 0 = .ok (.aload_n 0, 1) := by decide +kernel
theorem dX4_fail_1 : decode cX4_fail 1 = .ok (.iconst 2, 1) := by decide +kernel
theorem dX4_fail_2 : decode cX4_fail 2 = .ok (.putfield 57, 3) := by decide +kernel
theorem dX4_fail_5 : decode cX4_fail 5 = .ok (.aload_n 0, 1) := by decide +kernel
theorem dX4_fail_6 : decode cX4_fail 6 = .ok (.iconst 1, 1) := by decide +kernel
theorem dX4_fail_7 : decode cX4_fail 7 = .ok (.putfield 73, 3) := by decide +kernel
theorem dX4_fail_10 : decode cX4_fail 10 = .ok (.aload_n 0, 1) := by decide +kernel
theorem dX4_fail_11 : decode cX4_fail 11 = .ok (.getfield 25, 3) := by decide +kernel
theorem dX4_fail_14 : decode cX4_fail 14 = .ok (.iconst 0, 1) := by decide +kernel
theorem dX4_fail_15 : decode cX4_fail 15 = .ok (.putfield 153, 3) := by decide +kernel
theorem dX4_fail_18 : decode cX4_fail 18 = .ok (.aload_n 0, 1) := by decide +kernel
theorem dX4_fail_19 : decode cX4_fail 19 = .ok (.getfield 25, 3) := by decide +kernel
theorem dX4_fail_22 : decode cX4_fail 22 = .ok (.iload_n 1, 1) := by decide +kernel
theorem dX4_fail_23 : decode cX4_fail 23 = .ok (.putfield 156, 3) := by decide +kernel
theorem dX4_fail_26 : decode cX4_fail 26 = .ok (.return_, 1) := by decide +kernel
theorem dX4_beginExpression_0 : decode cX4_beginExpression 0 = .ok (.aload_n 0, 1) := by decide +kernel
theorem dX4_beginExpression_1 : decode cX4_beginExpression 1 = .ok (.getfield 25, 3) := by decide +kernel
theorem dX4_beginExpression_4 : decode cX4_beginExpression 4 = .ok (.getfield 114, 3) := by decide +kernel
theorem dX4_beginExpression_7 : decode cX4_beginExpression 7 = .ok (.sipush 400, 3) := by decide +kernel
theorem dX4_beginExpression_10 : decode cX4_beginExpression 10 = .ok (.if_icmp .lt 10, 3) := by decide +kernel
theorem dX4_beginExpression_13 : decode cX4_beginExpression 13 = .ok (.aload_n 0, 1) := by decide +kernel
theorem dX4_beginExpression_14 : decode cX4_beginExpression 14 = .ok (.bipush 6, 2) := by decide +kernel
theorem dX4_beginExpression_16 : decode cX4_beginExpression 16 = .ok (.invokevirtual 159, 3) := by decide +kernel
theorem dX4_beginExpression_19 : decode cX4_beginExpression 19 = .ok (.return_, 1) := by decide +kernel
theorem dX4_beginExpression_20 : decode cX4_beginExpression 20 = .ok (.aload_n 0, 1) := by decide +kernel
theorem dX4_beginExpression_21 : decode cX4_beginExpression 21 = .ok (.getfield 25, 3) := by decide +kernel
theorem dX4_beginExpression_24 : decode cX4_beginExpression 24 = .ok (.dup, 1) := by decide +kernel
theorem dX4_beginExpression_25 : decode cX4_beginExpression 25 = .ok (.getfield 114, 3) := by decide +kernel
theorem dX4_beginExpression_28 : decode cX4_beginExpression 28 = .ok (.iconst 1, 1) := by decide +kernel
theorem dX4_beginExpression_29 : decode cX4_beginExpression 29 = .ok (.iadd, 1) := by decide +kernel
theorem dX4_beginExpression_30 : decode cX4_beginExpression 30 = .ok (.putfield 114, 3) := by decide +kernel
theorem dX4_beginExpression_33 : decode cX4_beginExpression 33 = .ok (.aload_n 0, 1) := by decide +kernel
theorem dX4_beginExpression_34 : decode cX4_beginExpression 34 = .ok (.getfield 53, 3) := by decide +kernel
theorem dX4_beginExpression_37 : decode cX4_beginExpression 37 = .ok (.aload_n 0, 1) := by decide +kernel
theorem dX4_beginExpression_38 : decode cX4_beginExpression 38 = .ok (.getfield 61, 3) := by decide +kernel
theorem dX4_beginExpression_41 : decode cX4_beginExpression 41 = .ok (.invokevirtual 163, 3) := by decide +kernel
theorem dX4_beginExpression_44 : decode cX4_beginExpression 44 = .ok (.istore_n 1, 1) := by decide +kernel
theorem dX4_beginExpression_45 : decode cX4_beginExpression 45 = .ok (.iload_n 1, 1) := by decide +kernel
theorem dX4_beginExpression_46 : decode cX4_beginExpression 46 = .ok (.invokestatic 166, 3) := by decide +kernel
theorem dX4_beginExpression_49 : decode cX4_beginExpression 49 = .ok (.ifCond .eq 14, 3) := by decide +kernel
theorem dX4_beginExpression_52 : decode cX4_beginExpression 52 = .ok (.aload_n 0, 1) := by decide +kernel
theorem dX4_beginExpression_53 : decode cX4_beginExpression 53 = .ok (.iload_n 1, 1) := by decide +kernel
theorem dX4_beginExpression_54 : decode cX4_beginExpression 54 = .ok (.bipush 48, 2) := by decide +kernel
theorem dX4_beginExpression_56 : decode cX4_beginExpression 56 = .ok (.isub, 1) := by decide +kernel
theorem dX4_beginExpression_57 : decode cX4_beginExpression 57 = .ok (.invokevirtual 171, 3) := by decide +kernel
theorem dX4_beginExpression_60 : decode cX4_beginExpression 60 = .ok (.goto 101, 3) := by decide +kernel
theorem dX4_beginExpression_63 : decode cX4_beginExpression 63 = .ok (.iload_n 1, 1) := by decide +kernel
theorem dX4_beginExpression_64 : decode cX4_beginExpression 64 = .ok (.invokestatic 174, 3) := by decide +kernel
theorem dX4_beginExpression_67 : decode cX4_beginExpression 67 = .ok (.ifCond .eq 29, 3) := by decide +kernel
theorem dX4_beginExpression_70 : decode cX4_beginExpression 70 = .ok (.aload_n 0, 1) := by decide +kernel
theorem dX4_beginExpression_71 : decode cX4_beginExpression 71 = .ok (.aload_n 0, 1) := by decide +kernel
theorem dX4_beginExpression_72 : decode cX4_beginExpression 72 = .ok (.aload_n 0, 1) := by decide +kernel
theorem dX4_beginExpression_73 : decode cX4_beginExpression 73 = .ok (.getfield 53, 3) := by decide +kernel
theorem dX4_beginExpression_76 : decode cX4_beginExpression 76 = .ok (.aload_n 0, 1) := by decide +kernel
theorem dX4_beginExpression_77 : decode cX4_beginExpression 77 = .ok (.getfield 61, 3) := by decide +kernel
theorem dX4_beginExpression_80 : decode cX4_beginExpression 80 = .ok (.invokevirtual 147, 3) := by decide +kernel
theorem dX4_beginExpression_83 : decode cX4_beginExpression 83 = .ok (.aload_n 0, 1) := by decide +kernel
theorem dX4_beginExpression_84 : decode cX4_beginExpression 84 = .ok (.getfield 64, 3) := by decide +kernel
theorem dX4_beginExpression_87 : decode cX4_beginExpression 87 = .ok (.invokevirtual 177, 3) := by decide +kernel
theorem dX4_beginExpression_90 : decode cX4_beginExpression 90 = .ok (.invokevirtual 171, 3) := by decide +kernel
theorem dX4_beginExpression_93 : decode cX4_beginExpression 93 = .ok (.goto 68, 3) := by decide +kernel
theorem dX4_beginExpression_96 : decode cX4_beginExpression 96 = .ok (.iload_n 1, 1) := by decide +kernel
theorem dX4_beginExpression_97 : decode cX4_beginExpression 97 = .ok (.bipush 70, 2) := by decide +kernel
theorem dX4_beginExpression_99 : decode cX4_beginExpression 99 = .ok (.if_icmp .ne 26, 3) := by decide +kernel
theorem dX4_beginExpression_102 : decode cX4_beginExpression 102 = .ok (.aload_n 0, 1) := by decide +kernel
theorem dX4_beginExpression_103 : decode cX4_beginExpression 103 = .ok (.aload_n 0, 1) := by decide +kernel
theorem dX4_beginExpression_104 : decode cX4_beginExpression 104 = .ok (.getfield 39, 3) := by decide +kernel
theorem dX4_beginExpression_107 : decode cX4_beginExpression 107 = .ok (.iconst 4, 1) := by decide +kernel
theorem dX4_beginExpression_108 : decode cX4_beginExpression 108 = .ok (.aload_n 0, 1) := by decide +kernel
theorem dX4_beginExpression_109 : decode cX4_beginExpression 109 = .ok (.getfield 61, 3) := by decide +kernel
theorem dX4_beginExpression_112 : decode cX4_beginExpression 112 = .ok (.aload_n 0, 1) := by decide +kernel
theorem dX4_beginExpression_113 : decode cX4_beginExpression 113 = .ok (.getfield 64, 3) := by decide +kernel
theorem dX4_beginExpression_116 : decode cX4_beginExpression 116 = .ok (.invokevirtual 181, 3) := by decide +kernel
theorem dX4_beginExpression_119 : decode cX4_beginExpression 119 = .ok (.invokevirtual 171, 3) := by decide +kernel
theorem dX4_beginExpression_122 : decode cX4_beginExpression 122 = .ok (.goto 39, 3) := by decide +kernel
theorem dX4_beginExpression_125 : decode cX4_beginExpression 125 = .ok (.aload_n 0, 1) := by decide +kernel
theorem dX4_beginExpression_126 : decode cX4_beginExpression 126 = .ok (.getfield 46, 3) := by decide +kernel
theorem dX4_beginExpression_129 : decode cX4_beginExpression 129 = .ok (.aload_n 0, 1) := by decide +kernel
theorem dX4_beginExpression_130 : decode cX4_beginExpression 130 = .ok (.getfield 61, 3) := by decide +kernel
theorem dX4_beginExpression_133 : decode cX4_beginExpression 133 = .ok (.aload_n 0, 1) := by decide +kernel
theorem dX4_beginExpression_134 : decode cX4_beginExpression 134 = .ok (.getfield 64, 3) := by decide +kernel
theorem dX4_beginExpression_137 : decode cX4_beginExpression 137 = .ok (.iconst 0, 1) := by decide +kernel
theorem dX4_beginExpression_138 : decode cX4_beginExpression 138 = .ok (.iconst 0, 1) := by decide +kernel
theorem dX4_beginExpression_139 : decode cX4_beginExpression 139 = .ok (.invokevirtual 185, 3) := by decide +kernel
theorem dX4_beginExpression_142 : decode cX4_beginExpression 142 = .ok (.aload_n 0, 1) := by decide +kernel
theorem dX4_beginExpression_143 : decode cX4_beginExpression 143 = .ok (.aload_n 0, 1) := by decide +kernel
theorem dX4_beginExpression_144 : decode cX4_beginExpression 144 = .ok (.getfield 53, 3) := by decide +kernel
theorem dX4_beginExpression_147 : decode cX4_beginExpression 147 = .ok (.aload_n 0, 1) := by decide +kernel
theorem dX4_beginExpression_148 : decode cX4_beginExpression 148 = .ok (.getfield 61, 3) := by decide +kernel
theorem dX4_beginExpression_151 : decode cX4_beginExpression 151 = .ok (.invokevirtual 189, 3) := by decide +kernel
theorem dX4_beginExpression_154 : decode cX4_beginExpression 154 = .ok (.aload_n 0, 1) := by decide +kernel
theorem dX4_beginExpression_155 : decode cX4_beginExpression 155 = .ok (.getfield 64, 3) := by decide +kernel
theorem dX4_beginExpression_158 : decode cX4_beginExpression 158 = .ok (.invokevirtual 123, 3) := by decide +kernel
theorem dX4_beginExpression_161 : decode cX4_beginExpression 161 = .ok (.return_, 1) := by decide +kernel
theorem dX4_useValue_0 : decode cX4_useValue 0 = .ok (.aload_n 0, 1) := by decide +kernel
theorem dX4_useValue_1 : decode cX4_useValue 1 = .ok (.getfield 46, 3) := by decide +kernel
theorem dX4_useValue_4 : decode cX4_useValue 4 = .ok (.invokevirtual 192, 3) := by decide +kernel
theorem dX4_useValue_7 : decode cX4_useValue 7 = .ok (.ifCond .eq 9, 3) := by decide +kernel
theorem dX4_useValue_10 : decode cX4_useValue 10 = .ok (.aload_n 0, 1) := by decide +kernel
theorem dX4_useValue_11 : decode cX4_useValue 11 = .ok (.iconst 3, 1) := by decide +kernel
theorem dX4_useValue_12 : decode cX4_useValue 12 = .ok (.putfield 57, 3) := by decide +kernel
theorem dX4_useValue_15 : decode cX4_useValue 15 = .ok (.return_, 1) := by decide +kernel
theorem dX4_useValue_16 : decode cX4_useValue 16 = .ok (.aload_n 0, 1) := by decide +kernel
theorem dX4_useValue_17 : decode cX4_useValue 17 = .ok (.getfield 46, 3) := by decide +kernel
theorem dX4_useValue_20 : decode cX4_useValue 20 = .ok (.invokevirtual 196, 3) := by decide +kernel
theorem dX4_useValue_23 : decode cX4_useValue 23 = .ok (.aload_n 0, 1) := by decide +kernel
theorem dX4_useValue_24 : decode cX4_useValue 24 = .ok (.getfield 46, 3) := by decide +kernel
theorem dX4_useValue_27 : decode cX4_useValue 27 = .ok (.invokevirtual 199, 3) := by decide +kernel
theorem dX4_useValue_30 : decode cX4_useValue 30 = .ok (.istore_n 1, 1) := by decide +kernel
theorem dX4_useValue_31 : decode cX4_useValue 31 = .ok (.aload_n 0, 1) := by decide +kernel
theorem dX4_useValue_32 : decode cX4_useValue 32 = .ok (.getfield 46, 3) := by decide +kernel
theorem dX4_useValue_35 : decode cX4_useValue 35 = .ok (.invokevirtual 202, 3) := by decide +kernel
theorem dX4_useValue_38 : decode cX4_useValue 38 = .ok (.istore_n 2, 1) := by decide +kernel
theorem dX4_useValue_39 : decode cX4_useValue 39 = .ok (.aload_n 0, 1) := by decide +kernel
theorem dX4_useValue_40 : decode cX4_useValue 40 = .ok (.getfield 53, 3) := by decide +kernel
theorem dX4_useValue_43 : decode cX4_useValue 43 = .ok (.iload_n 1, 1) := by decide +kernel
theorem dX4_useValue_44 : decode cX4_useValue 44 = .ok (.invokevirtual 163, 3) := by decide +kernel
theorem dX4_useValue_47 : decode cX4_useValue 47 = .ok (.istore_n 3, 1) := by decide +kernel
theorem dX4_useValue_48 : decode cX4_useValue 48 = .ok (.iload_n 3, 1) := by decide +kernel
theorem dX4_useValue_49 : decode cX4_useValue 49 = .ok (.lookupswitch 287 #[(42, 131), (43, 131), (44, 186), (45, 131), (63, 177), (64, 141), (66, 131), (67, 131), (76, 202), (80, 231), (81, 251), (83, 215), (88, 280), (112, 271), (113, 271)], 131) := by decide +kernel
theorem dX4_useValue_180 : decode cX4_useValue 180 = .ok (.aload_n 0, 1) := by decide +kernel
theorem dX4_useValue_181 : decode cX4_useValue 181 = .ok (.iload_n 1, 1) := by decide +kernel
theorem dX4_useValue_182 : decode cX4_useValue 182 = .ok (.iload_n 2, 1) := by decide +kernel
theorem dX4_useValue_183 : decode cX4_useValue 183 = .ok (.iload_n 3, 1) := by decide +kernel
theorem dX4_useValue_184 : decode cX4_useValue 184 = .ok (.invokevirtual 204, 3) := by decide +kernel
theorem dX4_useValue_187 : decode cX4_useValue 187 = .ok (.goto 149, 3) := by decide +kernel
theorem dX4_useValue_190 : decode cX4_useValue 190 = .ok (.aload_n 0, 1) := by decide +kernel
theorem dX4_useValue_191 : decode cX4_useValue 191 = .ok (.getfield 46, 3) := by decide +kernel
theorem dX4_useValue_194 : decode cX4_useValue 194 = .ok (.invokevirtual 208, 3) := by decide +kernel
theorem dX4_useValue_197 : decode cX4_useValue 197 = .ok (.iconst 1, 1) := by decide +kernel
theorem dX4_useValue_198 : decode cX4_useValue 198 = .ok (.if_icmp .ne 19, 3) := by decide +kernel
theorem dX4_useValue_201 : decode cX4_useValue 201 = .ok (.aload_n 0, 1) := by decide +kernel
theorem dX4_useValue_202 : decode cX4_useValue 202 = .ok (.iload_n 1, 1) := by decide +kernel
theorem dX4_useValue_203 : decode cX4_useValue 203 = .ok (.iload_n 2, 1) := by decide +kernel
theorem dX4_useValue_204 : decode cX4_useValue 204 = .ok (.aload_n 0, 1) := by decide +kernel
theorem dX4_useValue_205 : decode cX4_useValue 205 = .ok (.getfield 46, 3) := by decide +kernel
theorem dX4_useValue_208 : decode cX4_useValue 208 = .ok (.invokevirtual 211, 3) := by decide +kernel
theorem dX4_useValue_211 : decode cX4_useValue 211 = .ok (.invokevirtual 214, 3) := by decide +kernel
theorem dX4_useValue_214 : decode cX4_useValue 214 = .ok (.goto 122, 3) := by decide +kernel
theorem dX4_useValue_217 : decode cX4_useValue 217 = .ok (.aload_n 0, 1) := by decide +kernel
theorem dX4_useValue_218 : decode cX4_useValue 218 = .ok (.iload_n 1, 1) := by decide +kernel
theorem dX4_useValue_219 : decode cX4_useValue 219 = .ok (.iload_n 2, 1) := by decide +kernel
theorem dX4_useValue_220 : decode cX4_useValue 220 = .ok (.invokevirtual 217, 3) := by decide +kernel
theorem dX4_useValue_223 : decode cX4_useValue 223 = .ok (.goto 113, 3) := by decide +kernel
theorem dX4_useValue_226 : decode cX4_useValue 226 = .ok (.aload_n 0, 1) := by decide +kernel
theorem dX4_useValue_227 : decode cX4_useValue 227 = .ok (.iload_n 1, 1) := by decide +kernel
theorem dX4_useValue_228 : decode cX4_useValue 228 = .ok (.iload_n 2, 1) := by decide +kernel
theorem dX4_useValue_229 : decode cX4_useValue 229 = .ok (.invokevirtual 220, 3) := by decide +kernel
theorem dX4_useValue_232 : decode cX4_useValue 232 = .ok (.goto 104, 3) := by decide +kernel
theorem dX4_useValue_235 : decode cX4_useValue 235 = .ok (.aload_n 0, 1) := by decide +kernel
theorem dX4_useValue_236 : decode cX4_useValue 236 = .ok (.aload_n 0, 1) := by decide +kernel
theorem dX4_useValue_237 : decode cX4_useValue 237 = .ok (.getfield 53, 3) := by decide +kernel
theorem dX4_useValue_240 : decode cX4_useValue 240 = .ok (.iload_n 1, 1) := by decide +kernel
theorem dX4_useValue_241 : decode cX4_useValue 241 = .ok (.invokevirtual 223, 3) := by decide +kernel
theorem dX4_useValue_244 : decode cX4_useValue 244 = .ok (.iload_n 2, 1) := by decide +kernel
theorem dX4_useValue_245 : decode cX4_useValue 245 = .ok (.invokevirtual 123, 3) := by decide +kernel
theorem dX4_useValue_248 : decode cX4_useValue 248 = .ok (.goto 88, 3) := by decide +kernel
theorem dX4_useValue_251 : decode cX4_useValue 251 = .ok (.aload_n 0, 1) := by decide +kernel
theorem dX4_useValue_252 : decode cX4_useValue 252 = .ok (.iload_n 1, 1) := by decide +kernel
theorem dX4_useValue_253 : decode cX4_useValue 253 = .ok (.iload_n 2, 1) := by decide +kernel
theorem dX4_useValue_254 : decode cX4_useValue 254 = .ok (.aload_n 0, 1) := by decide +kernel
theorem dX4_useValue_255 : decode cX4_useValue 255 = .ok (.getfield 67, 3) := by decide +kernel
theorem dX4_useValue_258 : decode cX4_useValue 258 = .ok (.invokevirtual 226, 3) := by decide +kernel
theorem dX4_useValue_261 : decode cX4_useValue 261 = .ok (.goto 75, 3) := by decide +kernel
theorem dX4_useValue_264 : decode cX4_useValue 264 = .ok (.aload_n 0, 1) := by decide +kernel
theorem dX4_useValue_265 : decode cX4_useValue 265 = .ok (.aload_n 0, 1) := by decide +kernel
theorem dX4_useValue_266 : decode cX4_useValue 266 = .ok (.getfield 53, 3) := by decide +kernel
theorem dX4_useValue_269 : decode cX4_useValue 269 = .ok (.iload_n 1, 1) := by decide +kernel
theorem dX4_useValue_270 : decode cX4_useValue 270 = .ok (.invokevirtual 147, 3) := by decide +kernel
theorem dX4_useValue_273 : decode cX4_useValue 273 = .ok (.iload_n 2, 1) := by decide +kernel
theorem dX4_useValue_274 : decode cX4_useValue 274 = .ok (.invokevirtual 229, 3) := by decide +kernel
theorem dX4_useValue_277 : decode cX4_useValue 277 = .ok (.goto 59, 3) := by decide +kernel
theorem dX4_useValue_280 : decode cX4_useValue 280 = .ok (.aload_n 0, 1) := by decide +kernel
theorem dX4_useValue_281 : decode cX4_useValue 281 = .ok (.aload_n 0, 1) := by decide +kernel
theorem dX4_useValue_282 : decode cX4_useValue 282 = .ok (.getfield 39, 3) := by decide +kernel
theorem dX4_useValue_285 : decode cX4_useValue 285 = .ok (.iconst 0, 1) := by decide +kernel
theorem dX4_useValue_286 : decode cX4_useValue 286 = .ok (.aload_n 0, 1) := by decide +kernel
theorem dX4_useValue_287 : decode cX4_useValue 287 = .ok (.getfield 67, 3) := by decide +kernel
theorem dX4_useValue_290 : decode cX4_useValue 290 = .ok (.iconst 0, 1) := by decide +kernel
theorem dX4_useValue_291 : decode cX4_useValue 291 = .ok (.invokevirtual 181, 3) := by decide +kernel
theorem dX4_useValue_294 : decode cX4_useValue 294 = .ok (.invokevirtual 171, 3) := by decide +kernel
theorem dX4_useValue_297 : decode cX4_useValue 297 = .ok (.goto 39, 3) := by decide +kernel
theorem dX4_useValue_300 : decode cX4_useValue 300 = .ok (.aload_n 0, 1) := by decide +kernel
theorem dX4_useValue_301 : decode cX4_useValue 301 = .ok (.aload_n 0, 1) := by decide +kernel
theorem dX4_useValue_302 : decode cX4_useValue 302 = .ok (.getfield 39, 3) := by decide +kernel
theorem dX4_useValue_305 : decode cX4_useValue 305 = .ok (.iconst 1, 1) := by decide +kernel
theorem dX4_useValue_306 : decode cX4_useValue 306 = .ok (.iconst 0, 1) := by decide +kernel
theorem dX4_useValue_307 : decode cX4_useValue 307 = .ok (.aload_n 0, 1) := by decide +kernel
theorem dX4_useValue_308 : decode cX4_useValue 308 = .ok (.getfield 67, 3) := by decide +kernel
theorem dX4_useValue_311 : decode cX4_useValue 311 = .ok (.invokevirtual 181, 3) := by decide +kernel
theorem dX4_useValue_314 : decode cX4_useValue 314 = .ok (.invokevirtual 171, 3) := by decide +kernel
theorem dX4_useValue_317 : decode cX4_useValue 317 = .ok (.goto 19, 3) := by decide +kernel
theorem dX4_useValue_320 : decode cX4_useValue 320 = .ok (.aload_n 0, 1) := by decide +kernel
theorem dX4_useValue_321 : decode cX4_useValue 321 = .ok (.iload_n 1, 1) := by decide +kernel
theorem dX4_useValue_322 : decode cX4_useValue 322 = .ok (.iload_n 3, 1) := by decide +kernel
theorem dX4_useValue_323 : decode cX4_useValue 323 = .ok (.invokevirtual 232, 3) := by decide +kernel
theorem dX4_useValue_326 : decode cX4_useValue 326 = .ok (.goto 10, 3) := by decide +kernel
theorem dX4_useValue_329 : decode cX4_useValue 329 = .ok (.aload_n 0, 1) := by decide +kernel
theorem dX4_useValue_330 : decode cX4_useValue 330 = .ok (.invokevirtual 235, 3) := by decide +kernel
theorem dX4_useValue_333 : decode cX4_useValue 333 = .ok (.goto 3, 3) := by decide +kernel
theorem dX4_useValue_336 : decode cX4_useValue 336 = .ok (.return_, 1) := by decide +kernel
theorem dX4_passFaultOn_0 : decode cX4_passFaultOn 0 = .ok (.aload_n 0, 1) := by decide +kernel
theorem dX4_passFaultOn_1 : decode cX4_passFaultOn 1 = .ok (.getfield 46, 3) := by decide +kernel
theorem dX4_passFaultOn_4 : decode cX4_passFaultOn 4 = .ok (.invokevirtual 192, 3) := by decide +kernel
theorem dX4_passFaultOn_7 : decode cX4_passFaultOn 7 = .ok (.ifCond .eq 9, 3) := by decide +kernel
theorem dX4_passFaultOn_10 : decode cX4_passFaultOn 10 = .ok (.aload_n 0, 1) := by decide +kernel
theorem dX4_passFaultOn_11 : decode cX4_passFaultOn 11 = .ok (.iconst 3, 1) := by decide +kernel
theorem dX4_passFaultOn_12 : decode cX4_passFaultOn 12 = .ok (.putfield 57, 3) := by decide +kernel
theorem dX4_passFaultOn_15 : decode cX4_passFaultOn 15 = .ok (.return_, 1) := by decide +kernel
theorem dX4_passFaultOn_16 : decode cX4_passFaultOn 16 = .ok (.aload_n 0, 1) := by decide +kernel
theorem dX4_passFaultOn_17 : decode cX4_passFaultOn 17 = .ok (.getfield 46, 3) := by decide +kernel
theorem dX4_passFaultOn_20 : decode cX4_passFaultOn 20 = .ok (.invokevirtual 196, 3) := by decide +kernel
theorem dX4_passFaultOn_23 : decode cX4_passFaultOn 23 = .ok (.aload_n 0, 1) := by decide +kernel
theorem dX4_passFaultOn_24 : decode cX4_passFaultOn 24 = .ok (.getfield 46, 3) := by decide +kernel
theorem dX4_passFaultOn_27 : decode cX4_passFaultOn 27 = .ok (.invokevirtual 199, 3) := by decide +kernel
theorem dX4_passFaultOn_30 : decode cX4_passFaultOn 30 = .ok (.istore_n 1, 1) := by decide +kernel
theorem dX4_passFaultOn_31 : decode cX4_passFaultOn 31 = .ok (.aload_n 0, 1) := by decide +kernel
theorem dX4_passFaultOn_32 : decode cX4_passFaultOn 32 = .ok (.getfield 53, 3) := by decide +kernel
theorem dX4_passFaultOn_35 : decode cX4_passFaultOn 35 = .ok (.iload_n 1, 1) := by decide +kernel
theorem dX4_passFaultOn_36 : decode cX4_passFaultOn 36 = .ok (.invokevirtual 163, 3) := by decide +kernel
theorem dX4_passFaultOn_39 : decode cX4_passFaultOn 39 = .ok (.istore_n 2, 1) := by decide +kernel
theorem dX4_passFaultOn_40 : decode cX4_passFaultOn 40 = .ok (.iload_n 2, 1) := by decide +kernel
theorem dX4_passFaultOn_41 : decode cX4_passFaultOn 41 = .ok (.bipush 64, 2) := by decide +kernel
theorem dX4_passFaultOn_43 : decode cX4_passFaultOn 43 = .ok (.if_icmp .ne 27, 3) := by decide +kernel
theorem dX4_passFaultOn_46 : decode cX4_passFaultOn 46 = .ok (.aload_n 0, 1) := by decide +kernel
theorem dX4_passFaultOn_47 : decode cX4_passFaultOn 47 = .ok (.getfield 46, 3) := by decide +kernel
theorem dX4_passFaultOn_50 : decode cX4_passFaultOn 50 = .ok (.invokevirtual 208, 3) := by decide +kernel
theorem dX4_passFaultOn_53 : decode cX4_passFaultOn 53 = .ok (.iconst 2, 1) := by decide +kernel
theorem dX4_passFaultOn_54 : decode cX4_passFaultOn 54 = .ok (.if_icmp .ne 16, 3) := by decide +kernel
theorem dX4_passFaultOn_57 : decode cX4_passFaultOn 57 = .ok (.aload_n 0, 1) := by decide +kernel
theorem dX4_passFaultOn_58 : decode cX4_passFaultOn 58 = .ok (.dup, 1) := by decide +kernel
theorem dX4_passFaultOn_59 : decode cX4_passFaultOn 59 = .ok (.getfield 70, 3) := by decide +kernel
theorem dX4_passFaultOn_62 : decode cX4_passFaultOn 62 = .ok (.iconst 1, 1) := by decide +kernel
theorem dX4_passFaultOn_63 : decode cX4_passFaultOn 63 = .ok (.isub, 1) := by decide +kernel
theorem dX4_passFaultOn_64 : decode cX4_passFaultOn 64 = .ok (.putfield 70, 3) := by decide +kernel
theorem dX4_passFaultOn_67 : decode cX4_passFaultOn 67 = .ok (.goto 71, 3) := by decide +kernel
theorem dX4_passFaultOn_70 : decode cX4_passFaultOn 70 = .ok (.iload_n 2, 1) := by decide +kernel
theorem dX4_passFaultOn_71 : decode cX4_passFaultOn 71 = .ok (.bipush 87, 2) := by decide +kernel
theorem dX4_passFaultOn_73 : decode cX4_passFaultOn 73 = .ok (.if_icmp .ne 19, 3) := by decide +kernel
theorem dX4_passFaultOn_76 : decode cX4_passFaultOn 76 = .ok (.aload_n 0, 1) := by decide +kernel
theorem dX4_passFaultOn_77 : decode cX4_passFaultOn 77 = .ok (.getfield 25, 3) := by decide +kernel
theorem dX4_passFaultOn_80 : decode cX4_passFaultOn 80 = .ok (.dup, 1) := by decide +kernel
theorem dX4_passFaultOn_81 : decode cX4_passFaultOn 81 = .ok (.getfield 153, 3) := by decide +kernel
theorem dX4_passFaultOn_84 : decode cX4_passFaultOn 84 = .ok (.iconst 1, 1) := by decide +kernel
theorem dX4_passFaultOn_85 : decode cX4_passFaultOn 85 = .ok (.iadd, 1) := by decide +kernel
theorem dX4_passFaultOn_86 : decode cX4_passFaultOn 86 = .ok (.putfield 153, 3) := by decide +kernel
theorem dX4_passFaultOn_89 : decode cX4_passFaultOn 89 = .ok (.goto 49, 3) := by decide +kernel
theorem dX4_passFaultOn_92 : decode cX4_passFaultOn 92 = .ok (.iload_n 2, 1) := by decide +kernel
theorem dX4_passFaultOn_93 : decode cX4_passFaultOn 93 = .ok (.bipush 89, 2) := by decide +kernel
theorem dX4_passFaultOn_95 : decode cX4_passFaultOn 95 = .ok (.if_icmp .ne 43, 3) := by decide +kernel
theorem dX4_passFaultOn_98 : decode cX4_passFaultOn 98 = .ok (.aload_n 0, 1) := by decide +kernel
theorem dX4_passFaultOn_99 : decode cX4_passFaultOn 99 = .ok (.getfield 25, 3) := by decide +kernel
theorem dX4_passFaultOn_102 : decode cX4_passFaultOn 102 = .ok (.iconst 0, 1) := by decide +kernel
theorem dX4_passFaultOn_103 : decode cX4_passFaultOn 103 = .ok (.invokevirtual 130, 3) := by decide +kernel
theorem dX4_passFaultOn_106 : decode cX4_passFaultOn 106 = .ok (.invokestatic 238, 3) := by decide +kernel
theorem dX4_passFaultOn_109 : decode cX4_passFaultOn 109 = .ok (.ifCond .eq 29, 3) := by decide +kernel
theorem dX4_passFaultOn_112 : decode cX4_passFaultOn 112 = .ok (.aload_n 0, 1) := by decide +kernel
theorem dX4_passFaultOn_113 : decode cX4_passFaultOn 113 = .ok (.getfield 25, 3) := by decide +kernel
theorem dX4_passFaultOn_116 : decode cX4_passFaultOn 116 = .ok (.iconst 0, 1) := by decide +kernel
theorem dX4_passFaultOn_117 : decode cX4_passFaultOn 117 = .ok (.invokevirtual 130, 3) := by decide +kernel
theorem dX4_passFaultOn_120 : decode cX4_passFaultOn 120 = .ok (.istore_n 3, 1) := by decide +kernel
theorem dX4_passFaultOn_121 : decode cX4_passFaultOn 121 = .ok (.aload_n 0, 1) := by decide +kernel
theorem dX4_passFaultOn_122 : decode cX4_passFaultOn 122 = .ok (.invokevirtual 111, 3) := by decide +kernel
theorem dX4_passFaultOn_125 : decode cX4_passFaultOn 125 = .ok (.aload_n 0, 1) := by decide +kernel
theorem dX4_passFaultOn_126 : decode cX4_passFaultOn 126 = .ok (.iload_n 1, 1) := by decide +kernel
theorem dX4_passFaultOn_127 : decode cX4_passFaultOn 127 = .ok (.aload_n 0, 1) := by decide +kernel
theorem dX4_passFaultOn_128 : decode cX4_passFaultOn 128 = .ok (.getfield 46, 3) := by decide +kernel
theorem dX4_passFaultOn_131 : decode cX4_passFaultOn 131 = .ok (.invokevirtual 202, 3) := by decide +kernel
theorem dX4_passFaultOn_134 : decode cX4_passFaultOn 134 = .ok (.iload_n 3, 1) := by decide +kernel
theorem dX4_passFaultOn_135 : decode cX4_passFaultOn 135 = .ok (.invokevirtual 226, 3) := by decide +kernel
theorem dX4_passFaultOn_138 : decode cX4_passFaultOn 138 = .ok (.return_, 1) := by decide +kernel
theorem dX4_isCaught_0 : decode cX4_isCaught 0 = .ok (.iload_n 0, 1) := by decide +kernel
theorem dX4_isCaught_1 : decode cX4_isCaught 1 = .ok (.iconst 5, 1) := by decide +kernel
theorem dX4_isCaught_2 : decode cX4_isCaught 2 = .ok (.if_icmp .eq 13, 3) := by decide +kernel
theorem dX4_isCaught_5 : decode cX4_isCaught 5 = .ok (.iload_n 0, 1) := by decide +kernel
theorem dX4_isCaught_6 : decode cX4_isCaught 6 = .ok (.bipush 6, 2) := by decide +kernel
theorem dX4_isCaught_8 : decode cX4_isCaught 8 = .ok (.if_icmp .eq 7, 3) := by decide +kernel
theorem dX4_isCaught_11 : decode cX4_isCaught 11 = .ok (.iconst 1, 1) := by decide +kernel
theorem dX4_isCaught_12 : decode cX4_isCaught 12 = .ok (.goto 4, 3) := by decide +kernel
theorem dX4_isCaught_15 : decode cX4_isCaught 15 = .ok (.iconst 0, 1) := by decide +kernel
theorem dX4_isCaught_16 : decode cX4_isCaught 16 = .ok (.ireturn, 1) := by decide +kernel
theorem dX4_forgetFault_0 : decode cX4_forgetFault 0 = .ok (.aload_n 0, 1) := by decide +kernel
theorem dX4_forgetFault_1 : decode cX4_forgetFault 1 = .ok (.iconst 0, 1) := by decide +kernel
theorem dX4_forgetFault_2 : decode cX4_forgetFault 2 = .ok (.putfield 73, 3) := by decide +kernel
theorem dX4_forgetFault_5 : decode cX4_forgetFault 5 = .ok (.aload_n 0, 1) := by decide +kernel
theorem dX4_forgetFault_6 : decode cX4_forgetFault 6 = .ok (.getfield 25, 3) := by decide +kernel
theorem dX4_forgetFault_9 : decode cX4_forgetFault 9 = .ok (.iconst 0, 1) := by decide +kernel
theorem dX4_forgetFault_10 : decode cX4_forgetFault 10 = .ok (.putfield 153, 3) := by decide +kernel
theorem dX4_forgetFault_13 : decode cX4_forgetFault 13 = .ok (.aload_n 0, 1) := by decide +kernel
theorem dX4_forgetFault_14 : decode cX4_forgetFault 14 = .ok (.getfield 25, 3) := by decide +kernel
theorem dX4_forgetFault_17 : decode cX4_forgetFault 17 = .ok (.iconst 0, 1) := by decide +kernel
theorem dX4_forgetFault_18 : decode cX4_forgetFault 18 = .ok (.putfield 156, 3) := by decide +kernel
theorem dX4_forgetFault_21 : decode cX4_forgetFault 21 = .ok (.return_, 1) := by decide +kernel
theorem dX4_beginSecondWithCell_0 : decode cX4_beginSecondWithCell 0 = .ok (.aload_n 0, 1) := by decide +kernel
theorem dX4_beginSecondWithCell_1 : decode cX4_beginSecondWithCell 1 = .ok (.aload_n 0, 1) := by decide +kernel
theorem dX4_beginSecondWithCell_2 : decode cX4_beginSecondWithCell 2 = .ok (.getfield 53, 3) := by decide +kernel
theorem dX4_beginSecondWithCell_5 : decode cX4_beginSecondWithCell 5 = .ok (.iload_n 1, 1) := by decide +kernel
theorem dX4_beginSecondWithCell_6 : decode cX4_beginSecondWithCell 6 = .ok (.invokevirtual 223, 3) := by decide +kernel
theorem dX4_beginSecondWithCell_9 : decode cX4_beginSecondWithCell 9 = .ok (.aload_n 0, 1) := by decide +kernel
theorem dX4_beginSecondWithCell_10 : decode cX4_beginSecondWithCell 10 = .ok (.getfield 32, 3) := by decide +kernel
theorem dX4_beginSecondWithCell_13 : decode cX4_beginSecondWithCell 13 = .ok (.aload_n 0, 1) := by decide +kernel
theorem dX4_beginSecondWithCell_14 : decode cX4_beginSecondWithCell 14 = .ok (.getfield 53, 3) := by decide +kernel
theorem dX4_beginSecondWithCell_17 : decode cX4_beginSecondWithCell 17 = .ok (.iload_n 1, 1) := by decide +kernel
theorem dX4_beginSecondWithCell_18 : decode cX4_beginSecondWithCell 18 = .ok (.invokevirtual 147, 3) := by decide +kernel
theorem dX4_beginSecondWithCell_21 : decode cX4_beginSecondWithCell 21 = .ok (.iload_n 3, 1) := by decide +kernel
theorem dX4_beginSecondWithCell_22 : decode cX4_beginSecondWithCell 22 = .ok (.iload_n 2, 1) := by decide +kernel
theorem dX4_beginSecondWithCell_23 : decode cX4_beginSecondWithCell 23 = .ok (.invokevirtual 241, 3) := by decide +kernel
theorem dX4_beginSecondWithCell_26 : decode cX4_beginSecondWithCell 26 = .ok (.invokevirtual 123, 3) := by decide +kernel
theorem dX4_beginSecondWithCell_29 : decode cX4_beginSecondWithCell 29 = .ok (.return_, 1) := by decide +kernel
theorem dX4_useOneOfTwo_0 : decode cX4_useOneOfTwo 0 = .ok (.aload_n 0, 1) := by decide +kernel
theorem dX4_useOneOfTwo_1 : decode cX4_useOneOfTwo 1 = .ok (.getfield 46, 3) := by decide +kernel
theorem dX4_useOneOfTwo_4 : decode cX4_useOneOfTwo 4 = .ok (.invokevirtual 208, 3) := by decide +kernel
theorem dX4_useOneOfTwo_7 : decode cX4_useOneOfTwo 7 = .ok (.ifCond .ne 31, 3) := by decide +kernel
theorem dX4_useOneOfTwo_10 : decode cX4_useOneOfTwo 10 = .ok (.aload_n 0, 1) := by decide +kernel
theorem dX4_useOneOfTwo_11 : decode cX4_useOneOfTwo 11 = .ok (.getfield 46, 3) := by decide +kernel
theorem dX4_useOneOfTwo_14 : decode cX4_useOneOfTwo 14 = .ok (.iload_n 1, 1) := by decide +kernel
theorem dX4_useOneOfTwo_15 : decode cX4_useOneOfTwo 15 = .ok (.iload_n 2, 1) := by decide +kernel
theorem dX4_useOneOfTwo_16 : decode cX4_useOneOfTwo 16 = .ok (.iconst 1, 1) := by decide +kernel
theorem dX4_useOneOfTwo_17 : decode cX4_useOneOfTwo 17 = .ok (.aload_n 0, 1) := by decide +kernel
theorem dX4_useOneOfTwo_18 : decode cX4_useOneOfTwo 18 = .ok (.getfield 67, 3) := by decide +kernel
theorem dX4_useOneOfTwo_21 : decode cX4_useOneOfTwo 21 = .ok (.invokevirtual 185, 3) := by decide +kernel
theorem dX4_useOneOfTwo_24 : decode cX4_useOneOfTwo 24 = .ok (.aload_n 0, 1) := by decide +kernel
theorem dX4_useOneOfTwo_25 : decode cX4_useOneOfTwo 25 = .ok (.aload_n 0, 1) := by decide +kernel
theorem dX4_useOneOfTwo_26 : decode cX4_useOneOfTwo 26 = .ok (.getfield 53, 3) := by decide +kernel
theorem dX4_useOneOfTwo_29 : decode cX4_useOneOfTwo 29 = .ok (.iload_n 1, 1) := by decide +kernel
theorem dX4_useOneOfTwo_30 : decode cX4_useOneOfTwo 30 = .ok (.invokevirtual 223, 3) := by decide +kernel
theorem dX4_useOneOfTwo_33 : decode cX4_useOneOfTwo 33 = .ok (.iload_n 2, 1) := by decide +kernel
theorem dX4_useOneOfTwo_34 : decode cX4_useOneOfTwo 34 = .ok (.invokevirtual 123, 3) := by decide +kernel
theorem dX4_useOneOfTwo_37 : decode cX4_useOneOfTwo 37 = .ok (.return_, 1) := by decide +kernel
theorem dX4_useOneOfTwo_38 : decode cX4_useOneOfTwo 38 = .ok (.aload_n 0, 1) := by decide +kernel
theorem dX4_useOneOfTwo_39 : decode cX4_useOneOfTwo 39 = .ok (.getfield 46, 3) := by decide +kernel
theorem dX4_useOneOfTwo_42 : decode cX4_useOneOfTwo 42 = .ok (.invokevirtual 211, 3) := by decide +kernel
theorem dX4_useOneOfTwo_45 : decode cX4_useOneOfTwo 45 = .ok (.istore 4, 2) := by decide +kernel
theorem dX4_useOneOfTwo_47 : decode cX4_useOneOfTwo 47 = .ok (.iload_n 3, 1) := by decide +kernel
theorem dX4_useOneOfTwo_48 : decode cX4_useOneOfTwo 48 = .ok (.bipush 66, 2) := by decide +kernel
theorem dX4_useOneOfTwo_50 : decode cX4_useOneOfTwo 50 = .ok (.if_icmp .ne 24, 3) := by decide +kernel
theorem dX4_useOneOfTwo_53 : decode cX4_useOneOfTwo 53 = .ok (.aload_n 0, 1) := by decide +kernel
theorem dX4_useOneOfTwo_54 : decode cX4_useOneOfTwo 54 = .ok (.aload_n 0, 1) := by decide +kernel
theorem dX4_useOneOfTwo_55 : decode cX4_useOneOfTwo 55 = .ok (.getfield 39, 3) := by decide +kernel
theorem dX4_useOneOfTwo_58 : decode cX4_useOneOfTwo 58 = .ok (.iconst 2, 1) := by decide +kernel
theorem dX4_useOneOfTwo_59 : decode cX4_useOneOfTwo 59 = .ok (.iload 4, 2) := by decide +kernel
theorem dX4_useOneOfTwo_61 : decode cX4_useOneOfTwo 61 = .ok (.aload_n 0, 1) := by decide +kernel
theorem dX4_useOneOfTwo_62 : decode cX4_useOneOfTwo 62 = .ok (.getfield 67, 3) := by decide +kernel
theorem dX4_useOneOfTwo_65 : decode cX4_useOneOfTwo 65 = .ok (.invokevirtual 181, 3) := by decide +kernel
theorem dX4_useOneOfTwo_68 : decode cX4_useOneOfTwo 68 = .ok (.invokevirtual 171, 3) := by decide +kernel
theorem dX4_useOneOfTwo_71 : decode cX4_useOneOfTwo 71 = .ok (.goto 41, 3) := by decide +kernel
theorem dX4_useOneOfTwo_74 : decode cX4_useOneOfTwo 74 = .ok (.iload_n 3, 1) := by decide +kernel
theorem dX4_useOneOfTwo_75 : decode cX4_useOneOfTwo 75 = .ok (.bipush 67, 2) := by decide +kernel
theorem dX4_useOneOfTwo_77 : decode cX4_useOneOfTwo 77 = .ok (.if_icmp .ne 24, 3) := by decide +kernel
theorem dX4_useOneOfTwo_80 : decode cX4_useOneOfTwo 80 = .ok (.aload_n 0, 1) := by decide +kernel
theorem dX4_useOneOfTwo_81 : decode cX4_useOneOfTwo 81 = .ok (.aload_n 0, 1) := by decide +kernel
theorem dX4_useOneOfTwo_82 : decode cX4_useOneOfTwo 82 = .ok (.getfield 39, 3) := by decide +kernel
theorem dX4_useOneOfTwo_85 : decode cX4_useOneOfTwo 85 = .ok (.iconst 3, 1) := by decide +kernel
theorem dX4_useOneOfTwo_86 : decode cX4_useOneOfTwo 86 = .ok (.aload_n 0, 1) := by decide +kernel
theorem dX4_useOneOfTwo_87 : decode cX4_useOneOfTwo 87 = .ok (.getfield 67, 3) := by decide +kernel
theorem dX4_useOneOfTwo_90 : decode cX4_useOneOfTwo 90 = .ok (.iload 4, 2) := by decide +kernel
theorem dX4_useOneOfTwo_92 : decode cX4_useOneOfTwo 92 = .ok (.invokevirtual 181, 3) := by decide +kernel
theorem dX4_useOneOfTwo_95 : decode cX4_useOneOfTwo 95 = .ok (.invokevirtual 171, 3) := by decide +kernel
theorem dX4_useOneOfTwo_98 : decode cX4_useOneOfTwo 98 = .ok (.goto 14, 3) := by decide +kernel
theorem dX4_useOneOfTwo_101 : decode cX4_useOneOfTwo 101 = .ok (.aload_n 0, 1) := by decide +kernel
theorem dX4_useOneOfTwo_102 : decode cX4_useOneOfTwo 102 = .ok (.iload_n 3, 1) := by decide +kernel
theorem dX4_useOneOfTwo_103 : decode cX4_useOneOfTwo 103 = .ok (.iload 4, 2) := by decide +kernel
theorem dX4_useOneOfTwo_105 : decode cX4_useOneOfTwo 105 = .ok (.aload_n 0, 1) := by decide +kernel
theorem dX4_useOneOfTwo_106 : decode cX4_useOneOfTwo 106 = .ok (.getfield 67, 3) := by decide +kernel
theorem dX4_useOneOfTwo_109 : decode cX4_useOneOfTwo 109 = .ok (.invokevirtual 242, 3) := by decide +kernel
theorem dX4_useOneOfTwo_112 : decode cX4_useOneOfTwo 112 = .ok (.return_, 1) := by decide +kernel
theorem dX4_reckon_0 : decode cX4_reckon 0 = .ok (.iload_n 2, 1) := by decide +kernel
theorem dX4_reckon_1 : decode cX4_reckon 1 = .ok (.invokestatic 137, 3) := by decide +kernel
theorem dX4_reckon_4 : decode cX4_reckon 4 = .ok (.ifCond .eq 10, 3) := by decide +kernel
theorem dX4_reckon_7 : decode cX4_reckon 7 = .ok (.iload_n 3, 1) := by decide +kernel
theorem dX4_reckon_8 : decode cX4_reckon 8 = .ok (.invokestatic 137, 3) := by decide +kernel
theorem dX4_reckon_11 : decode cX4_reckon 11 = .ok (.ifCond .ne 9, 3) := by decide +kernel
theorem dX4_reckon_14 : decode cX4_reckon 14 = .ok (.aload_n 0, 1) := by decide +kernel
theorem dX4_reckon_15 : decode cX4_reckon 15 = .ok (.iconst 1, 1) := by decide +kernel
theorem dX4_reckon_16 : decode cX4_reckon 16 = .ok (.invokevirtual 159, 3) := by decide +kernel
theorem dX4_reckon_19 : decode cX4_reckon 19 = .ok (.return_, 1) := by decide +kernel
theorem dX4_reckon_20 : decode cX4_reckon 20 = .ok (.iload_n 1, 1) := by decide +kernel
theorem dX4_reckon_21 : decode cX4_reckon 21 = .ok (.bipush 43, 2) := by decide +kernel
theorem dX4_reckon_23 : decode cX4_reckon 23 = .ok (.if_icmp .ne 9, 3) := by decide +kernel
theorem dX4_reckon_26 : decode cX4_reckon 26 = .ok (.iload_n 2, 1) := by decide +kernel
theorem dX4_reckon_27 : decode cX4_reckon 27 = .ok (.iload_n 3, 1) := by decide +kernel
theorem dX4_reckon_28 : decode cX4_reckon 28 = .ok (.iadd, 1) := by decide +kernel
theorem dX4_reckon_29 : decode cX4_reckon 29 = .ok (.goto 18, 3) := by decide +kernel
theorem dX4_reckon_32 : decode cX4_reckon 32 = .ok (.iload_n 1, 1) := by decide +kernel
theorem dX4_reckon_33 : decode cX4_reckon 33 = .ok (.bipush 45, 2) := by decide +kernel
theorem dX4_reckon_35 : decode cX4_reckon 35 = .ok (.if_icmp .ne 9, 3) := by decide +kernel
theorem dX4_reckon_38 : decode cX4_reckon 38 = .ok (.iload_n 2, 1) := by decide +kernel
theorem dX4_reckon_39 : decode cX4_reckon 39 = .ok (.iload_n 3, 1) := by decide +kernel
theorem dX4_reckon_40 : decode cX4_reckon 40 = .ok (.isub, 1) := by decide +kernel
theorem dX4_reckon_41 : decode cX4_reckon 41 = .ok (.goto 6, 3) := by decide +kernel
theorem dX4_reckon_44 : decode cX4_reckon 44 = .ok (.iload_n 2, 1) := by decide +kernel
theorem dX4_reckon_45 : decode cX4_reckon 45 = .ok (.iload_n 3, 1) := by decide +kernel
theorem dX4_reckon_46 : decode cX4_reckon 46 = .ok (.imul, 1) := by decide +kernel
theorem dX4_reckon_47 : decode cX4_reckon 47 = .ok (.istore 4, 2) := by decide +kernel
theorem dX4_reckon_49 : decode cX4_reckon 49 = .ok (.iload 4, 2) := by decide +kernel
theorem dX4_reckon_51 : decode cX4_reckon 51 = .ok (.sipush (-9999), 3) := by decide +kernel
theorem dX4_reckon_54 : decode cX4_reckon 54 = .ok (.if_icmp .lt 11, 3) := by decide +kernel
theorem dX4_reckon_57 : decode cX4_reckon 57 = .ok (.iload 4, 2) := by decide +kernel
theorem dX4_reckon_59 : decode cX4_reckon 59 = .ok (.sipush 9999, 3) := by decide +kernel
theorem dX4_reckon_62 : decode cX4_reckon 62 = .ok (.if_icmp .le 11, 3) := by decide +kernel
theorem dX4_reckon_65 : decode cX4_reckon 65 = .ok (.aload_n 0, 1) := by decide +kernel
theorem dX4_reckon_66 : decode cX4_reckon 66 = .ok (.iconst 4, 1) := by decide +kernel
theorem dX4_reckon_67 : decode cX4_reckon 67 = .ok (.invokevirtual 159, 3) := by decide +kernel
theorem dX4_reckon_70 : decode cX4_reckon 70 = .ok (.goto 9, 3) := by decide +kernel
theorem dX4_reckon_73 : decode cX4_reckon 73 = .ok (.aload_n 0, 1) := by decide +kernel
theorem dX4_reckon_74 : decode cX4_reckon 74 = .ok (.iload 4, 2) := by decide +kernel
theorem dX4_reckon_76 : decode cX4_reckon 76 = .ok (.invokevirtual 171, 3) := by decide +kernel
theorem dX4_reckon_79 : decode cX4_reckon 79 = .ok (.return_, 1) := by decide +kernel
theorem dX4_choose_0 : decode cX4_choose 0 = .ok (.aload_n 0, 1) := by decide +kernel
theorem dX4_choose_1 : decode cX4_choose 1 = .ok (.getfield 67, 3) := by decide +kernel
theorem dX4_choose_4 : decode cX4_choose 4 = .ok (.invokestatic 137, 3) := by decide +kernel
theorem dX4_choose_7 : decode cX4_choose 7 = .ok (.ifCond .ne 11, 3) := by decide +kernel
theorem dX4_choose_10 : decode cX4_choose 10 = .ok (.aload_n 0, 1) := by decide +kernel
theorem dX4_choose_11 : decode cX4_choose 11 = .ok (.iconst 1, 1) := by decide +kernel
theorem dX4_choose_12 : decode cX4_choose 12 = .ok (.invokevirtual 159, 3) := by decide +kernel
theorem dX4_choose_15 : decode cX4_choose 15 = .ok (.goto 34, 3) := by decide +kernel
theorem dX4_choose_18 : decode cX4_choose 18 = .ok (.aload_n 0, 1) := by decide +kernel
theorem dX4_choose_19 : decode cX4_choose 19 = .ok (.aload_n 0, 1) := by decide +kernel
theorem dX4_choose_20 : decode cX4_choose 20 = .ok (.getfield 67, 3) := by decide +kernel
theorem dX4_choose_23 : decode cX4_choose 23 = .ok (.ifCond .eq 14, 3) := by decide +kernel
theorem dX4_choose_26 : decode cX4_choose 26 = .ok (.aload_n 0, 1) := by decide +kernel
theorem dX4_choose_27 : decode cX4_choose 27 = .ok (.getfield 53, 3) := by decide +kernel
theorem dX4_choose_30 : decode cX4_choose 30 = .ok (.iload_n 1, 1) := by decide +kernel
theorem dX4_choose_31 : decode cX4_choose 31 = .ok (.invokevirtual 223, 3) := by decide +kernel
theorem dX4_choose_34 : decode cX4_choose 34 = .ok (.goto 11, 3) := by decide +kernel
theorem dX4_choose_37 : decode cX4_choose 37 = .ok (.aload_n 0, 1) := by decide +kernel
theorem dX4_choose_38 : decode cX4_choose 38 = .ok (.getfield 53, 3) := by decide +kernel
theorem dX4_choose_41 : decode cX4_choose 41 = .ok (.iload_n 1, 1) := by decide +kernel
theorem dX4_choose_42 : decode cX4_choose 42 = .ok (.invokevirtual 245, 3) := by decide +kernel
theorem dX4_choose_45 : decode cX4_choose 45 = .ok (.iload_n 2, 1) := by decide +kernel
theorem dX4_choose_46 : decode cX4_choose 46 = .ok (.invokevirtual 123, 3) := by decide +kernel
theorem dX4_choose_49 : decode cX4_choose 49 = .ok (.return_, 1) := by decide +kernel
theorem dX4_useForCall_0 : decode cX4_useForCall 0 = .ok (.aload_n 0, 1) := by decide +kernel
theorem dX4_useForCall_1 : decode cX4_useForCall 1 = .ok (.getfield 46, 3) := by decide +kernel
theorem dX4_useForCall_4 : decode cX4_useForCall 4 = .ok (.invokevirtual 208, 3) := by decide +kernel
theorem dX4_useForCall_7 : decode cX4_useForCall 7 = .ok (.iconst 2, 1) := by decide +kernel
theorem dX4_useForCall_8 : decode cX4_useForCall 8 = .ok (.if_icmp .ne 16, 3) := by decide +kernel
theorem dX4_useForCall_11 : decode cX4_useForCall 11 = .ok (.aload_n 0, 1) := by decide +kernel
theorem dX4_useForCall_12 : decode cX4_useForCall 12 = .ok (.dup, 1) := by decide +kernel
theorem dX4_useForCall_13 : decode cX4_useForCall 13 = .ok (.getfield 70, 3) := by decide +kernel
theorem dX4_useForCall_16 : decode cX4_useForCall 16 = .ok (.iconst 1, 1) := by decide +kernel
theorem dX4_useForCall_17 : decode cX4_useForCall 17 = .ok (.isub, 1) := by decide +kernel
theorem dX4_useForCall_18 : decode cX4_useForCall 18 = .ok (.putfield 70, 3) := by decide +kernel
theorem dX4_useForCall_21 : decode cX4_useForCall 21 = .ok (.goto 52, 3) := by decide +kernel
theorem dX4_useForCall_24 : decode cX4_useForCall 24 = .ok (.aload_n 0, 1) := by decide +kernel
theorem dX4_useForCall_25 : decode cX4_useForCall 25 = .ok (.getfield 39, 3) := by decide +kernel
theorem dX4_useForCall_28 : decode cX4_useForCall 28 = .ok (.aload_n 0, 1) := by decide +kernel
theorem dX4_useForCall_29 : decode cX4_useForCall 29 = .ok (.getfield 67, 3) := by decide +kernel
theorem dX4_useForCall_32 : decode cX4_useForCall 32 = .ok (.invokevirtual 141, 3) := by decide +kernel
theorem dX4_useForCall_35 : decode cX4_useForCall 35 = .ok (.ifCond .ne 11, 3) := by decide +kernel
theorem dX4_useForCall_38 : decode cX4_useForCall 38 = .ok (.aload_n 0, 1) := by decide +kernel
theorem dX4_useForCall_39 : decode cX4_useForCall 39 = .ok (.iconst 2, 1) := by decide +kernel
theorem dX4_useForCall_40 : decode cX4_useForCall 40 = .ok (.invokevirtual 159, 3) := by decide +kernel
theorem dX4_useForCall_43 : decode cX4_useForCall 43 = .ok (.goto 30, 3) := by decide +kernel
theorem dX4_useForCall_46 : decode cX4_useForCall 46 = .ok (.aload_n 0, 1) := by decide +kernel
theorem dX4_useForCall_47 : decode cX4_useForCall 47 = .ok (.getfield 46, 3) := by decide +kernel
theorem dX4_useForCall_50 : decode cX4_useForCall 50 = .ok (.iload_n 1, 1) := by decide +kernel
theorem dX4_useForCall_51 : decode cX4_useForCall 51 = .ok (.iload_n 2, 1) := by decide +kernel
theorem dX4_useForCall_52 : decode cX4_useForCall 52 = .ok (.iconst 1, 1) := by decide +kernel
theorem dX4_useForCall_53 : decode cX4_useForCall 53 = .ok (.aload_n 0, 1) := by decide +kernel
theorem dX4_useForCall_54 : decode cX4_useForCall 54 = .ok (.getfield 67, 3) := by decide +kernel
theorem dX4_useForCall_57 : decode cX4_useForCall 57 = .ok (.invokevirtual 185, 3) := by decide +kernel
theorem dX4_useForCall_60 : decode cX4_useForCall 60 = .ok (.aload_n 0, 1) := by decide +kernel
theorem dX4_useForCall_61 : decode cX4_useForCall 61 = .ok (.aload_n 0, 1) := by decide +kernel
theorem dX4_useForCall_62 : decode cX4_useForCall 62 = .ok (.getfield 53, 3) := by decide +kernel
theorem dX4_useForCall_65 : decode cX4_useForCall 65 = .ok (.iload_n 1, 1) := by decide +kernel
theorem dX4_useForCall_66 : decode cX4_useForCall 66 = .ok (.invokevirtual 223, 3) := by decide +kernel
theorem dX4_useForCall_69 : decode cX4_useForCall 69 = .ok (.iload_n 2, 1) := by decide +kernel
theorem dX4_useForCall_70 : decode cX4_useForCall 70 = .ok (.invokevirtual 123, 3) := by decide +kernel
theorem dX4_useForCall_73 : decode cX4_useForCall 73 = .ok (.return_, 1) := by decide +kernel
theorem dX4_call_0 : decode cX4_call 0 = .ok (.aload_n 0, 1) := by decide +kernel
theorem dX4_call_1 : decode cX4_call 1 = .ok (.getfield 53, 3) := by decide +kernel
theorem dX4_call_4 : decode cX4_call 4 = .ok (.iload_n 1, 1) := by decide +kernel
theorem dX4_call_5 : decode cX4_call 5 = .ok (.invokevirtual 248, 3) := by decide +kernel
theorem dX4_call_8 : decode cX4_call 8 = .ok (.ifCond .eq 19, 3) := by decide +kernel
theorem dX4_call_11 : decode cX4_call 11 = .ok (.aload_n 0, 1) := by decide +kernel
theorem dX4_call_12 : decode cX4_call 12 = .ok (.getfield 25, 3) := by decide +kernel
theorem dX4_call_15 : decode cX4_call 15 = .ok (.dup, 1) := by decide +kernel
theorem dX4_call_16 : decode cX4_call 16 = .ok (.getfield 120, 3) := by decide +kernel
theorem dX4_call_19 : decode cX4_call 19 = .ok (.iconst 1, 1) := by decide +kernel
theorem dX4_call_20 : decode cX4_call 20 = .ok (.iadd, 1) := by decide +kernel
theorem dX4_call_21 : decode cX4_call 21 = .ok (.putfield 120, 3) := by decide +kernel
theorem dX4_call_24 : decode cX4_call 24 = .ok (.goto 60, 3) := by decide +kernel
theorem dX4_call_27 : decode cX4_call 27 = .ok (.aload_n 0, 1) := by decide +kernel
theorem dX4_call_28 : decode cX4_call 28 = .ok (.getfield 70, 3) := by decide +kernel
theorem dX4_call_31 : decode cX4_call 31 = .ok (.bipush 12, 2) := by decide +kernel
theorem dX4_call_33 : decode cX4_call 33 = .ok (.if_icmp .lt 9, 3) := by decide +kernel
theorem dX4_call_36 : decode cX4_call 36 = .ok (.aload_n 0, 1) := by decide +kernel
theorem dX4_call_37 : decode cX4_call 37 = .ok (.iconst 5, 1) := by decide +kernel
theorem dX4_call_38 : decode cX4_call 38 = .ok (.invokevirtual 159, 3) := by decide +kernel
theorem dX4_call_41 : decode cX4_call 41 = .ok (.return_, 1) := by decide +kernel
theorem dX4_call_42 : decode cX4_call 42 = .ok (.aload_n 0, 1) := by decide +kernel
theorem dX4_call_43 : decode cX4_call 43 = .ok (.dup, 1) := by decide +kernel
theorem dX4_call_44 : decode cX4_call 44 = .ok (.getfield 70, 3) := by decide +kernel
theorem dX4_call_47 : decode cX4_call 47 = .ok (.iconst 1, 1) := by decide +kernel
theorem dX4_call_48 : decode cX4_call 48 = .ok (.iadd, 1) := by decide +kernel
theorem dX4_call_49 : decode cX4_call 49 = .ok (.putfield 70, 3) := by decide +kernel
theorem dX4_call_52 : decode cX4_call 52 = .ok (.aload_n 0, 1) := by decide +kernel
theorem dX4_call_53 : decode cX4_call 53 = .ok (.getfield 25, 3) := by decide +kernel
theorem dX4_call_56 : decode cX4_call 56 = .ok (.aload_n 0, 1) := by decide +kernel
theorem dX4_call_57 : decode cX4_call 57 = .ok (.getfield 25, 3) := by decide +kernel
theorem dX4_call_60 : decode cX4_call 60 = .ok (.getfield 117, 3) := by decide +kernel
theorem dX4_call_63 : decode cX4_call 63 = .ok (.aload_n 0, 1) := by decide +kernel
theorem dX4_call_64 : decode cX4_call 64 = .ok (.getfield 70, 3) := by decide +kernel
theorem dX4_call_67 : decode cX4_call 67 = .ok (.invokestatic 251, 3) := by decide +kernel
theorem dX4_call_70 : decode cX4_call 70 = .ok (.putfield 117, 3) := by decide +kernel
theorem dX4_call_73 : decode cX4_call 73 = .ok (.aload_n 0, 1) := by decide +kernel
theorem dX4_call_74 : decode cX4_call 74 = .ok (.getfield 46, 3) := by decide +kernel
theorem dX4_call_77 : decode cX4_call 77 = .ok (.iload_n 1, 1) := by decide +kernel
theorem dX4_call_78 : decode cX4_call 78 = .ok (.iload_n 2, 1) := by decide +kernel
theorem dX4_call_79 : decode cX4_call 79 = .ok (.iconst 2, 1) := by decide +kernel
theorem dX4_call_80 : decode cX4_call 80 = .ok (.iconst 0, 1) := by decide +kernel
theorem dX4_call_81 : decode cX4_call 81 = .ok (.invokevirtual 185, 3) := by decide +kernel
theorem dX4_call_84 : decode cX4_call 84 = .ok (.aload_n 0, 1) := by decide +kernel
theorem dX4_call_85 : decode cX4_call 85 = .ok (.getfield 39, 3) := by decide +kernel
theorem dX4_call_88 : decode cX4_call 88 = .ok (.iload_n 3, 1) := by decide +kernel
theorem dX4_call_89 : decode cX4_call 89 = .ok (.invokevirtual 144, 3) := by decide +kernel
theorem dX4_call_92 : decode cX4_call 92 = .ok (.istore 4, 2) := by decide +kernel
theorem dX4_call_94 : decode cX4_call 94 = .ok (.aload_n 0, 1) := by decide +kernel
theorem dX4_call_95 : decode cX4_call 95 = .ok (.getfield 32, 3) := by decide +kernel
theorem dX4_call_98 : decode cX4_call 98 = .ok (.aload_n 0, 1) := by decide +kernel
theorem dX4_call_99 : decode cX4_call 99 = .ok (.getfield 53, 3) := by decide +kernel
theorem dX4_call_102 : decode cX4_call 102 = .ok (.iload 4, 2) := by decide +kernel
theorem dX4_call_104 : decode cX4_call 104 = .ok (.invokevirtual 147, 3) := by decide +kernel
theorem dX4_call_107 : decode cX4_call 107 = .ok (.aload_n 0, 1) := by decide +kernel
theorem dX4_call_108 : decode cX4_call 108 = .ok (.getfield 67, 3) := by decide +kernel
theorem dX4_call_111 : decode cX4_call 111 = .ok (.aload_n 0, 1) := by decide +kernel
theorem dX4_call_112 : decode cX4_call 112 = .ok (.getfield 39, 3) := by decide +kernel
theorem dX4_call_115 : decode cX4_call 115 = .ok (.iload_n 3, 1) := by decide +kernel
theorem dX4_call_116 : decode cX4_call 116 = .ok (.invokevirtual 256, 3) := by decide +kernel
theorem dX4_call_119 : decode cX4_call 119 = .ok (.invokevirtual 241, 3) := by decide +kernel
theorem dX4_call_122 : decode cX4_call 122 = .ok (.istore 5, 2) := by decide +kernel
theorem dX4_call_124 : decode cX4_call 124 = .ok (.aload_n 0, 1) := by decide +kernel
theorem dX4_call_125 : decode cX4_call 125 = .ok (.aload_n 0, 1) := by decide +kernel
theorem dX4_call_126 : decode cX4_call 126 = .ok (.getfield 53, 3) := by decide +kernel
theorem dX4_call_129 : decode cX4_call 129 = .ok (.iload 4, 2) := by decide +kernel
theorem dX4_call_131 : decode cX4_call 131 = .ok (.invokevirtual 189, 3) := by decide +kernel
theorem dX4_call_134 : decode cX4_call 134 = .ok (.iload 5, 2) := by decide +kernel
theorem dX4_call_136 : decode cX4_call 136 = .ok (.invokevirtual 123, 3) := by decide +kernel
theorem dX4_call_139 : decode cX4_call 139 = .ok (.return_, 1) := by decide +kernel
theorem dX4_valueOfVariable_0 : decode cX4_valueOfVariable 0 = .ok (.aload_n 0, 1) := by decide +kernel
theorem dX4_valueOfVariable_1 : decode cX4_valueOfVariable 1 = .ok (.getfield 32, 3) := by decide +kernel
theorem dX4_valueOfVariable_4 : decode cX4_valueOfVariable 4 = .ok (.iload_n 1, 1) := by decide +kernel
theorem dX4_valueOfVariable_5 : decode cX4_valueOfVariable 5 = .ok (.iload_n 2, 1) := by decide +kernel
theorem dX4_valueOfVariable_6 : decode cX4_valueOfVariable 6 = .ok (.invokevirtual 259, 3) := by decide +kernel
theorem dX4_valueOfVariable_9 : decode cX4_valueOfVariable 9 = .ok (.istore_n 3, 1) := by decide +kernel
theorem dX4_valueOfVariable_10 : decode cX4_valueOfVariable 10 = .ok (.iload_n 3, 1) := by decide +kernel
theorem dX4_valueOfVariable_11 : decode cX4_valueOfVariable 11 = .ok (.iconst (-1), 1) := by decide +kernel
theorem dX4_valueOfVariable_12 : decode cX4_valueOfVariable 12 = .ok (.if_icmp .ne 14, 3) := by decide +kernel
theorem dX4_valueOfVariable_15 : decode cX4_valueOfVariable 15 = .ok (.aload_n 0, 1) := by decide +kernel
theorem dX4_valueOfVariable_16 : decode cX4_valueOfVariable 16 = .ok (.getfield 9, 3) := by decide +kernel
theorem dX4_valueOfVariable_19 : decode cX4_valueOfVariable 19 = .ok (.iload_n 1, 1) := by decide +kernel
theorem dX4_valueOfVariable_20 : decode cX4_valueOfVariable 20 = .ok (.invokestatic 262, 3) := by decide +kernel
theorem dX4_valueOfVariable_23 : decode cX4_valueOfVariable 23 = .ok (.goto 11, 3) := by decide +kernel
theorem dX4_valueOfVariable_26 : decode cX4_valueOfVariable 26 = .ok (.aload_n 0, 1) := by decide +kernel
theorem dX4_valueOfVariable_27 : decode cX4_valueOfVariable 27 = .ok (.getfield 32, 3) := by decide +kernel
theorem dX4_valueOfVariable_30 : decode cX4_valueOfVariable 30 = .ok (.iload_n 3, 1) := by decide +kernel
theorem dX4_valueOfVariable_31 : decode cX4_valueOfVariable 31 = .ok (.invokevirtual 266, 3) := by decide +kernel
theorem dX4_valueOfVariable_34 : decode cX4_valueOfVariable 34 = .ok (.ireturn, 1) := by decide +kernel
theorem dX4_store_0 : decode cX4_store 0 = .ok (.aload_n 0, 1) := by decide +kernel
theorem dX4_store_1 : decode cX4_store 1 = .ok (.getfield 32, 3) := by decide +kernel
theorem dX4_store_4 : decode cX4_store 4 = .ok (.iload_n 1, 1) := by decide +kernel
theorem dX4_store_5 : decode cX4_store 5 = .ok (.iload_n 2, 1) := by decide +kernel
theorem dX4_store_6 : decode cX4_store 6 = .ok (.invokevirtual 259, 3) := by decide +kernel
theorem dX4_store_9 : decode cX4_store 9 = .ok (.istore_n 3, 1) := by decide +kernel
theorem dX4_store_10 : decode cX4_store 10 = .ok (.iload_n 3, 1) := by decide +kernel
theorem dX4_store_11 : decode cX4_store 11 = .ok (.iconst (-1), 1) := by decide +kernel
theorem dX4_store_12 : decode cX4_store 12 = .ok (.if_icmp .eq 18, 3) := by decide +kernel
theorem dX4_store_15 : decode cX4_store 15 = .ok (.aload_n 0, 1) := by decide +kernel
theorem dX4_store_16 : decode cX4_store 16 = .ok (.getfield 32, 3) := by decide +kernel
theorem dX4_store_19 : decode cX4_store 19 = .ok (.iload_n 3, 1) := by decide +kernel
theorem dX4_store_20 : decode cX4_store 20 = .ok (.aload_n 0, 1) := by decide +kernel
theorem dX4_store_21 : decode cX4_store 21 = .ok (.getfield 67, 3) := by decide +kernel
theorem dX4_store_24 : decode cX4_store 24 = .ok (.invokevirtual 269, 3) := by decide +kernel
theorem dX4_store_27 : decode cX4_store 27 = .ok (.goto 33, 3) := by decide +kernel
theorem dX4_store_30 : decode cX4_store 30 = .ok (.aload_n 0, 1) := by decide +kernel
theorem dX4_store_31 : decode cX4_store 31 = .ok (.getfield 67, 3) := by decide +kernel
theorem dX4_store_34 : decode cX4_store 34 = .ok (.invokestatic 137, 3) := by decide +kernel
theorem dX4_store_37 : decode cX4_store 37 = .ok (.ifCond .eq 18, 3) := by decide +kernel
theorem dX4_store_40 : decode cX4_store 40 = .ok (.aload_n 0, 1) := by decide +kernel
theorem dX4_store_41 : decode cX4_store 41 = .ok (.getfield 9, 3) := by decide +kernel
theorem dX4_store_44 : decode cX4_store 44 = .ok (.iload_n 1, 1) := by decide +kernel
theorem dX4_store_45 : decode cX4_store 45 = .ok (.aload_n 0, 1) := by decide +kernel
theorem dX4_store_46 : decode cX4_store 46 = .ok (.getfield 67, 3) := by decide +kernel
theorem dX4_store_49 : decode cX4_store 49 = .ok (.invokestatic 272, 3) := by decide +kernel
theorem dX4_store_52 : decode cX4_store 52 = .ok (.goto 8, 3) := by decide +kernel
theorem dX4_store_55 : decode cX4_store 55 = .ok (.aload_n 0, 1) := by decide +kernel
theorem dX4_store_56 : decode cX4_store 56 = .ok (.iconst 1, 1) := by decide +kernel
theorem dX4_store_57 : decode cX4_store 57 = .ok (.invokevirtual 159, 3) := by decide +kernel
theorem dX4_store_60 : decode cX4_store 60 = .ok (.return_, 1) := by decide +kernel
theorem dX4_findField_0 : decode cX4_findField 0 = .ok (.aload_n 0, 1) := by decide +kernel
theorem dX4_findField_1 : decode cX4_findField 1 = .ok (.getfield 39, 3) := by decide +kernel
theorem dX4_findField_4 : decode cX4_findField 4 = .ok (.aload_n 0, 1) := by decide +kernel
theorem dX4_findField_5 : decode cX4_findField 5 = .ok (.getfield 67, 3) := by decide +kernel
theorem dX4_findField_8 : decode cX4_findField 8 = .ok (.iload_n 2, 1) := by decide +kernel
theorem dX4_findField_9 : decode cX4_findField 9 = .ok (.invokevirtual 276, 3) := by decide +kernel
theorem dX4_findField_12 : decode cX4_findField 12 = .ok (.ifCond .ne 9, 3) := by decide +kernel
theorem dX4_findField_15 : decode cX4_findField 15 = .ok (.aload_n 0, 1) := by decide +kernel
theorem dX4_findField_16 : decode cX4_findField 16 = .ok (.iconst 3, 1) := by decide +kernel
theorem dX4_findField_17 : decode cX4_findField 17 = .ok (.invokevirtual 159, 3) := by decide +kernel
theorem dX4_findField_20 : decode cX4_findField 20 = .ok (.return_, 1) := by decide +kernel
theorem dX4_findField_21 : decode cX4_findField 21 = .ok (.aload_n 0, 1) := by decide +kernel
theorem dX4_findField_22 : decode cX4_findField 22 = .ok (.getfield 18, 3) := by decide +kernel
theorem dX4_findField_25 : decode cX4_findField 25 = .ok (.aload_n 0, 1) := by decide +kernel
theorem dX4_findField_26 : decode cX4_findField 26 = .ok (.getfield 53, 3) := by decide +kernel
theorem dX4_findField_29 : decode cX4_findField 29 = .ok (.iload_n 1, 1) := by decide +kernel
theorem dX4_findField_30 : decode cX4_findField 30 = .ok (.invokevirtual 280, 3) := by decide +kernel
theorem dX4_findField_33 : decode cX4_findField 33 = .ok (.aload_n 0, 1) := by decide +kernel
theorem dX4_findField_34 : decode cX4_findField 34 = .ok (.getfield 39, 3) := by decide +kernel
theorem dX4_findField_37 : decode cX4_findField 37 = .ok (.aload_n 0, 1) := by decide +kernel
theorem dX4_findField_38 : decode cX4_findField 38 = .ok (.getfield 67, 3) := by decide +kernel
theorem dX4_findField_41 : decode cX4_findField 41 = .ok (.invokevirtual 150, 3) := by decide +kernel
theorem dX4_findField_44 : decode cX4_findField 44 = .ok (.invokevirtual 283, 3) := by decide +kernel
theorem dX4_findField_47 : decode cX4_findField 47 = .ok (.aload_n 0, 1) := by decide +kernel
theorem dX4_findField_48 : decode cX4_findField 48 = .ok (.aload_n 0, 1) := by decide +kernel
theorem dX4_findField_49 : decode cX4_findField 49 = .ok (.getfield 39, 3) := by decide +kernel
theorem dX4_findField_52 : decode cX4_findField 52 = .ok (.aload_n 0, 1) := by decide +kernel
theorem dX4_findField_53 : decode cX4_findField 53 = .ok (.getfield 67, 3) := by decide +kernel
theorem dX4_findField_56 : decode cX4_findField 56 = .ok (.iload_n 2, 1) := by decide +kernel
theorem dX4_findField_57 : decode cX4_findField 57 = .ok (.invokevirtual 286, 3) := by decide +kernel
theorem dX4_findField_60 : decode cX4_findField 60 = .ok (.invokevirtual 171, 3) := by decide +kernel
theorem dX4_findField_63 : decode cX4_findField 63 = .ok (.return_, 1) := by decide +kernel
theorem dX4_failAsTold_0 : decode cX4_failAsTold 0 = .ok (.aload_n 0, 1) := by decide +kernel
theorem dX4_failAsTold_1 : decode cX4_failAsTold 1 = .ok (.getfield 67, 3) := by decide +kernel
theorem dX4_failAsTold_4 : decode cX4_failAsTold 4 = .ok (.invokestatic 137, 3) := by decide +kernel
theorem dX4_failAsTold_7 : decode cX4_failAsTold 7 = .ok (.ifCond .ne 11, 3) := by decide +kernel
theorem dX4_failAsTold_10 : decode cX4_failAsTold 10 = .ok (.aload_n 0, 1) := by decide +kernel
theorem dX4_failAsTold_11 : decode cX4_failAsTold 11 = .ok (.iconst 1, 1) := by decide +kernel
theorem dX4_failAsTold_12 : decode cX4_failAsTold 12 = .ok (.invokevirtual 159, 3) := by decide +kernel
theorem dX4_failAsTold_15 : decode cX4_failAsTold 15 = .ok (.goto 34, 3) := by decide +kernel
theorem dX4_failAsTold_18 : decode cX4_failAsTold 18 = .ok (.aload_n 0, 1) := by decide +kernel
theorem dX4_failAsTold_19 : decode cX4_failAsTold 19 = .ok (.aload_n 0, 1) := by decide +kernel
theorem dX4_failAsTold_20 : decode cX4_failAsTold 20 = .ok (.getfield 67, 3) := by decide +kernel
theorem dX4_failAsTold_23 : decode cX4_failAsTold 23 = .ok (.ifCond .lt 22, 3) := by decide +kernel
theorem dX4_failAsTold_26 : decode cX4_failAsTold 26 = .ok (.aload_n 0, 1) := by decide +kernel
theorem dX4_failAsTold_27 : decode cX4_failAsTold 27 = .ok (.getfield 67, 3) := by decide +kernel
theorem dX4_failAsTold_30 : decode cX4_failAsTold 30 = .ok (.bipush 9, 2) := by decide +kernel
theorem dX4_failAsTold_32 : decode cX4_failAsTold 32 = .ok (.if_icmp .gt 13, 3) := by decide +kernel
theorem dX4_failAsTold_35 : decode cX4_failAsTold 35 = .ok (.bipush 10, 2) := by decide +kernel
theorem dX4_failAsTold_37 : decode cX4_failAsTold 37 = .ok (.aload_n 0, 1) := by decide +kernel
theorem dX4_failAsTold_38 : decode cX4_failAsTold 38 = .ok (.getfield 67, 3) := by decide +kernel
theorem dX4_failAsTold_41 : decode cX4_failAsTold 41 = .ok (.iadd, 1) := by decide +kernel
theorem dX4_failAsTold_42 : decode cX4_failAsTold 42 = .ok (.goto 4, 3) := by decide +kernel
theorem dX4_failAsTold_45 : decode cX4_failAsTold 45 = .ok (.iconst 4, 1) := by decide +kernel
theorem dX4_failAsTold_46 : decode cX4_failAsTold 46 = .ok (.invokevirtual 159, 3) := by decide +kernel
theorem dX4_failAsTold_49 : decode cX4_failAsTold 49 = .ok (.return_, 1) := by decide +kernel
theorem dX5_init_0 : decode cX5_init 0 = .ok (.aload_n 0, 1) := by decide +kernel
theorem dX5_init_1 : decode cX5_init 1 = .ok (.invokespecial 3, 3) := by decide +kernel
theorem dX5_init_4 : decode cX5_init 4 = .ok (.aload_n 0, 1) := by decide +kernel
theorem dX5_init_5 : decode cX5_init 5 = .ok (.bipush 40, 2) := by decide +kernel
theorem dX5_init_7 : decode cX5_init 7 = .ok (.newarray .int, 2) := by decide +kernel
theorem dX5_init_9 : decode cX5_init 9 = .ok (.putfield 9, 3) := by decide +kernel
theorem dX5_init_12 : decode cX5_init 12 = .ok (.aload_n 0, 1) := by decide +kernel
theorem dX5_init_13 : decode cX5_init 13 = .ok (.bipush 40, 2) := by decide +kernel
theorem dX5_init_15 : decode cX5_init 15 = .ok (.newarray .int, 2) := by decide +kernel
theorem dX5_init_17 : decode cX5_init 17 = .ok (.putfield 15, 3) := by decide +kernel
theorem dX5_init_20 : decode cX5_init 20 = .ok (.aload_n 0, 1) := by decide +kernel
theorem dX5_init_21 : decode cX5_init 21 = .ok (.bipush 40, 2) := by decide +kernel
theorem dX5_init_23 : decode cX5_init 23 = .ok (.newarray .int, 2) := by decide +kernel
theorem dX5_init_25 : decode cX5_init 25 = .ok (.putfield 18, 3) := by decide +kernel
theorem dX5_init_28 : decode cX5_init 28 = .ok (.aload_n 0, 1) := by decide +kernel
theorem dX5_init_29 : decode cX5_init 29 = .ok (.bipush 40, 2) := by decide +kernel
theorem dX5_init_31 : decode cX5_init 31 = .ok (.newarray .int, 2) := by decide +kernel
theorem dX5_init_33 : decode cX5_init 33 = .ok (.putfield 21, 3) := by decide +kernel
theorem dX5_init_36 : decode cX5_init 36 = .ok (.aload_n 0, 1) := by decide +kernel
theorem dX5_init_37 : decode cX5_init 37 = .ok (.bipush 40, 2) := by decide +kernel
theorem dX5_init_39 : decode cX5_init 39 = .ok (.newarray .int, 2) := by decide +kernel
theorem dX5_init_41 : decode cX5_init 41 = .ok (.putfield 24, 3) := by decide +kernel
theorem dX5_init_44 : decode cX5_init 44 = .ok (.aload_n 0, 1) := by decide +kernel
theorem dX5_init_45 : decode cX5_init 45 = .ok (.bipush 40, 2) := by decide +kernel
theorem dX5_init_47 : decode cX5_init 47 = .ok (.newarray .int, 2) := by decide +kernel
theorem dX5_init_49 : decode cX5_init 49 = .ok (.putfield 27, 3) := by decide +kernel
theorem dX5_init_52 : decode cX5_init 52 = .ok (.aload_n 0, 1) := by decide +kernel
theorem dX5_init_53 : decode cX5_init 53 = .ok (.iconst 0, 1) := by decide +kernel
theorem dX5_init_54 : decode cX5_init 54 = .ok (.putfield 30, 3) := by decide +kernel
theorem dX5_init_57 : decode cX5_init 57 = .ok (.aload_n 0, 1) := by decide +kernel
theorem dX5_init_58 : decode cX5_init 58 = .ok (.iconst 0, 1) := by decide +kernel
theorem dX5_init_59 : decode cX5_init 59 = .ok (.putfield 34, 3) := by decide +kernel
theorem dX5_init_62 : decode cX5_init 62 = .ok (.aload_n 0, 1) := by decide +kernel
theorem dX5_init_63 : decode cX5_init 63 = .ok (.getfield 9, 3) := by decide +kernel
theorem dX5_init_66 : decode cX5_init 66 = .ok (.iconst 0, 1) := by decide +kernel
theorem dX5_init_67 : decode cX5_init 67 = .ok (.bipush 48, 2) := by decide +kernel
theorem dX5_init_69 : decode cX5_init 69 = .ok (.iastore, 1) := by decide +kernel
theorem dX5_init_70 : decode cX5_init 70 = .ok (.aload_n 0, 1) := by decide +kernel
theorem dX5_init_71 : decode cX5_init 71 = .ok (.iconst 1, 1) := by decide +kernel
theorem dX5_init_72 : decode cX5_init 72 = .ok (.putfield 30, 3) := by decide +kernel
theorem dX5_init_75 : decode cX5_init 75 = .ok (.return_, 1) := by decide +kernel
theorem dX5_signOf_0 : decode cX5_signOf 0 = .ok (.aload_n 0, 1) := by decide +kernel
theorem dX5_signOf_1 : decode cX5_signOf 1 = .ok (.getfield 9, 3) := by decide +kernel
theorem dX5_signOf_4 : decode cX5_signOf 4 = .ok (.iload_n 1, 1) := by decide +kernel
theorem dX5_signOf_5 : decode cX5_signOf 5 = .ok (.invokestatic 37, 3) := by decide +kernel
theorem dX5_signOf_8 : decode cX5_signOf 8 = .ok (.ireturn, 1) := by decide +kernel
theorem dX5_variableOf_0 : decode cX5_variableOf 0 = .ok (.aload_n 0, 1) := by decide +kernel
theorem dX5_variableOf_1 : decode cX5_variableOf 1 = .ok (.getfield 15, 3) := by decide +kernel
theorem dX5_variableOf_4 : decode cX5_variableOf 4 = .ok (.iload_n 1, 1) := by decide +kernel
theorem dX5_variableOf_5 : decode cX5_variableOf 5 = .ok (.invokestatic 37, 3) := by decide +kernel
theorem dX5_variableOf_8 : decode cX5_variableOf 8 = .ok (.ireturn, 1) := by decide +kernel
theorem dX5_firstOf_0 : decode cX5_firstOf 0 = .ok (.iload_n 1, 1) := by decide +kernel
theorem dX5_firstOf_1 : decode cX5_firstOf 1 = .ok (.iconst 1, 1) := by decide +kernel
theorem dX5_firstOf_2 : decode cX5_firstOf 2 = .ok (.iadd, 1) := by decide +kernel
theorem dX5_firstOf_3 : decode cX5_firstOf 3 = .ok (.ireturn, 1) := by decide +kernel
theorem dX5_secondOf_0 : decode cX5_secondOf 0 = .ok (.aload_n 0, 1) := by decide +kernel
theorem dX5_secondOf_1 : decode cX5_secondOf 1 = .ok (.getfield 18, 3) := by decide +kernel
theorem dX5_secondOf_4 : decode cX5_secondOf 4 = .ok (.iload_n 1, 1) := by decide +kernel
theorem dX5_secondOf_5 : decode cX5_secondOf 5 = .ok (.invokestatic 37, 3) := by decide +kernel
theorem dX5_secondOf_8 : decode cX5_secondOf 8 = .ok (.ireturn, 1) := by decide +kernel
theorem dX5_thirdOf_0 : decode cX5_thirdOf 0 = .ok (.aload_n 0, 1) := by decide +kernel
theorem dX5_thirdOf_1 : decode cX5_thirdOf 1 = .ok (.getfield 21, 3) := by decide +kernel
theorem dX5_thirdOf_4 : decode cX5_thirdOf 4 = .ok (.iload_n 1, 1) := by decide +kernel
theorem dX5_thirdOf_5 : decode cX5_thirdOf 5 = .ok (.invokestatic 37, 3) := by decide +kernel
theorem dX5_thirdOf_8 : decode cX5_thirdOf 8 = .ok (.ireturn, 1) := by decide +kernel
theorem dX5_siteOf_0 : decode cX5_siteOf 0 = .ok (.aload_n 0, 1) := by decide +kernel
theorem dX5_siteOf_1 : decode cX5_siteOf 1 = .ok (.getfield 24, 3) := by decide +kernel
theorem dX5_siteOf_4 : decode cX5_siteOf 4 = .ok (.iload_n 1, 1) := by decide +kernel
theorem dX5_siteOf_5 : decode cX5_siteOf 5 = .ok (.invokestatic 37, 3) := by decide +kernel
theorem dX5_siteOf_8 : decode cX5_siteOf 8 = .ok (.ireturn, 1) := by decide +kernel
theorem dX5_isAtEnd_0 : decode cX5_isAtEnd 0 = .ok (.aload_n 0, 1) := by decide +kernel
theorem dX5_isAtEnd_1 : decode cX5_isAtEnd 1 = .ok (.getfield 27, 3) := by decide +kernel
theorem dX5_isAtEnd_4 : decode cX5_isAtEnd 4 = .ok (.iload_n 1, 1) := by decide +kernel
theorem dX5_isAtEnd_5 : decode cX5_isAtEnd 5 = .ok (.invokestatic 37, 3) := by decide +kernel
theorem dX5_isAtEnd_8 : decode cX5_isAtEnd 8 = .ok (.iconst 1, 1) := by decide +kernel
theorem dX5_isAtEnd_9 : decode cX5_isAtEnd 9 = .ok (.if_icmp .ne 7, 3) := by decide +kernel
theorem dX5_isAtEnd_12 : decode cX5_isAtEnd 12 = .ok (.iconst 1, 1) := by decide +kernel
theorem dX5_isAtEnd_13 : decode cX5_isAtEnd 13 = .ok (.goto 4, 3) := by decide +kernel
theorem dX5_isAtEnd_16 : decode cX5_isAtEnd 16 = .ok (.iconst 0, 1) := by decide +kernel
theorem dX5_isAtEnd_17 : decode cX5_isAtEnd 17 = .ok (.ireturn, 1) := by decide +kernel
theorem dX5_empty_0 : decode cX5_empty 0 = .ok (.aload_n 0, 1) := by decide +kernel
theorem dX5_empty_1 : decode cX5_empty 1 = .ok (.iconst 0, 1) := by decide +kernel
theorem dX5_empty_2 : decode cX5_empty 2 = .ok (.putfield 30, 3) := by decide +kernel
theorem dX5_empty_5 : decode cX5_empty 5 = .ok (.aload_n 0, 1) := by decide +kernel
theorem dX5_empty_6 : decode cX5_empty 6 = .ok (.iconst 0, 1) := by decide +kernel
theorem dX5_empty_7 : decode cX5_empty 7 = .ok (.putfield 34, 3) := by decide +kernel
theorem dX5_empty_10 : decode cX5_empty 10 = .ok (.return_, 1) := by decide +kernel
theorem dX5_add_0 : decode cX5_add 0 = .ok (.aload_n 0, 1) := by decide +kernel
theorem dX5_add_1 : decode cX5_add 1 = .ok (.getfield 30, 3) := by decide +kernel
theorem dX5_add_4 : decode cX5_add 4 = .ok (.istore 4, 2) := by decide +kernel
theorem dX5_add_6 : decode cX5_add 6 = .ok (.aload_n 0, 1) := by decide +kernel
theorem dX5_add_7 : decode cX5_add 7 = .ok (.getfield 9, 3) := by decide +kernel
theorem dX5_add_10 : decode cX5_add 10 = .ok (.iload 4, 2) := by decide +kernel
theorem dX5_add_12 : decode cX5_add 12 = .ok (.iload_n 1, 1) := by decide +kernel
theorem dX5_add_13 : decode cX5_add 13 = .ok (.invokestatic 41, 3) := by decide +kernel
theorem dX5_add_16 : decode cX5_add 16 = .ok (.aload_n 0, 1) := by decide +kernel
theorem dX5_add_17 : decode cX5_add 17 = .ok (.getfield 15, 3) := by decide +kernel
theorem dX5_add_20 : decode cX5_add 20 = .ok (.iload 4, 2) := by decide +kernel
theorem dX5_add_22 : decode cX5_add 22 = .ok (.iload_n 1, 1) := by decide +kernel
theorem dX5_add_23 : decode cX5_add 23 = .ok (.bipush 97, 2) := by decide +kernel
theorem dX5_add_25 : decode cX5_add 25 = .ok (.isub, 1) := by decide +kernel
theorem dX5_add_26 : decode cX5_add 26 = .ok (.invokestatic 41, 3) := by decide +kernel
theorem dX5_add_29 : decode cX5_add 29 = .ok (.aload_n 0, 1) := by decide +kernel
theorem dX5_add_30 : decode cX5_add 30 = .ok (.getfield 27, 3) := by decide +kernel
theorem dX5_add_33 : decode cX5_add 33 = .ok (.iload 4, 2) := by decide +kernel
theorem dX5_add_35 : decode cX5_add 35 = .ok (.aload_n 0, 1) := by decide +kernel
theorem dX5_add_36 : decode cX5_add 36 = .ok (.iload_n 2, 1) := by decide +kernel
theorem dX5_add_37 : decode cX5_add 37 = .ok (.iload_n 3, 1) := by decide +kernel
theorem dX5_add_38 : decode cX5_add 38 = .ok (.invokevirtual 45, 3) := by decide +kernel
theorem dX5_add_41 : decode cX5_add 41 = .ok (.ifCond .eq 7, 3) := by decide +kernel
theorem dX5_add_44 : decode cX5_add 44 = .ok (.iconst 1, 1) := by decide +kernel
theorem dX5_add_45 : decode cX5_add 45 = .ok (.goto 4, 3) := by decide +kernel
theorem dX5_add_48 : decode cX5_add 48 = .ok (.iconst 0, 1) := by decide +kernel
theorem dX5_add_49 : decode cX5_add 49 = .ok (.invokestatic 41, 3) := by decide +kernel
theorem dX5_add_52 : decode cX5_add 52 = .ok (.iload_n 1, 1) := by decide +kernel
theorem dX5_add_53 : decode cX5_add 53 = .ok (.invokestatic 49, 3) := by decide +kernel
theorem dX5_add_56 : decode cX5_add 56 = .ok (.ifCond .eq 26, 3) := by decide +kernel
theorem dX5_add_59 : decode cX5_add 59 = .ok (.aload_n 0, 1) := by decide +kernel
theorem dX5_add_60 : decode cX5_add 60 = .ok (.getfield 24, 3) := by decide +kernel
theorem dX5_add_63 : decode cX5_add 63 = .ok (.iload 4, 2) := by decide +kernel
theorem dX5_add_65 : decode cX5_add 65 = .ok (.aload_n 0, 1) := by decide +kernel
theorem dX5_add_66 : decode cX5_add 66 = .ok (.getfield 34, 3) := by decide +kernel
theorem dX5_add_69 : decode cX5_add 69 = .ok (.invokestatic 41, 3) := by decide +kernel
theorem dX5_add_72 : decode cX5_add 72 = .ok (.aload_n 0, 1) := by decide +kernel
theorem dX5_add_73 : decode cX5_add 73 = .ok (.dup, 1) := by decide +kernel
theorem dX5_add_74 : decode cX5_add 74 = .ok (.getfield 34, 3) := by decide +kernel
theorem dX5_add_77 : decode cX5_add 77 = .ok (.iconst 1, 1) := by decide +kernel
theorem dX5_add_78 : decode cX5_add 78 = .ok (.iadd, 1) := by decide +kernel
theorem dX5_add_79 : decode cX5_add 79 = .ok (.putfield 34, 3) := by decide +kernel
theorem dX5_add_82 : decode cX5_add 82 = .ok (.iload_n 3, 1) := by decide +kernel
theorem dX5_add_83 : decode cX5_add 83 = .ok (.bipush 50, 2) := by decide +kernel
theorem dX5_add_85 : decode cX5_add 85 = .ok (.if_icmp .ne 13, 3) := by decide +kernel
theorem dX5_add_88 : decode cX5_add 88 = .ok (.aload_n 0, 1) := by decide +kernel
theorem dX5_add_89 : decode cX5_add 89 = .ok (.getfield 18, 3) := by decide +kernel
theorem dX5_add_92 : decode cX5_add 92 = .ok (.iload_n 2, 1) := by decide +kernel
theorem dX5_add_93 : decode cX5_add 93 = .ok (.iload 4, 2) := by decide +kernel
theorem dX5_add_95 : decode cX5_add 95 = .ok (.invokestatic 41, 3) := by decide +kernel
theorem dX5_add_98 : decode cX5_add 98 = .ok (.iload_n 3, 1) := by decide +kernel
theorem dX5_add_99 : decode cX5_add 99 = .ok (.bipush 51, 2) := by decide +kernel
theorem dX5_add_101 : decode cX5_add 101 = .ok (.if_icmp .ne 13, 3) := by decide +kernel
theorem dX5_add_104 : decode cX5_add 104 = .ok (.aload_n 0, 1) := by decide +kernel
theorem dX5_add_105 : decode cX5_add 105 = .ok (.getfield 21, 3) := by decide +kernel
theorem dX5_add_108 : decode cX5_add 108 = .ok (.iload_n 2, 1) := by decide +kernel
theorem dX5_add_109 : decode cX5_add 109 = .ok (.iload 4, 2) := by decide +kernel
theorem dX5_add_111 : decode cX5_add 111 = .ok (.invokestatic 41, 3) := by decide +kernel
theorem dX5_add_114 : decode cX5_add 114 = .ok (.aload_n 0, 1) := by decide +kernel
theorem dX5_add_115 : decode cX5_add 115 = .ok (.dup, 1) := by decide +kernel
theorem dX5_add_116 : decode cX5_add 116 = .ok (.getfield 30, 3) := by decide +kernel
theorem dX5_add_119 : decode cX5_add 119 = .ok (.iconst 1, 1) := by decide +kernel
theorem dX5_add_120 : decode cX5_add 120 = .ok (.iadd, 1) := by decide +kernel
theorem dX5_add_121 : decode cX5_add 121 = .ok (.putfield 30, 3) := by decide +kernel
theorem dX5_add_124 : decode cX5_add 124 = .ok (.return_, 1) := by decide +kernel
theorem dX5_nameVariable_0 : decode cX5_nameVariable 0 = .ok (.aload_n 0, 1) := by decide +kernel
theorem dX5_nameVariable_1 : decode cX5_nameVariable 1 = .ok (.getfield 15, 3) := by decide +kernel
theorem dX5_nameVariable_4 : decode cX5_nameVariable 4 = .ok (.iload_n 1, 1) := by decide +kernel
theorem dX5_nameVariable_5 : decode cX5_nameVariable 5 = .ok (.iload_n 2, 1) := by decide +kernel
theorem dX5_nameVariable_6 : decode cX5_nameVariable 6 = .ok (.bipush 97, 2) := by decide +kernel
theorem dX5_nameVariable_8 : decode cX5_nameVariable 8 = .ok (.isub, 1) := by decide +kernel
theorem dX5_nameVariable_9 : decode cX5_nameVariable 9 = .ok (.invokestatic 41, 3) := by decide +kernel
theorem dX5_nameVariable_12 : decode cX5_nameVariable 12 = .ok (.return_, 1) := by decide +kernel
theorem dX5_comesToEnd_0 : decode cX5_comesToEnd 0 = .ok (.iload_n 1, 1) := by decide +kernel
theorem dX5_comesToEnd_1 : decode cX5_comesToEnd 1 = .ok (.ifCond .ge 5, 3) := by decide +kernel
theorem dX5_comesToEnd_4 : decode cX5_comesToEnd 4 = .ok (.iconst 0, 1) := by decide +kernel
theorem dX5_comesToEnd_5 : decode cX5_comesToEnd 5 = .ok (.ireturn, 1) := by decide +kernel
theorem dX5_comesToEnd_6 : decode cX5_comesToEnd 6 = .ok (.aload_n 0, 1) := by decide +kernel
theorem dX5_comesToEnd_7 : decode cX5_comesToEnd 7 = .ok (.iload_n 1, 1) := by decide +kernel
theorem dX5_comesToEnd_8 : decode cX5_comesToEnd 8 = .ok (.invokevirtual 55, 3) := by decide +kernel
theorem dX5_comesToEnd_11 : decode cX5_comesToEnd 11 = .ok (.lookupswitch 91 #[(44, 71), (63, 51), (70, 49), (76, 71), (89, 71)], 49) := by decide +kernel
theorem dX5_comesToEnd_60 : decode cX5_comesToEnd 60 = .ok (.iconst 1, 1) := by decide +kernel
theorem dX5_comesToEnd_61 : decode cX5_comesToEnd 61 = .ok (.ireturn, 1) := by decide +kernel
theorem dX5_comesToEnd_62 : decode cX5_comesToEnd 62 = .ok (.iload_n 2, 1) := by decide +kernel
theorem dX5_comesToEnd_63 : decode cX5_comesToEnd 63 = .ok (.bipush 49, 2) := by decide +kernel
theorem dX5_comesToEnd_65 : decode cX5_comesToEnd 65 = .ok (.if_icmp .eq 15, 3) := by decide +kernel
theorem dX5_comesToEnd_68 : decode cX5_comesToEnd 68 = .ok (.aload_n 0, 1) := by decide +kernel
theorem dX5_comesToEnd_69 : decode cX5_comesToEnd 69 = .ok (.iload_n 1, 1) := by decide +kernel
theorem dX5_comesToEnd_70 : decode cX5_comesToEnd 70 = .ok (.invokevirtual 59, 3) := by decide +kernel
theorem dX5_comesToEnd_73 : decode cX5_comesToEnd 73 = .ok (.ifCond .eq 7, 3) := by decide +kernel
theorem dX5_comesToEnd_76 : decode cX5_comesToEnd 76 = .ok (.iconst 1, 1) := by decide +kernel
theorem dX5_comesToEnd_77 : decode cX5_comesToEnd 77 = .ok (.goto 4, 3) := by decide +kernel
theorem dX5_comesToEnd_80 : decode cX5_comesToEnd 80 = .ok (.iconst 0, 1) := by decide +kernel
theorem dX5_comesToEnd_81 : decode cX5_comesToEnd 81 = .ok (.ireturn, 1) := by decide +kernel
theorem dX5_comesToEnd_82 : decode cX5_comesToEnd 82 = .ok (.iload_n 2, 1) := by decide +kernel
theorem dX5_comesToEnd_83 : decode cX5_comesToEnd 83 = .ok (.bipush 50, 2) := by decide +kernel
theorem dX5_comesToEnd_85 : decode cX5_comesToEnd 85 = .ok (.if_icmp .ne 15, 3) := by decide +kernel
theorem dX5_comesToEnd_88 : decode cX5_comesToEnd 88 = .ok (.aload_n 0, 1) := by decide +kernel
theorem dX5_comesToEnd_89 : decode cX5_comesToEnd 89 = .ok (.iload_n 1, 1) := by decide +kernel
theorem dX5_comesToEnd_90 : decode cX5_comesToEnd 90 = .ok (.invokevirtual 59, 3) := by decide +kernel
theorem dX5_comesToEnd_93 : decode cX5_comesToEnd 93 = .ok (.ifCond .eq 7, 3) := by decide +kernel
theorem dX5_comesToEnd_96 : decode cX5_comesToEnd 96 = .ok (.iconst 1, 1) := by decide +kernel
theorem dX5_comesToEnd_97 : decode cX5_comesToEnd 97 = .ok (.goto 4, 3) := by decide +kernel
theorem dX5_comesToEnd_100 : decode cX5_comesToEnd 100 = .ok (.iconst 0, 1) := by decide +kernel
theorem dX5_comesToEnd_101 : decode cX5_comesToEnd 101 = .ok (.ireturn, 1) := by decide +kernel
theorem dX5_comesToEnd_102 : decode cX5_comesToEnd 102 = .ok (.iconst 0, 1) := by decide +kernel
theorem dX5_comesToEnd_103 : decode cX5_comesToEnd 103 = .ok (.ireturn, 1) := by decide +kernel
theorem dX5_copyFrom_0 : decode cX5_copyFrom 0 = .ok (.aload_n 1, 1) := by decide +kernel
theorem dX5_copyFrom_1 : decode cX5_copyFrom 1 = .ok (.getfield 9, 3) := by decide +kernel
theorem dX5_copyFrom_4 : decode cX5_copyFrom 4 = .ok (.aload_n 0, 1) := by decide +kernel
theorem dX5_copyFrom_5 : decode cX5_copyFrom 5 = .ok (.getfield 9, 3) := by decide +kernel
theorem dX5_copyFrom_8 : decode cX5_copyFrom 8 = .ok (.invokestatic 62, 3) := by decide +kernel
theorem dX5_copyFrom_11 : decode cX5_copyFrom 11 = .ok (.aload_n 1, 1) := by decide +kernel
theorem dX5_copyFrom_12 : decode cX5_copyFrom 12 = .ok (.getfield 15, 3) := by decide +kernel
theorem dX5_copyFrom_15 : decode cX5_copyFrom 15 = .ok (.aload_n 0, 1) := by decide +kernel
theorem dX5_copyFrom_16 : decode cX5_copyFrom 16 = .ok (.getfield 15, 3) := by decide +kernel
theorem dX5_copyFrom_19 : decode cX5_copyFrom 19 = .ok (.invokestatic 62, 3) := by decide +kernel
theorem dX5_copyFrom_22 : decode cX5_copyFrom 22 = .ok (.aload_n 1, 1) := by decide +kernel
theorem dX5_copyFrom_23 : decode cX5_copyFrom 23 = .ok (.getfield 18, 3) := by decide +kernel
theorem dX5_copyFrom_26 : decode cX5_copyFrom 26 = .ok (.aload_n 0, 1) := by decide +kernel
theorem dX5_copyFrom_27 : decode cX5_copyFrom 27 = .ok (.getfield 18, 3) := by decide +kernel
theorem dX5_copyFrom_30 : decode cX5_copyFrom 30 = .ok (.invokestatic 62, 3) := by decide +kernel
theorem dX5_copyFrom_33 : decode cX5_copyFrom 33 = .ok (.aload_n 1, 1) := by decide +kernel
theorem dX5_copyFrom_34 : decode cX5_copyFrom 34 = .ok (.getfield 21, 3) := by decide +kernel
theorem dX5_copyFrom_37 : decode cX5_copyFrom 37 = .ok (.aload_n 0, 1) := by decide +kernel
theorem dX5_copyFrom_38 : decode cX5_copyFrom 38 = .ok (.getfield 21, 3) := by decide +kernel
theorem dX5_copyFrom_41 : decode cX5_copyFrom 41 = .ok (.invokestatic 62, 3) := by decide +kernel
theorem dX5_copyFrom_44 : decode cX5_copyFrom 44 = .ok (.aload_n 1, 1) := by decide +kernel
theorem dX5_copyFrom_45 : decode cX5_copyFrom 45 = .ok (.getfield 24, 3) := by decide +kernel
theorem dX5_copyFrom_48 : decode cX5_copyFrom 48 = .ok (.aload_n 0, 1) := by decide +kernel
theorem dX5_copyFrom_49 : decode cX5_copyFrom 49 = .ok (.getfield 24, 3) := by decide +kernel
theorem dX5_copyFrom_52 : decode cX5_copyFrom 52 = .ok (.invokestatic 62, 3) := by decide +kernel
theorem dX5_copyFrom_55 : decode cX5_copyFrom 55 = .ok (.aload_n 1, 1) := by decide +kernel
theorem dX5_copyFrom_56 : decode cX5_copyFrom 56 = .ok (.getfield 27, 3) := by decide +kernel
theorem dX5_copyFrom_59 : decode cX5_copyFrom 59 = .ok (.aload_n 0, 1) := by decide +kernel
theorem dX5_copyFrom_60 : decode cX5_copyFrom 60 = .ok (.getfield 27, 3) := by decide +kernel
theorem dX5_copyFrom_63 : decode cX5_copyFrom 63 = .ok (.invokestatic 62, 3) := by decide +kernel
theorem dX5_copyFrom_66 : decode cX5_copyFrom 66 = .ok (.aload_n 0, 1) := by decide +kernel
theorem dX5_copyFrom_67 : decode cX5_copyFrom 67 = .ok (.aload_n 1, 1) := by decide +kernel
theorem dX5_copyFrom_68 : decode cX5_copyFrom 68 = .ok (.getfield 30, 3) := by decide +kernel
theorem dX5_copyFrom_71 : decode cX5_copyFrom 71 = .ok (.putfield 30, 3) := by decide +kernel
theorem dX5_copyFrom_74 : decode cX5_copyFrom 74 = .ok (.aload_n 0, 1) := by decide +kernel
theorem dX5_copyFrom_75 : decode cX5_copyFrom 75 = .ok (.aload_n 1, 1) := by decide +kernel
theorem dX5_copyFrom_76 : decode cX5_copyFrom 76 = .ok (.getfield 34, 3) := by decide +kernel
theorem dX5_copyFrom_79 : decode cX5_copyFrom 79 = .ok (.putfield 34, 3) := by decide +kernel
theorem dX5_copyFrom_82 : decode cX5_copyFrom 82 = .ok (.return_, 1) := by decide +kernel
theorem dX6_init_0 : decode cX6_init 0 = .ok (.aload_n 0, 1) := by decide +kernel
theorem dX6_init_1 : decode cX6_init 1 = .ok (.invokespecial 3, 3) := by decide +kernel
theorem dX6_init_4 : decode cX6_init 4 = .ok (.aload_n 0, 1) := by decide +kernel
theorem dX6_init_5 : decode cX6_init 5 = .ok (.new 9, 3) := by decide +kernel
theorem dX6_init_8 : decode cX6_init 8 = .ok (.dup, 1) := by decide +kernel
theorem dX6_init_9 : decode cX6_init 9 = .ok (.invokespecial 11, 3) := by decide +kernel
theorem dX6_init_12 : decode cX6_init 12 = .ok (.putfield 12, 3) := by decide +kernel
theorem dX6_init_15 : decode cX6_init 15 = .ok (.aload_n 0, 1) := by decide +kernel
theorem dX6_init_16 : decode cX6_init 16 = .ok (.bipush 6, 2) := by decide +kernel
theorem dX6_init_18 : decode cX6_init 18 = .ok (.newarray .int, 2) := by decide +kernel
theorem dX6_init_20 : decode cX6_init 20 = .ok (.putfield 18, 3) := by decide +kernel
theorem dX6_init_23 : decode cX6_init 23 = .ok (.aload_n 0, 1) := by decide +kernel
theorem dX6_init_24 : decode cX6_init 24 = .ok (.new 22, 3) := by decide +kernel
theorem dX6_init_27 : decode cX6_init 27 = .ok (.dup, 1) := by decide +kernel
theorem dX6_init_28 : decode cX6_init 28 = .ok (.invokespecial 24, 3) := by decide +kernel
theorem dX6_init_31 : decode cX6_init 31 = .ok (.putfield 25, 3) := by decide +kernel
theorem dX6_init_34 : decode cX6_init 34 = .ok (.aload_n 0, 1) := by decide +kernel
theorem dX6_init_35 : decode cX6_init 35 = .ok (.new 29, 3) := by decide +kernel
theorem dX6_init_38 : decode cX6_init 38 = .ok (.dup, 1) := by decide +kernel
theorem dX6_init_39 : decode cX6_init 39 = .ok (.invokespecial 31, 3) := by decide +kernel
theorem dX6_init_42 : decode cX6_init 42 = .ok (.putfield 32, 3) := by decide +kernel
theorem dX6_init_45 : decode cX6_init 45 = .ok (.aload_n 0, 1) := by decide +kernel
theorem dX6_init_46 : decode cX6_init 46 = .ok (.iconst 0, 1) := by decide +kernel
theorem dX6_init_47 : decode cX6_init 47 = .ok (.putfield 36, 3) := by decide +kernel
theorem dX6_init_50 : decode cX6_init 50 = .ok (.aload_n 0, 1) := by decide +kernel
