theorem dX6_init_51 : decode cX6_init 51 = .ok (.iconst 0, 1) := by decide +kernel
theorem dX6_init_52 : decode cX6_init 52 = .ok (.putfield 40, 3) := by decide +kernel
theorem dX6_init_55 : decode cX6_init 55 = .ok (.return_, 1) := by decide +kernel
theorem dX6_startAnew_0 : decode cX6_startAnew 0 = .ok (.aload_n 0, 1) := by decide +kernel
theorem dX6_startAnew_1 : decode cX6_startAnew 1 = .ok (.getfield 25, 3) := by decide +kernel
theorem dX6_startAnew_4 : decode cX6_startAnew 4 = .ok (.invokevirtual 44, 3) := by decide +kernel
theorem dX6_startAnew_7 : decode cX6_startAnew 7 = .ok (.aload_n 0, 1) := by decide +kernel
theorem dX6_startAnew_8 : decode cX6_startAnew 8 = .ok (.iconst 0, 1) := by decide +kernel
theorem dX6_startAnew_9 : decode cX6_startAnew 9 = .ok (.putfield 36, 3) := by decide +kernel
theorem dX6_startAnew_12 : decode cX6_startAnew 12 = .ok (.aload_n 0, 1) := by decide +kernel
theorem dX6_startAnew_13 : decode cX6_startAnew 13 = .ok (.iconst 0, 1) := by decide +kernel
theorem dX6_startAnew_14 : decode cX6_startAnew 14 = .ok (.putfield 40, 3) := by decide +kernel
theorem dX6_startAnew_17 : decode cX6_startAnew 17 = .ok (.return_, 1) := by decide +kernel
theorem dX6_keepRun_0 : decode cX6_keepRun 0 = .ok (.aload_n 1, 1) := by decide +kernel
theorem dX6_keepRun_1 : decode cX6_keepRun 1 = .ok (.getfield 47, 3) := by decide +kernel
theorem dX6_keepRun_4 : decode cX6_keepRun 4 = .ok (.aload_n 0, 1) := by decide +kernel
theorem dX6_keepRun_5 : decode cX6_keepRun 5 = .ok (.getfield 18, 3) := by decide +kernel
theorem dX6_keepRun_8 : decode cX6_keepRun 8 = .ok (.invokestatic 50, 3) := by decide +kernel
theorem dX6_keepRun_11 : decode cX6_keepRun 11 = .ok (.aload_n 0, 1) := by decide +kernel
theorem dX6_keepRun_12 : decode cX6_keepRun 12 = .ok (.getfield 25, 3) := by decide +kernel
theorem dX6_keepRun_15 : decode cX6_keepRun 15 = .ok (.aload_n 1, 1) := by decide +kernel
theorem dX6_keepRun_16 : decode cX6_keepRun 16 = .ok (.getfield 54, 3) := by decide +kernel
theorem dX6_keepRun_19 : decode cX6_keepRun 19 = .ok (.invokevirtual 55, 3) := by decide +kernel
theorem dX6_keepRun_22 : decode cX6_keepRun 22 = .ok (.aload_n 0, 1) := by decide +kernel
theorem dX6_keepRun_23 : decode cX6_keepRun 23 = .ok (.getfield 32, 3) := by decide +kernel
theorem dX6_keepRun_26 : decode cX6_keepRun 26 = .ok (.aload_n 2, 1) := by decide +kernel
theorem dX6_keepRun_27 : decode cX6_keepRun 27 = .ok (.invokevirtual 59, 3) := by decide +kernel
theorem dX6_keepRun_30 : decode cX6_keepRun 30 = .ok (.aload_n 0, 1) := by decide +kernel
theorem dX6_keepRun_31 : decode cX6_keepRun 31 = .ok (.iconst 1, 1) := by decide +kernel
theorem dX6_keepRun_32 : decode cX6_keepRun 32 = .ok (.putfield 36, 3) := by decide +kernel
theorem dX6_keepRun_35 : decode cX6_keepRun 35 = .ok (.aload_n 0, 1) := by decide +kernel
theorem dX6_keepRun_36 : decode cX6_keepRun 36 = .ok (.aload_n 0, 1) := by decide +kernel
theorem dX6_keepRun_37 : decode cX6_keepRun 37 = .ok (.getfield 40, 3) := by decide +kernel
theorem dX6_keepRun_40 : decode cX6_keepRun 40 = .ok (.iconst 1, 1) := by decide +kernel
theorem dX6_keepRun_41 : decode cX6_keepRun 41 = .ok (.iadd, 1) := by decide +kernel
theorem dX6_keepRun_42 : decode cX6_keepRun 42 = .ok (.bipush 99, 2) := by decide +kernel
theorem dX6_keepRun_44 : decode cX6_keepRun 44 = .ok (.invokestatic 62, 3) := by decide +kernel
theorem dX6_keepRun_47 : decode cX6_keepRun 47 = .ok (.putfield 40, 3) := by decide +kernel
theorem dX6_keepRun_50 : decode cX6_keepRun 50 = .ok (.return_, 1) := by decide +kernel
theorem dX6_copyFrom_0 : decode cX6_copyFrom 0 = .ok (.aload_n 0, 1) := by decide +kernel
theorem dX6_copyFrom_1 : decode cX6_copyFrom 1 = .ok (.getfield 12, 3) := by decide +kernel
theorem dX6_copyFrom_4 : decode cX6_copyFrom 4 = .ok (.aload_n 1, 1) := by decide +kernel
theorem dX6_copyFrom_5 : decode cX6_copyFrom 5 = .ok (.getfield 12, 3) := by decide +kernel
theorem dX6_copyFrom_8 : decode cX6_copyFrom 8 = .ok (.invokevirtual 68, 3) := by decide +kernel
theorem dX6_copyFrom_11 : decode cX6_copyFrom 11 = .ok (.aload_n 1, 1) := by decide +kernel
theorem dX6_copyFrom_12 : decode cX6_copyFrom 12 = .ok (.getfield 18, 3) := by decide +kernel
theorem dX6_copyFrom_15 : decode cX6_copyFrom 15 = .ok (.aload_n 0, 1) := by decide +kernel
theorem dX6_copyFrom_16 : decode cX6_copyFrom 16 = .ok (.getfield 18, 3) := by decide +kernel
theorem dX6_copyFrom_19 : decode cX6_copyFrom 19 = .ok (.invokestatic 50, 3) := by decide +kernel
theorem dX6_copyFrom_22 : decode cX6_copyFrom 22 = .ok (.aload_n 0, 1) := by decide +kernel
theorem dX6_copyFrom_23 : decode cX6_copyFrom 23 = .ok (.getfield 25, 3) := by decide +kernel
theorem dX6_copyFrom_26 : decode cX6_copyFrom 26 = .ok (.aload_n 1, 1) := by decide +kernel
theorem dX6_copyFrom_27 : decode cX6_copyFrom 27 = .ok (.getfield 25, 3) := by decide +kernel
theorem dX6_copyFrom_30 : decode cX6_copyFrom 30 = .ok (.invokevirtual 55, 3) := by decide +kernel
theorem dX6_copyFrom_33 : decode cX6_copyFrom 33 = .ok (.aload_n 0, 1) := by decide +kernel
theorem dX6_copyFrom_34 : decode cX6_copyFrom 34 = .ok (.getfield 32, 3) := by decide +kernel
theorem dX6_copyFrom_37 : decode cX6_copyFrom 37 = .ok (.aload_n 1, 1) := by decide +kernel
theorem dX6_copyFrom_38 : decode cX6_copyFrom 38 = .ok (.getfield 32, 3) := by decide +kernel
theorem dX6_copyFrom_41 : decode cX6_copyFrom 41 = .ok (.invokevirtual 59, 3) := by decide +kernel
theorem dX6_copyFrom_44 : decode cX6_copyFrom 44 = .ok (.aload_n 0, 1) := by decide +kernel
theorem dX6_copyFrom_45 : decode cX6_copyFrom 45 = .ok (.aload_n 1, 1) := by decide +kernel
theorem dX6_copyFrom_46 : decode cX6_copyFrom 46 = .ok (.getfield 36, 3) := by decide +kernel
theorem dX6_copyFrom_49 : decode cX6_copyFrom 49 = .ok (.putfield 36, 3) := by decide +kernel
theorem dX6_copyFrom_52 : decode cX6_copyFrom 52 = .ok (.aload_n 0, 1) := by decide +kernel
theorem dX6_copyFrom_53 : decode cX6_copyFrom 53 = .ok (.aload_n 1, 1) := by decide +kernel
theorem dX6_copyFrom_54 : decode cX6_copyFrom 54 = .ok (.getfield 40, 3) := by decide +kernel
theorem dX6_copyFrom_57 : decode cX6_copyFrom 57 = .ok (.putfield 40, 3) := by decide +kernel
theorem dX6_copyFrom_60 : decode cX6_copyFrom 60 = .ok (.return_, 1) := by decide +kernel
theorem dX7_init_0 : decode cX7_init 0 = .ok (.aload_n 0, 1) := by decide +kernel
theorem dX7_init_1 : decode cX7_init 1 = .ok (.invokespecial 3, 3) := by decide +kernel
theorem dX7_init_4 : decode cX7_init 4 = .ok (.aload_n 0, 1) := by decide +kernel
theorem dX7_init_5 : decode cX7_init 5 = .ok (.sipush 400, 3) := by decide +kernel
theorem dX7_init_8 : decode cX7_init 8 = .ok (.newarray .int, 2) := by decide +kernel
theorem dX7_init_10 : decode cX7_init 10 = .ok (.putfield 9, 3) := by decide +kernel
theorem dX7_init_13 : decode cX7_init 13 = .ok (.aload_n 0, 1) := by decide +kernel
theorem dX7_init_14 : decode cX7_init 14 = .ok (.sipush 400, 3) := by decide +kernel
theorem dX7_init_17 : decode cX7_init 17 = .ok (.newarray .int, 2) := by decide +kernel
theorem dX7_init_19 : decode cX7_init 19 = .ok (.putfield 15, 3) := by decide +kernel
theorem dX7_init_22 : decode cX7_init 22 = .ok (.aload_n 0, 1) := by decide +kernel
theorem dX7_init_23 : decode cX7_init 23 = .ok (.sipush 400, 3) := by decide +kernel
theorem dX7_init_26 : decode cX7_init 26 = .ok (.newarray .int, 2) := by decide +kernel
theorem dX7_init_28 : decode cX7_init 28 = .ok (.putfield 18, 3) := by decide +kernel
theorem dX7_init_31 : decode cX7_init 31 = .ok (.aload_n 0, 1) := by decide +kernel
theorem dX7_init_32 : decode cX7_init 32 = .ok (.iconst 0, 1) := by decide +kernel
theorem dX7_init_33 : decode cX7_init 33 = .ok (.putfield 21, 3) := by decide +kernel
theorem dX7_init_36 : decode cX7_init 36 = .ok (.return_, 1) := by decide +kernel
theorem dX7_forget_0 : decode cX7_forget 0 = .ok (.aload_n 0, 1) := by decide +kernel
theorem dX7_forget_1 : decode cX7_forget 1 = .ok (.iconst 0, 1) := by decide +kernel
theorem dX7_forget_2 : decode cX7_forget 2 = .ok (.putfield 21, 3) := by decide +kernel
theorem dX7_forget_5 : decode cX7_forget 5 = .ok (.return_, 1) := by decide +kernel
theorem dX7_add_0 : decode cX7_add 0 = .ok (.aload_n 0, 1) := by decide +kernel
theorem dX7_add_1 : decode cX7_add 1 = .ok (.getfield 9, 3) := by decide +kernel
theorem dX7_add_4 : decode cX7_add 4 = .ok (.aload_n 0, 1) := by decide +kernel
theorem dX7_add_5 : decode cX7_add 5 = .ok (.getfield 21, 3) := by decide +kernel
theorem dX7_add_8 : decode cX7_add 8 = .ok (.iload_n 1, 1) := by decide +kernel
theorem dX7_add_9 : decode cX7_add 9 = .ok (.invokestatic 25, 3) := by decide +kernel
theorem dX7_add_12 : decode cX7_add 12 = .ok (.aload_n 0, 1) := by decide +kernel
theorem dX7_add_13 : decode cX7_add 13 = .ok (.getfield 15, 3) := by decide +kernel
theorem dX7_add_16 : decode cX7_add 16 = .ok (.aload_n 0, 1) := by decide +kernel
theorem dX7_add_17 : decode cX7_add 17 = .ok (.getfield 21, 3) := by decide +kernel
theorem dX7_add_20 : decode cX7_add 20 = .ok (.iload_n 2, 1) := by decide +kernel
theorem dX7_add_21 : decode cX7_add 21 = .ok (.invokestatic 25, 3) := by decide +kernel
theorem dX7_add_24 : decode cX7_add 24 = .ok (.aload_n 0, 1) := by decide +kernel
theorem dX7_add_25 : decode cX7_add 25 = .ok (.getfield 18, 3) := by decide +kernel
theorem dX7_add_28 : decode cX7_add 28 = .ok (.aload_n 0, 1) := by decide +kernel
theorem dX7_add_29 : decode cX7_add 29 = .ok (.getfield 21, 3) := by decide +kernel
theorem dX7_add_32 : decode cX7_add 32 = .ok (.iload_n 3, 1) := by decide +kernel
theorem dX7_add_33 : decode cX7_add 33 = .ok (.invokestatic 25, 3) := by decide +kernel
theorem dX7_add_36 : decode cX7_add 36 = .ok (.aload_n 0, 1) := by decide +kernel
theorem dX7_add_37 : decode cX7_add 37 = .ok (.dup, 1) := by decide +kernel
theorem dX7_add_38 : decode cX7_add 38 = .ok (.getfield 21, 3) := by decide +kernel
theorem dX7_add_41 : decode cX7_add 41 = .ok (.iconst 1, 1) := by decide +kernel
theorem dX7_add_42 : decode cX7_add 42 = .ok (.iadd, 1) := by decide +kernel
theorem dX7_add_43 : decode cX7_add 43 = .ok (.putfield 21, 3) := by decide +kernel
theorem dX7_add_46 : decode cX7_add 46 = .ok (.sipush 10000, 3) := by decide +kernel
theorem dX7_add_49 : decode cX7_add 49 = .ok (.aload_n 0, 1) := by decide +kernel
theorem dX7_add_50 : decode cX7_add 50 = .ok (.getfield 21, 3) := by decide +kernel
theorem dX7_add_53 : decode cX7_add 53 = .ok (.iadd, 1) := by decide +kernel
theorem dX7_add_54 : decode cX7_add 54 = .ok (.iconst 1, 1) := by decide +kernel
theorem dX7_add_55 : decode cX7_add 55 = .ok (.isub, 1) := by decide +kernel
theorem dX7_add_56 : decode cX7_add 56 = .ok (.ireturn, 1) := by decide +kernel
theorem dX7_isNumber_0 : decode cX7_isNumber 0 = .ok (.iload_n 0, 1) := by decide +kernel
theorem dX7_isNumber_1 : decode cX7_isNumber 1 = .ok (.sipush 10000, 3) := by decide +kernel
theorem dX7_isNumber_4 : decode cX7_isNumber 4 = .ok (.if_icmp .ge 7, 3) := by decide +kernel
theorem dX7_isNumber_7 : decode cX7_isNumber 7 = .ok (.iconst 1, 1) := by decide +kernel
theorem dX7_isNumber_8 : decode cX7_isNumber 8 = .ok (.goto 4, 3) := by decide +kernel
theorem dX7_isNumber_11 : decode cX7_isNumber 11 = .ok (.iconst 0, 1) := by decide +kernel
theorem dX7_isNumber_12 : decode cX7_isNumber 12 = .ok (.ireturn, 1) := by decide +kernel
theorem dX7_isFunction_0 : decode cX7_isFunction 0 = .ok (.aload_n 0, 1) := by decide +kernel
theorem dX7_isFunction_1 : decode cX7_isFunction 1 = .ok (.iload_n 1, 1) := by decide +kernel
theorem dX7_isFunction_2 : decode cX7_isFunction 2 = .ok (.invokevirtual 29, 3) := by decide +kernel
theorem dX7_isFunction_5 : decode cX7_isFunction 5 = .ok (.iconst 4, 1) := by decide +kernel
theorem dX7_isFunction_6 : decode cX7_isFunction 6 = .ok (.if_icmp .ne 7, 3) := by decide +kernel
theorem dX7_isFunction_9 : decode cX7_isFunction 9 = .ok (.iconst 1, 1) := by decide +kernel
theorem dX7_isFunction_10 : decode cX7_isFunction 10 = .ok (.goto 4, 3) := by decide +kernel
theorem dX7_isFunction_13 : decode cX7_isFunction 13 = .ok (.iconst 0, 1) := by decide +kernel
theorem dX7_isFunction_14 : decode cX7_isFunction 14 = .ok (.ireturn, 1) := by decide +kernel
theorem dX7_hasField_0 : decode cX7_hasField 0 = .ok (.aload_n 0, 1) := by decide +kernel
theorem dX7_hasField_1 : decode cX7_hasField 1 = .ok (.iload_n 1, 1) := by decide +kernel
theorem dX7_hasField_2 : decode cX7_hasField 2 = .ok (.invokevirtual 29, 3) := by decide +kernel
theorem dX7_hasField_5 : decode cX7_hasField 5 = .ok (.istore_n 3, 1) := by decide +kernel
theorem dX7_hasField_6 : decode cX7_hasField 6 = .ok (.iload_n 3, 1) := by decide +kernel
theorem dX7_hasField_7 : decode cX7_hasField 7 = .ok (.iconst 3, 1) := by decide +kernel
theorem dX7_hasField_8 : decode cX7_hasField 8 = .ok (.if_icmp .gt 22, 3) := by decide +kernel
theorem dX7_hasField_11 : decode cX7_hasField 11 = .ok (.iload_n 3, 1) := by decide +kernel
theorem dX7_hasField_12 : decode cX7_hasField 12 = .ok (.iload_n 2, 1) := by decide +kernel
theorem dX7_hasField_13 : decode cX7_hasField 13 = .ok (.bipush 112, 2) := by decide +kernel
theorem dX7_hasField_15 : decode cX7_hasField 15 = .ok (.if_icmp .ne 7, 3) := by decide +kernel
theorem dX7_hasField_18 : decode cX7_hasField 18 = .ok (.iconst 1, 1) := by decide +kernel
theorem dX7_hasField_19 : decode cX7_hasField 19 = .ok (.goto 4, 3) := by decide +kernel
theorem dX7_hasField_22 : decode cX7_hasField 22 = .ok (.iconst 0, 1) := by decide +kernel
theorem dX7_hasField_23 : decode cX7_hasField 23 = .ok (.if_icmp .eq 7, 3) := by decide +kernel
theorem dX7_hasField_26 : decode cX7_hasField 26 = .ok (.iconst 1, 1) := by decide +kernel
theorem dX7_hasField_27 : decode cX7_hasField 27 = .ok (.goto 4, 3) := by decide +kernel
theorem dX7_hasField_30 : decode cX7_hasField 30 = .ok (.iconst 0, 1) := by decide +kernel
theorem dX7_hasField_31 : decode cX7_hasField 31 = .ok (.ireturn, 1) := by decide +kernel
theorem dX7_kindOf_0 : decode cX7_kindOf 0 = .ok (.iload_n 1, 1) := by decide +kernel
theorem dX7_kindOf_1 : decode cX7_kindOf 1 = .ok (.sipush 10000, 3) := by decide +kernel
theorem dX7_kindOf_4 : decode cX7_kindOf 4 = .ok (.isub, 1) := by decide +kernel
theorem dX7_kindOf_5 : decode cX7_kindOf 5 = .ok (.istore_n 2, 1) := by decide +kernel
theorem dX7_kindOf_6 : decode cX7_kindOf 6 = .ok (.iload_n 2, 1) := by decide +kernel
theorem dX7_kindOf_7 : decode cX7_kindOf 7 = .ok (.ifCond .lt 21, 3) := by decide +kernel
theorem dX7_kindOf_10 : decode cX7_kindOf 10 = .ok (.iload_n 2, 1) := by decide +kernel
theorem dX7_kindOf_11 : decode cX7_kindOf 11 = .ok (.aload_n 0, 1) := by decide +kernel
theorem dX7_kindOf_12 : decode cX7_kindOf 12 = .ok (.getfield 9, 3) := by decide +kernel
theorem dX7_kindOf_15 : decode cX7_kindOf 15 = .ok (.arraylength, 1) := by decide +kernel
theorem dX7_kindOf_16 : decode cX7_kindOf 16 = .ok (.if_icmp .ge 12, 3) := by decide +kernel
theorem dX7_kindOf_19 : decode cX7_kindOf 19 = .ok (.aload_n 0, 1) := by decide +kernel
theorem dX7_kindOf_20 : decode cX7_kindOf 20 = .ok (.getfield 9, 3) := by decide +kernel
theorem dX7_kindOf_23 : decode cX7_kindOf 23 = .ok (.iload_n 2, 1) := by decide +kernel
theorem dX7_kindOf_24 : decode cX7_kindOf 24 = .ok (.iaload, 1) := by decide +kernel
theorem dX7_kindOf_25 : decode cX7_kindOf 25 = .ok (.goto 4, 3) := by decide +kernel
theorem dX7_kindOf_28 : decode cX7_kindOf 28 = .ok (.iconst 5, 1) := by decide +kernel
theorem dX7_kindOf_29 : decode cX7_kindOf 29 = .ok (.ireturn, 1) := by decide +kernel
theorem dX7_fieldOf_0 : decode cX7_fieldOf 0 = .ok (.iload_n 2, 1) := by decide +kernel
theorem dX7_fieldOf_1 : decode cX7_fieldOf 1 = .ok (.bipush 112, 2) := by decide +kernel
theorem dX7_fieldOf_3 : decode cX7_fieldOf 3 = .ok (.if_icmp .ne 10, 3) := by decide +kernel
theorem dX7_fieldOf_6 : decode cX7_fieldOf 6 = .ok (.aload_n 0, 1) := by decide +kernel
theorem dX7_fieldOf_7 : decode cX7_fieldOf 7 = .ok (.getfield 15, 3) := by decide +kernel
theorem dX7_fieldOf_10 : decode cX7_fieldOf 10 = .ok (.goto 7, 3) := by decide +kernel
theorem dX7_fieldOf_13 : decode cX7_fieldOf 13 = .ok (.aload_n 0, 1) := by decide +kernel
theorem dX7_fieldOf_14 : decode cX7_fieldOf 14 = .ok (.getfield 18, 3) := by decide +kernel
theorem dX7_fieldOf_17 : decode cX7_fieldOf 17 = .ok (.iload_n 1, 1) := by decide +kernel
theorem dX7_fieldOf_18 : decode cX7_fieldOf 18 = .ok (.sipush 10000, 3) := by decide +kernel
theorem dX7_fieldOf_21 : decode cX7_fieldOf 21 = .ok (.isub, 1) := by decide +kernel
theorem dX7_fieldOf_22 : decode cX7_fieldOf 22 = .ok (.invokestatic 33, 3) := by decide +kernel
theorem dX7_fieldOf_25 : decode cX7_fieldOf 25 = .ok (.ireturn, 1) := by decide +kernel
theorem dX7_expressionOf_0 : decode cX7_expressionOf 0 = .ok (.aload_n 0, 1) := by decide +kernel
theorem dX7_expressionOf_1 : decode cX7_expressionOf 1 = .ok (.getfield 15, 3) := by decide +kernel
theorem dX7_expressionOf_4 : decode cX7_expressionOf 4 = .ok (.iload_n 1, 1) := by decide +kernel
theorem dX7_expressionOf_5 : decode cX7_expressionOf 5 = .ok (.sipush 10000, 3) := by decide +kernel
theorem dX7_expressionOf_8 : decode cX7_expressionOf 8 = .ok (.isub, 1) := by decide +kernel
theorem dX7_expressionOf_9 : decode cX7_expressionOf 9 = .ok (.invokestatic 33, 3) := by decide +kernel
theorem dX7_expressionOf_12 : decode cX7_expressionOf 12 = .ok (.ireturn, 1) := by decide +kernel
theorem dX7_frameOf_0 : decode cX7_frameOf 0 = .ok (.aload_n 0, 1) := by decide +kernel
theorem dX7_frameOf_1 : decode cX7_frameOf 1 = .ok (.getfield 18, 3) := by decide +kernel
theorem dX7_frameOf_4 : decode cX7_frameOf 4 = .ok (.iload_n 1, 1) := by decide +kernel
theorem dX7_frameOf_5 : decode cX7_frameOf 5 = .ok (.sipush 10000, 3) := by decide +kernel
theorem dX7_frameOf_8 : decode cX7_frameOf 8 = .ok (.isub, 1) := by decide +kernel
theorem dX7_frameOf_9 : decode cX7_frameOf 9 = .ok (.invokestatic 33, 3) := by decide +kernel
theorem dX7_frameOf_12 : decode cX7_frameOf 12 = .ok (.ireturn, 1) := by decide +kernel
theorem dX8_init_0 : decode cX8_init 0 = .ok (.aload_n 0, 1) := by decide +kernel
theorem dX8_init_1 : decode cX8_init 1 = .ok (.invokespecial 3, 3) := by decide +kernel
theorem dX8_init_4 : decode cX8_init 4 = .ok (.aload_n 0, 1) := by decide +kernel
theorem dX8_init_5 : decode cX8_init 5 = .ok (.sipush 400, 3) := by decide +kernel
theorem dX8_init_8 : decode cX8_init 8 = .ok (.newarray .int, 2) := by decide +kernel
theorem dX8_init_10 : decode cX8_init 10 = .ok (.putfield 9, 3) := by decide +kernel
theorem dX8_init_13 : decode cX8_init 13 = .ok (.aload_n 0, 1) := by decide +kernel
theorem dX8_init_14 : decode cX8_init 14 = .ok (.sipush 400, 3) := by decide +kernel
theorem dX8_init_17 : decode cX8_init 17 = .ok (.newarray .int, 2) := by decide +kernel
theorem dX8_init_19 : decode cX8_init 19 = .ok (.putfield 15, 3) := by decide +kernel
theorem dX8_init_22 : decode cX8_init 22 = .ok (.aload_n 0, 1) := by decide +kernel
theorem dX8_init_23 : decode cX8_init 23 = .ok (.sipush 400, 3) := by decide +kernel
theorem dX8_init_26 : decode cX8_init 26 = .ok (.newarray .int, 2) := by decide +kernel
theorem dX8_init_28 : decode cX8_init 28 = .ok (.putfield 18, 3) := by decide +kernel
theorem dX8_init_31 : decode cX8_init 31 = .ok (.aload_n 0, 1) := by decide +kernel
theorem dX8_init_32 : decode cX8_init 32 = .ok (.sipush 400, 3) := by decide +kernel
theorem dX8_init_35 : decode cX8_init 35 = .ok (.newarray .int, 2) := by decide +kernel
theorem dX8_init_37 : decode cX8_init 37 = .ok (.putfield 21, 3) := by decide +kernel
theorem dX8_init_40 : decode cX8_init 40 = .ok (.aload_n 0, 1) := by decide +kernel
theorem dX8_init_41 : decode cX8_init 41 = .ok (.iconst 0, 1) := by decide +kernel
theorem dX8_init_42 : decode cX8_init 42 = .ok (.putfield 24, 3) := by decide +kernel
theorem dX8_init_45 : decode cX8_init 45 = .ok (.return_, 1) := by decide +kernel
theorem dX8_forget_0 : decode cX8_forget 0 = .ok (.aload_n 0, 1) := by decide +kernel
theorem dX8_forget_1 : decode cX8_forget 1 = .ok (.iconst 0, 1) := by decide +kernel
theorem dX8_forget_2 : decode cX8_forget 2 = .ok (.putfield 24, 3) := by decide +kernel
theorem dX8_forget_5 : decode cX8_forget 5 = .ok (.return_, 1) := by decide +kernel
theorem dX8_isEmpty_0 : decode cX8_isEmpty 0 = .ok (.aload_n 0, 1) := by decide +kernel
theorem dX8_isEmpty_1 : decode cX8_isEmpty 1 = .ok (.getfield 24, 3) := by decide +kernel
theorem dX8_isEmpty_4 : decode cX8_isEmpty 4 = .ok (.ifCond .gt 7, 3) := by decide +kernel
theorem dX8_isEmpty_7 : decode cX8_isEmpty 7 = .ok (.iconst 1, 1) := by decide +kernel
theorem dX8_isEmpty_8 : decode cX8_isEmpty 8 = .ok (.goto 4, 3) := by decide +kernel
theorem dX8_isEmpty_11 : decode cX8_isEmpty 11 = .ok (.iconst 0, 1) := by decide +kernel
theorem dX8_isEmpty_12 : decode cX8_isEmpty 12 = .ok (.ireturn, 1) := by decide +kernel
theorem dX8_push_0 : decode cX8_push 0 = .ok (.aload_n 0, 1) := by decide +kernel
theorem dX8_push_1 : decode cX8_push 1 = .ok (.getfield 9, 3) := by decide +kernel
theorem dX8_push_4 : decode cX8_push 4 = .ok (.aload_n 0, 1) := by decide +kernel
theorem dX8_push_5 : decode cX8_push 5 = .ok (.getfield 24, 3) := by decide +kernel
theorem dX8_push_8 : decode cX8_push 8 = .ok (.iload_n 1, 1) := by decide +kernel
theorem dX8_push_9 : decode cX8_push 9 = .ok (.invokestatic 28, 3) := by decide +kernel
theorem dX8_push_12 : decode cX8_push 12 = .ok (.aload_n 0, 1) := by decide +kernel
theorem dX8_push_13 : decode cX8_push 13 = .ok (.getfield 15, 3) := by decide +kernel
theorem dX8_push_16 : decode cX8_push 16 = .ok (.aload_n 0, 1) := by decide +kernel
theorem dX8_push_17 : decode cX8_push 17 = .ok (.getfield 24, 3) := by decide +kernel
theorem dX8_push_20 : decode cX8_push 20 = .ok (.iload_n 2, 1) := by decide +kernel
theorem dX8_push_21 : decode cX8_push 21 = .ok (.invokestatic 28, 3) := by decide +kernel
theorem dX8_push_24 : decode cX8_push 24 = .ok (.aload_n 0, 1) := by decide +kernel
theorem dX8_push_25 : decode cX8_push 25 = .ok (.getfield 18, 3) := by decide +kernel
theorem dX8_push_28 : decode cX8_push 28 = .ok (.aload_n 0, 1) := by decide +kernel
theorem dX8_push_29 : decode cX8_push 29 = .ok (.getfield 24, 3) := by decide +kernel
theorem dX8_push_32 : decode cX8_push 32 = .ok (.iload_n 3, 1) := by decide +kernel
theorem dX8_push_33 : decode cX8_push 33 = .ok (.invokestatic 28, 3) := by decide +kernel
theorem dX8_push_36 : decode cX8_push 36 = .ok (.aload_n 0, 1) := by decide +kernel
theorem dX8_push_37 : decode cX8_push 37 = .ok (.getfield 21, 3) := by decide +kernel
theorem dX8_push_40 : decode cX8_push 40 = .ok (.aload_n 0, 1) := by decide +kernel
theorem dX8_push_41 : decode cX8_push 41 = .ok (.getfield 24, 3) := by decide +kernel
theorem dX8_push_44 : decode cX8_push 44 = .ok (.iload 4, 2) := by decide +kernel
theorem dX8_push_46 : decode cX8_push 46 = .ok (.invokestatic 28, 3) := by decide +kernel
theorem dX8_push_49 : decode cX8_push 49 = .ok (.aload_n 0, 1) := by decide +kernel
theorem dX8_push_50 : decode cX8_push 50 = .ok (.dup, 1) := by decide +kernel
theorem dX8_push_51 : decode cX8_push 51 = .ok (.getfield 24, 3) := by decide +kernel
theorem dX8_push_54 : decode cX8_push 54 = .ok (.iconst 1, 1) := by decide +kernel
theorem dX8_push_55 : decode cX8_push 55 = .ok (.iadd, 1) := by decide +kernel
theorem dX8_push_56 : decode cX8_push 56 = .ok (.putfield 24, 3) := by decide +kernel
theorem dX8_push_59 : decode cX8_push 59 = .ok (.return_, 1) := by decide +kernel
theorem dX8_pop_0 : decode cX8_pop 0 = .ok (.aload_n 0, 1) := by decide +kernel
theorem dX8_pop_1 : decode cX8_pop 1 = .ok (.dup, 1) := by decide +kernel
theorem dX8_pop_2 : decode cX8_pop 2 = .ok (.getfield 24, 3) := by decide +kernel
theorem dX8_pop_5 : decode cX8_pop 5 = .ok (.iconst 1, 1) := by decide +kernel
theorem dX8_pop_6 : decode cX8_pop 6 = .ok (.isub, 1) := by decide +kernel
theorem dX8_pop_7 : decode cX8_pop 7 = .ok (.putfield 24, 3) := by decide +kernel
theorem dX8_pop_10 : decode cX8_pop 10 = .ok (.return_, 1) := by decide +kernel
theorem dX8_expression_0 : decode cX8_expression 0 = .ok (.aload_n 0, 1) := by decide +kernel
theorem dX8_expression_1 : decode cX8_expression 1 = .ok (.getfield 9, 3) := by decide +kernel
theorem dX8_expression_4 : decode cX8_expression 4 = .ok (.aload_n 0, 1) := by decide +kernel
theorem dX8_expression_5 : decode cX8_expression 5 = .ok (.getfield 24, 3) := by decide +kernel
theorem dX8_expression_8 : decode cX8_expression 8 = .ok (.invokestatic 32, 3) := by decide +kernel
theorem dX8_expression_11 : decode cX8_expression 11 = .ok (.ireturn, 1) := by decide +kernel
theorem dX8_frame_0 : decode cX8_frame 0 = .ok (.aload_n 0, 1) := by decide +kernel
theorem dX8_frame_1 : decode cX8_frame 1 = .ok (.getfield 15, 3) := by decide +kernel
theorem dX8_frame_4 : decode cX8_frame 4 = .ok (.aload_n 0, 1) := by decide +kernel
theorem dX8_frame_5 : decode cX8_frame 5 = .ok (.getfield 24, 3) := by decide +kernel
theorem dX8_frame_8 : decode cX8_frame 8 = .ok (.invokestatic 32, 3) := by decide +kernel
theorem dX8_frame_11 : decode cX8_frame 11 = .ok (.ireturn, 1) := by decide +kernel
theorem dX8_stage_0 : decode cX8_stage 0 = .ok (.aload_n 0, 1) := by decide +kernel
theorem dX8_stage_1 : decode cX8_stage 1 = .ok (.getfield 18, 3) := by decide +kernel
theorem dX8_stage_4 : decode cX8_stage 4 = .ok (.aload_n 0, 1) := by decide +kernel
theorem dX8_stage_5 : decode cX8_stage 5 = .ok (.getfield 24, 3) := by decide +kernel
theorem dX8_stage_8 : decode cX8_stage 8 = .ok (.invokestatic 32, 3) := by decide +kernel
theorem dX8_stage_11 : decode cX8_stage 11 = .ok (.ireturn, 1) := by decide +kernel
theorem dX8_first_0 : decode cX8_first 0 = .ok (.aload_n 0, 1) := by decide +kernel
theorem dX8_first_1 : decode cX8_first 1 = .ok (.getfield 21, 3) := by decide +kernel
theorem dX8_first_4 : decode cX8_first 4 = .ok (.aload_n 0, 1) := by decide +kernel
theorem dX8_first_5 : decode cX8_first 5 = .ok (.getfield 24, 3) := by decide +kernel
theorem dX8_first_8 : decode cX8_first 8 = .ok (.invokestatic 32, 3) := by decide +kernel
theorem dX8_first_11 : decode cX8_first 11 = .ok (.ireturn, 1) := by decide +kernel
theorem dX9_init_0 : decode cX9_init 0 = .ok (.aload_n 0, 1) := by decide +kernel
theorem dX9_init_1 : decode cX9_init 1 = .ok (.invokespecial 1, 3) := by decide +kernel
theorem dX9_init_4 : decode cX9_init 4 = .ok (.aload_n 0, 1) := by decide +kernel
theorem dX9_init_5 : decode cX9_init 5 = .ok (.new 7, 3) := by decide +kernel
theorem dX9_init_8 : decode cX9_init 8 = .ok (.dup, 1) := by decide +kernel
theorem dX9_init_9 : decode cX9_init 9 = .ok (.invokespecial 9, 3) := by decide +kernel
theorem dX9_init_12 : decode cX9_init 12 = .ok (.putfield 10, 3) := by decide +kernel
theorem dX9_init_15 : decode cX9_init 15 = .ok (.aload_n 0, 1) := by decide +kernel
theorem dX9_init_16 : decode cX9_init 16 = .ok (.new 7, 3) := by decide +kernel
theorem dX9_init_19 : decode cX9_init 19 = .ok (.dup, 1) := by decide +kernel
theorem dX9_init_20 : decode cX9_init 20 = .ok (.invokespecial 9, 3) := by decide +kernel
theorem dX9_init_23 : decode cX9_init 23 = .ok (.putfield 16, 3) := by decide +kernel
theorem dX9_init_26 : decode cX9_init 26 = .ok (.aload_n 0, 1) := by decide +kernel
theorem dX9_init_27 : decode cX9_init 27 = .ok (.new 19, 3) := by decide +kernel
theorem dX9_init_30 : decode cX9_init 30 = .ok (.dup, 1) := by decide +kernel
theorem dX9_init_31 : decode cX9_init 31 = .ok (.invokespecial 21, 3) := by decide +kernel
theorem dX9_init_34 : decode cX9_init 34 = .ok (.putfield 22, 3) := by decide +kernel
theorem dX9_init_37 : decode cX9_init 37 = .ok (.aload_n 0, 1) := by decide +kernel
theorem dX9_init_38 : decode cX9_init 38 = .ok (.new 26, 3) := by decide +kernel
theorem dX9_init_41 : decode cX9_init 41 = .ok (.dup, 1) := by decide +kernel
theorem dX9_init_42 : decode cX9_init 42 = .ok (.invokespecial 28, 3) := by decide +kernel
theorem dX9_init_45 : decode cX9_init 45 = .ok (.putfield 29, 3) := by decide +kernel
theorem dX9_init_48 : decode cX9_init 48 = .ok (.aload_n 0, 1) := by decide +kernel
theorem dX9_init_49 : decode cX9_init 49 = .ok (.bipush 16, 2) := by decide +kernel
theorem dX9_init_51 : decode cX9_init 51 = .ok (.newarray .int, 2) := by decide +kernel
theorem dX9_init_53 : decode cX9_init 53 = .ok (.putfield 33, 3) := by decide +kernel
theorem dX9_init_56 : decode cX9_init 56 = .ok (.aload_n 0, 1) := by decide +kernel
theorem dX9_init_57 : decode cX9_init 57 = .ok (.bipush 7, 2) := by decide +kernel
theorem dX9_init_59 : decode cX9_init 59 = .ok (.newarray .int, 2) := by decide +kernel
theorem dX9_init_61 : decode cX9_init 61 = .ok (.putfield 37, 3) := by decide +kernel
theorem dX9_init_64 : decode cX9_init 64 = .ok (.aload_n 0, 1) := by decide +kernel
theorem dX9_init_65 : decode cX9_init 65 = .ok (.bipush 32, 2) := by decide +kernel
theorem dX9_init_67 : decode cX9_init 67 = .ok (.newarray .int, 2) := by decide +kernel
theorem dX9_init_69 : decode cX9_init 69 = .ok (.putfield 40, 3) := by decide +kernel
theorem dX9_init_72 : decode cX9_init 72 = .ok (.aload_n 0, 1) := by decide +kernel
theorem dX9_init_73 : decode cX9_init 73 = .ok (.iconst 0, 1) := by decide +kernel
theorem dX9_init_74 : decode cX9_init 74 = .ok (.putfield 43, 3) := by decide +kernel
theorem dX9_init_77 : decode cX9_init 77 = .ok (.aload_n 0, 1) := by decide +kernel
theorem dX9_init_78 : decode cX9_init 78 = .ok (.iconst 0, 1) := by decide +kernel
theorem dX9_init_79 : decode cX9_init 79 = .ok (.putfield 47, 3) := by decide +kernel
theorem dX9_init_82 : decode cX9_init 82 = .ok (.return_, 1) := by decide +kernel
theorem dX9_letter_0 : decode cX9_letter 0 = .ok (.iload_n 1, 1) := by decide +kernel
theorem dX9_letter_1 : decode cX9_letter 1 = .ok (.ifCond .ge 10, 3) := by decide +kernel
theorem dX9_letter_4 : decode cX9_letter 4 = .ok (.aload_n 0, 1) := by decide +kernel
theorem dX9_letter_5 : decode cX9_letter 5 = .ok (.bipush (-4), 2) := by decide +kernel
theorem dX9_letter_7 : decode cX9_letter 7 = .ok (.invokevirtual 51, 3) := by decide +kernel
theorem dX9_letter_10 : decode cX9_letter 10 = .ok (.ireturn, 1) := by decide +kernel
theorem dX9_letter_11 : decode cX9_letter 11 = .ok (.iload_n 1, 1) := by decide +kernel
theorem dX9_letter_12 : decode cX9_letter 12 = .ok (.sipush 255, 3) := by decide +kernel
theorem dX9_letter_15 : decode cX9_letter 15 = .ok (.if_icmp .gt 13, 3) := by decide +kernel
theorem dX9_letter_18 : decode cX9_letter 18 = .ok (.aload_n 0, 1) := by decide +kernel
theorem dX9_letter_19 : decode cX9_letter 19 = .ok (.getfield 29, 3) := by decide +kernel
theorem dX9_letter_22 : decode cX9_letter 22 = .ok (.invokevirtual 55, 3) := by decide +kernel
theorem dX9_letter_25 : decode cX9_letter 25 = .ok (.ifCond .eq 10, 3) := by decide +kernel
theorem dX9_letter_28 : decode cX9_letter 28 = .ok (.aload_n 0, 1) := by decide +kernel
theorem dX9_letter_29 : decode cX9_letter 29 = .ok (.bipush (-6), 2) := by decide +kernel
theorem dX9_letter_31 : decode cX9_letter 31 = .ok (.invokevirtual 51, 3) := by decide +kernel
theorem dX9_letter_34 : decode cX9_letter 34 = .ok (.ireturn, 1) := by decide +kernel
theorem dX9_letter_35 : decode cX9_letter 35 = .ok (.aload_n 0, 1) := by decide +kernel
theorem dX9_letter_36 : decode cX9_letter 36 = .ok (.getfield 29, 3) := by decide +kernel
theorem dX9_letter_39 : decode cX9_letter 39 = .ok (.iload_n 1, 1) := by decide +kernel
theorem dX9_letter_40 : decode cX9_letter 40 = .ok (.invokevirtual 59, 3) := by decide +kernel
theorem dX9_letter_43 : decode cX9_letter 43 = .ok (.ireturn, 1) := by decide +kernel
theorem dX9_program_0 : decode cX9_program 0 = .ok (.aload_n 0, 1) := by decide +kernel
theorem dX9_program_1 : decode cX9_program 1 = .ok (.getfield 29, 3) := by decide +kernel
theorem dX9_program_4 : decode cX9_program 4 = .ok (.invokevirtual 62, 3) := by decide +kernel
theorem dX9_program_7 : decode cX9_program 7 = .ok (.istore_n 1, 1) := by decide +kernel
theorem dX9_program_8 : decode cX9_program 8 = .ok (.iload_n 1, 1) := by decide +kernel
theorem dX9_program_9 : decode cX9_program 9 = .ok (.ifCond .ne 24, 3) := by decide +kernel
theorem dX9_program_12 : decode cX9_program 12 = .ok (.aload_n 0, 1) := by decide +kernel
theorem dX9_program_13 : decode cX9_program 13 = .ok (.getfield 29, 3) := by decide +kernel
theorem dX9_program_16 : decode cX9_program 16 = .ok (.aload_n 0, 1) := by decide +kernel
theorem dX9_program_17 : decode cX9_program 17 = .ok (.getfield 10, 3) := by decide +kernel
theorem dX9_program_20 : decode cX9_program 20 = .ok (.getfield 66, 3) := by decide +kernel
theorem dX9_program_23 : decode cX9_program 23 = .ok (.invokevirtual 70, 3) := by decide +kernel
theorem dX9_program_26 : decode cX9_program 26 = .ok (.aload_n 0, 1) := by decide +kernel
theorem dX9_program_27 : decode cX9_program 27 = .ok (.getfield 10, 3) := by decide +kernel
theorem dX9_program_30 : decode cX9_program 30 = .ok (.invokevirtual 74, 3) := by decide +kernel
theorem dX9_program_33 : decode cX9_program 33 = .ok (.aload_n 0, 1) := by decide +kernel
theorem dX9_program_34 : decode cX9_program 34 = .ok (.getfield 29, 3) := by decide +kernel
theorem dX9_program_37 : decode cX9_program 37 = .ok (.invokevirtual 77, 3) := by decide +kernel
theorem dX9_program_40 : decode cX9_program 40 = .ok (.iload_n 1, 1) := by decide +kernel
theorem dX9_program_41 : decode cX9_program 41 = .ok (.ifCond .ne 16, 3) := by decide +kernel
theorem dX9_program_44 : decode cX9_program 44 = .ok (.aload_n 0, 1) := by decide +kernel
theorem dX9_program_45 : decode cX9_program 45 = .ok (.getfield 10, 3) := by decide +kernel
theorem dX9_program_48 : decode cX9_program 48 = .ok (.getfield 66, 3) := by decide +kernel
theorem dX9_program_51 : decode cX9_program 51 = .ok (.getfield 80, 3) := by decide +kernel
theorem dX9_program_54 : decode cX9_program 54 = .ok (.goto 4, 3) := by decide +kernel
theorem dX9_program_57 : decode cX9_program 57 = .ok (.iload_n 1, 1) := by decide +kernel
theorem dX9_program_58 : decode cX9_program 58 = .ok (.ireturn, 1) := by decide +kernel
theorem dX9_global_0 : decode cX9_global 0 = .ok (.iload_n 1, 1) := by decide +kernel
theorem dX9_global_1 : decode cX9_global 1 = .ok (.invokestatic 85, 3) := by decide +kernel
theorem dX9_global_4 : decode cX9_global 4 = .ok (.ifCond .ne 9, 3) := by decide +kernel
theorem dX9_global_7 : decode cX9_global 7 = .ok (.aload_n 0, 1) := by decide +kernel
theorem dX9_global_8 : decode cX9_global 8 = .ok (.iconst (-1), 1) := by decide +kernel
theorem dX9_global_9 : decode cX9_global 9 = .ok (.invokevirtual 89, 3) := by decide +kernel
theorem dX9_global_12 : decode cX9_global 12 = .ok (.ireturn, 1) := by decide +kernel
theorem dX9_global_13 : decode cX9_global 13 = .ok (.aload_n 0, 1) := by decide +kernel
theorem dX9_global_14 : decode cX9_global 14 = .ok (.getfield 10, 3) := by decide +kernel
theorem dX9_global_17 : decode cX9_global 17 = .ok (.getfield 92, 3) := by decide +kernel
theorem dX9_global_20 : decode cX9_global 20 = .ok (.iload_n 1, 1) := by decide +kernel
theorem dX9_global_21 : decode cX9_global 21 = .ok (.invokestatic 95, 3) := by decide +kernel
theorem dX9_global_24 : decode cX9_global 24 = .ok (.ireturn, 1) := by decide +kernel
theorem dX9_sets_0 : decode cX9_sets 0 = .ok (.iload_n 1, 1) := by decide +kernel
theorem dX9_sets_1 : decode cX9_sets 1 = .ok (.iload_n 2, 1) := by decide +kernel
theorem dX9_sets_2 : decode cX9_sets 2 = .ok (.invokestatic 99, 3) := by decide +kernel
theorem dX9_sets_5 : decode cX9_sets 5 = .ok (.istore_n 3, 1) := by decide +kernel
theorem dX9_sets_6 : decode cX9_sets 6 = .ok (.iload_n 3, 1) := by decide +kernel
theorem dX9_sets_7 : decode cX9_sets 7 = .ok (.ifCond .eq 9, 3) := by decide +kernel
theorem dX9_sets_10 : decode cX9_sets 10 = .ok (.aload_n 0, 1) := by decide +kernel
theorem dX9_sets_11 : decode cX9_sets 11 = .ok (.iload_n 3, 1) := by decide +kernel
theorem dX9_sets_12 : decode cX9_sets 12 = .ok (.invokevirtual 89, 3) := by decide +kernel
theorem dX9_sets_15 : decode cX9_sets 15 = .ok (.ireturn, 1) := by decide +kernel
theorem dX9_sets_16 : decode cX9_sets 16 = .ok (.aload_n 0, 1) := by decide +kernel
theorem dX9_sets_17 : decode cX9_sets 17 = .ok (.getfield 10, 3) := by decide +kernel
theorem dX9_sets_20 : decode cX9_sets 20 = .ok (.getfield 92, 3) := by decide +kernel
theorem dX9_sets_23 : decode cX9_sets 23 = .ok (.iload_n 1, 1) := by decide +kernel
theorem dX9_sets_24 : decode cX9_sets 24 = .ok (.invokestatic 95, 3) := by decide +kernel
theorem dX9_sets_27 : decode cX9_sets 27 = .ok (.istore 4, 2) := by decide +kernel
theorem dX9_sets_29 : decode cX9_sets 29 = .ok (.aload_n 0, 1) := by decide +kernel
theorem dX9_sets_30 : decode cX9_sets 30 = .ok (.getfield 10, 3) := by decide +kernel
theorem dX9_sets_33 : decode cX9_sets 33 = .ok (.getfield 92, 3) := by decide +kernel
theorem dX9_sets_36 : decode cX9_sets 36 = .ok (.iload_n 1, 1) := by decide +kernel
theorem dX9_sets_37 : decode cX9_sets 37 = .ok (.iload_n 2, 1) := by decide +kernel
theorem dX9_sets_38 : decode cX9_sets 38 = .ok (.invokestatic 103, 3) := by decide +kernel
theorem dX9_sets_41 : decode cX9_sets 41 = .ok (.iload 4, 2) := by decide +kernel
theorem dX9_sets_43 : decode cX9_sets 43 = .ok (.ireturn, 1) := by decide +kernel
theorem dX9_run_0 : decode cX9_run 0 = .ok (.aload_n 0, 1) := by decide +kernel
theorem dX9_run_1 : decode cX9_run 1 = .ok (.getfield 10, 3) := by decide +kernel
theorem dX9_run_4 : decode cX9_run 4 = .ok (.aload_n 0, 1) := by decide +kernel
theorem dX9_run_5 : decode cX9_run 5 = .ok (.getfield 22, 3) := by decide +kernel
theorem dX9_run_8 : decode cX9_run 8 = .ok (.aload_n 0, 1) := by decide +kernel
theorem dX9_run_9 : decode cX9_run 9 = .ok (.invokevirtual 107, 3) := by decide +kernel
theorem dX9_run_12 : decode cX9_run 12 = .ok (.invokevirtual 111, 3) := by decide +kernel
theorem dX9_run_15 : decode cX9_run 15 = .ok (.aload_n 0, 1) := by decide +kernel
theorem dX9_run_16 : decode cX9_run 16 = .ok (.getfield 10, 3) := by decide +kernel
theorem dX9_run_19 : decode cX9_run 19 = .ok (.getfield 115, 3) := by decide +kernel
theorem dX9_run_22 : decode cX9_run 22 = .ok (.getfield 119, 3) := by decide +kernel
theorem dX9_run_25 : decode cX9_run 25 = .ok (.ireturn, 1) := by decide +kernel
theorem dX9_ended_0 : decode cX9_ended 0 = .ok (.iload_n 1, 1) := by decide +kernel
theorem dX9_ended_1 : decode cX9_ended 1 = .ok (.invokestatic 124, 3) := by decide +kernel
theorem dX9_ended_4 : decode cX9_ended 4 = .ok (.ifCond .ne 10, 3) := by decide +kernel
theorem dX9_ended_7 : decode cX9_ended 7 = .ok (.aload_n 0, 1) := by decide +kernel
theorem dX9_ended_8 : decode cX9_ended 8 = .ok (.bipush (-2), 2) := by decide +kernel
theorem dX9_ended_10 : decode cX9_ended 10 = .ok (.invokevirtual 89, 3) := by decide +kernel
theorem dX9_ended_13 : decode cX9_ended 13 = .ok (.ireturn, 1) := by decide +kernel
theorem dX9_ended_14 : decode cX9_ended 14 = .ok (.aload_n 0, 1) := by decide +kernel
theorem dX9_ended_15 : decode cX9_ended 15 = .ok (.getfield 10, 3) := by decide +kernel
theorem dX9_ended_18 : decode cX9_ended 18 = .ok (.getfield 127, 3) := by decide +kernel
theorem dX9_ended_21 : decode cX9_ended 21 = .ok (.ifCond .ne 10, 3) := by decide +kernel
theorem dX9_ended_24 : decode cX9_ended 24 = .ok (.aload_n 0, 1) := by decide +kernel
theorem dX9_ended_25 : decode cX9_ended 25 = .ok (.bipush (-3), 2) := by decide +kernel
theorem dX9_ended_27 : decode cX9_ended 27 = .ok (.invokevirtual 89, 3) := by decide +kernel
theorem dX9_ended_30 : decode cX9_ended 30 = .ok (.ireturn, 1) := by decide +kernel
theorem dX9_ended_31 : decode cX9_ended 31 = .ok (.aload_n 0, 1) := by decide +kernel
theorem dX9_ended_32 : decode cX9_ended 32 = .ok (.getfield 10, 3) := by decide +kernel
theorem dX9_ended_35 : decode cX9_ended 35 = .ok (.getfield 115, 3) := by decide +kernel
theorem dX9_ended_38 : decode cX9_ended 38 = .ok (.iload_n 1, 1) := by decide +kernel
theorem dX9_ended_39 : decode cX9_ended 39 = .ok (.invokevirtual 130, 3) := by decide +kernel
theorem dX9_ended_42 : decode cX9_ended 42 = .ok (.ireturn, 1) := by decide +kernel
theorem dX9_code_0 : decode cX9_code 0 = .ok (.aload_n 0, 1) := by decide +kernel
theorem dX9_code_1 : decode cX9_code 1 = .ok (.getfield 10, 3) := by decide +kernel
theorem dX9_code_4 : decode cX9_code 4 = .ok (.getfield 127, 3) := by decide +kernel
theorem dX9_code_7 : decode cX9_code 7 = .ok (.ifCond .eq 17, 3) := by decide +kernel
theorem dX9_code_10 : decode cX9_code 10 = .ok (.aload_n 0, 1) := by decide +kernel
theorem dX9_code_11 : decode cX9_code 11 = .ok (.getfield 10, 3) := by decide +kernel
theorem dX9_code_14 : decode cX9_code 14 = .ok (.getfield 115, 3) := by decide +kernel
theorem dX9_code_17 : decode cX9_code 17 = .ok (.getfield 119, 3) := by decide +kernel
theorem dX9_code_20 : decode cX9_code 20 = .ok (.iconst 3, 1) := by decide +kernel
theorem dX9_code_21 : decode cX9_code 21 = .ok (.if_icmp .eq 10, 3) := by decide +kernel
theorem dX9_code_24 : decode cX9_code 24 = .ok (.aload_n 0, 1) := by decide +kernel
theorem dX9_code_25 : decode cX9_code 25 = .ok (.bipush (-3), 2) := by decide +kernel
theorem dX9_code_27 : decode cX9_code 27 = .ok (.invokevirtual 51, 3) := by decide +kernel
theorem dX9_code_30 : decode cX9_code 30 = .ok (.ireturn, 1) := by decide +kernel
theorem dX9_code_31 : decode cX9_code 31 = .ok (.iload_n 1, 1) := by decide +kernel
theorem dX9_code_32 : decode cX9_code 32 = .ok (.ifCond .lt 17, 3) := by decide +kernel
theorem dX9_code_35 : decode cX9_code 35 = .ok (.iload_n 1, 1) := by decide +kernel
theorem dX9_code_36 : decode cX9_code 36 = .ok (.aload_n 0, 1) := by decide +kernel
theorem dX9_code_37 : decode cX9_code 37 = .ok (.getfield 10, 3) := by decide +kernel
theorem dX9_code_40 : decode cX9_code 40 = .ok (.getfield 115, 3) := by decide +kernel
theorem dX9_code_43 : decode cX9_code 43 = .ok (.getfield 133, 3) := by decide +kernel
theorem dX9_code_46 : decode cX9_code 46 = .ok (.if_icmp .le 9, 3) := by decide +kernel
theorem dX9_code_49 : decode cX9_code 49 = .ok (.aload_n 0, 1) := by decide +kernel
theorem dX9_code_50 : decode cX9_code 50 = .ok (.iconst (-1), 1) := by decide +kernel
theorem dX9_code_51 : decode cX9_code 51 = .ok (.invokevirtual 51, 3) := by decide +kernel
theorem dX9_code_54 : decode cX9_code 54 = .ok (.ireturn, 1) := by decide +kernel
theorem dX9_code_55 : decode cX9_code 55 = .ok (.aload_n 0, 1) := by decide +kernel
theorem dX9_code_56 : decode cX9_code 56 = .ok (.getfield 10, 3) := by decide +kernel
theorem dX9_code_59 : decode cX9_code 59 = .ok (.getfield 115, 3) := by decide +kernel
theorem dX9_code_62 : decode cX9_code 62 = .ok (.iload_n 1, 1) := by decide +kernel
theorem dX9_code_63 : decode cX9_code 63 = .ok (.invokevirtual 136, 3) := by decide +kernel
theorem dX9_code_66 : decode cX9_code 66 = .ok (.ireturn, 1) := by decide +kernel
theorem dX9_cache_0 : decode cX9_cache 0 = .ok (.iload_n 1, 1) := by decide +kernel
theorem dX9_cache_1 : decode cX9_cache 1 = .ok (.ifCond .lt 17, 3) := by decide +kernel
theorem dX9_cache_4 : decode cX9_cache 4 = .ok (.iload_n 1, 1) := by decide +kernel
theorem dX9_cache_5 : decode cX9_cache 5 = .ok (.aload_n 0, 1) := by decide +kernel
theorem dX9_cache_6 : decode cX9_cache 6 = .ok (.getfield 10, 3) := by decide +kernel
theorem dX9_cache_9 : decode cX9_cache 9 = .ok (.getfield 66, 3) := by decide +kernel
theorem dX9_cache_12 : decode cX9_cache 12 = .ok (.getfield 139, 3) := by decide +kernel
theorem dX9_cache_15 : decode cX9_cache 15 = .ok (.if_icmp .lt 9, 3) := by decide +kernel
theorem dX9_cache_18 : decode cX9_cache 18 = .ok (.aload_n 0, 1) := by decide +kernel
theorem dX9_cache_19 : decode cX9_cache 19 = .ok (.iconst (-1), 1) := by decide +kernel
theorem dX9_cache_20 : decode cX9_cache 20 = .ok (.invokevirtual 51, 3) := by decide +kernel
theorem dX9_cache_23 : decode cX9_cache 23 = .ok (.ireturn, 1) := by decide +kernel
theorem dX9_cache_24 : decode cX9_cache 24 = .ok (.iload_n 2, 1) := by decide +kernel
theorem dX9_cache_25 : decode cX9_cache 25 = .ok (.ifCond .lt 8, 3) := by decide +kernel
theorem dX9_cache_28 : decode cX9_cache 28 = .ok (.iload_n 2, 1) := by decide +kernel
theorem dX9_cache_29 : decode cX9_cache 29 = .ok (.iconst 3, 1) := by decide +kernel
theorem dX9_cache_30 : decode cX9_cache 30 = .ok (.if_icmp .le 10, 3) := by decide +kernel
theorem dX9_cache_33 : decode cX9_cache 33 = .ok (.aload_n 0, 1) := by decide +kernel
theorem dX9_cache_34 : decode cX9_cache 34 = .ok (.bipush (-2), 2) := by decide +kernel
theorem dX9_cache_36 : decode cX9_cache 36 = .ok (.invokevirtual 51, 3) := by decide +kernel
theorem dX9_cache_39 : decode cX9_cache 39 = .ok (.ireturn, 1) := by decide +kernel
theorem dX9_cache_40 : decode cX9_cache 40 = .ok (.aload_n 0, 1) := by decide +kernel
theorem dX9_cache_41 : decode cX9_cache 41 = .ok (.getfield 10, 3) := by decide +kernel
theorem dX9_cache_44 : decode cX9_cache 44 = .ok (.getfield 142, 3) := by decide +kernel
theorem dX9_cache_47 : decode cX9_cache 47 = .ok (.iload_n 1, 1) := by decide +kernel
theorem dX9_cache_48 : decode cX9_cache 48 = .ok (.iload_n 2, 1) := by decide +kernel
theorem dX9_cache_49 : decode cX9_cache 49 = .ok (.invokevirtual 146, 3) := by decide +kernel
theorem dX9_cache_52 : decode cX9_cache 52 = .ok (.ireturn, 1) := by decide +kernel
theorem dX9_thinks_0 : decode cX9_thinks 0 = .ok (.iload_n 1, 1) := by decide +kernel
theorem dX9_thinks_1 : decode cX9_thinks 1 = .ok (.invokestatic 124, 3) := by decide +kernel
theorem dX9_thinks_4 : decode cX9_thinks 4 = .ok (.ifCond .ne 10, 3) := by decide +kernel
theorem dX9_thinks_7 : decode cX9_thinks 7 = .ok (.aload_n 0, 1) := by decide +kernel
theorem dX9_thinks_8 : decode cX9_thinks 8 = .ok (.bipush (-2), 2) := by decide +kernel
theorem dX9_thinks_10 : decode cX9_thinks 10 = .ok (.invokevirtual 89, 3) := by decide +kernel
theorem dX9_thinks_13 : decode cX9_thinks 13 = .ok (.ireturn, 1) := by decide +kernel
theorem dX9_thinks_14 : decode cX9_thinks 14 = .ok (.aload_n 0, 1) := by decide +kernel
theorem dX9_thinks_15 : decode cX9_thinks 15 = .ok (.invokevirtual 107, 3) := by decide +kernel
theorem dX9_thinks_18 : decode cX9_thinks 18 = .ok (.iload_n 1, 1) := by decide +kernel
theorem dX9_thinks_19 : decode cX9_thinks 19 = .ok (.invokevirtual 130, 3) := by decide +kernel
theorem dX9_thinks_22 : decode cX9_thinks 22 = .ok (.ireturn, 1) := by decide +kernel
theorem dX9_with_0 : decode cX9_with 0 = .ok (.iload_n 1, 1) := by decide +kernel
theorem dX9_with_1 : decode cX9_with 1 = .ok (.iload_n 2, 1) := by decide +kernel
theorem dX9_with_2 : decode cX9_with 2 = .ok (.invokestatic 99, 3) := by decide +kernel
theorem dX9_with_5 : decode cX9_with 5 = .ok (.istore 4, 2) := by decide +kernel
theorem dX9_with_7 : decode cX9_with 7 = .ok (.iload 4, 2) := by decide +kernel
theorem dX9_with_9 : decode cX9_with 9 = .ok (.ifCond .ne 14, 3) := by decide +kernel
theorem dX9_with_12 : decode cX9_with 12 = .ok (.iload_n 3, 1) := by decide +kernel
theorem dX9_with_13 : decode cX9_with 13 = .ok (.invokestatic 124, 3) := by decide +kernel
theorem dX9_with_16 : decode cX9_with 16 = .ok (.ifCond .ne 7, 3) := by decide +kernel
theorem dX9_with_19 : decode cX9_with 19 = .ok (.bipush (-2), 2) := by decide +kernel
theorem dX9_with_21 : decode cX9_with 21 = .ok (.istore 4, 2) := by decide +kernel
theorem dX9_with_23 : decode cX9_with 23 = .ok (.iload 4, 2) := by decide +kernel
theorem dX9_with_25 : decode cX9_with 25 = .ok (.ifCond .eq 10, 3) := by decide +kernel
theorem dX9_with_28 : decode cX9_with 28 = .ok (.aload_n 0, 1) := by decide +kernel
theorem dX9_with_29 : decode cX9_with 29 = .ok (.iload 4, 2) := by decide +kernel
theorem dX9_with_31 : decode cX9_with 31 = .ok (.invokevirtual 89, 3) := by decide +kernel
theorem dX9_with_34 : decode cX9_with 34 = .ok (.ireturn, 1) := by decide +kernel
theorem dX9_with_35 : decode cX9_with 35 = .ok (.aload_n 0, 1) := by decide +kernel
theorem dX9_with_36 : decode cX9_with 36 = .ok (.iload_n 1, 1) := by decide +kernel
theorem dX9_with_37 : decode cX9_with 37 = .ok (.iload_n 2, 1) := by decide +kernel
theorem dX9_with_38 : decode cX9_with 38 = .ok (.invokevirtual 150, 3) := by decide +kernel
theorem dX9_with_41 : decode cX9_with 41 = .ok (.iload_n 3, 1) := by decide +kernel
theorem dX9_with_42 : decode cX9_with 42 = .ok (.invokevirtual 130, 3) := by decide +kernel
theorem dX9_with_45 : decode cX9_with 45 = .ok (.ireturn, 1) := by decide +kernel
theorem dX9_solve_0 : decode cX9_solve 0 = .ok (.iload_n 1, 1) := by decide +kernel
theorem dX9_solve_1 : decode cX9_solve 1 = .ok (.iload_n 2, 1) := by decide +kernel
theorem dX9_solve_2 : decode cX9_solve 2 = .ok (.invokestatic 99, 3) := by decide +kernel
theorem dX9_solve_5 : decode cX9_solve 5 = .ok (.istore_n 3, 1) := by decide +kernel
theorem dX9_solve_6 : decode cX9_solve 6 = .ok (.iload_n 3, 1) := by decide +kernel
theorem dX9_solve_7 : decode cX9_solve 7 = .ok (.ifCond .eq 9, 3) := by decide +kernel
theorem dX9_solve_10 : decode cX9_solve 10 = .ok (.aload_n 0, 1) := by decide +kernel
theorem dX9_solve_11 : decode cX9_solve 11 = .ok (.iload_n 3, 1) := by decide +kernel
theorem dX9_solve_12 : decode cX9_solve 12 = .ok (.invokevirtual 89, 3) := by decide +kernel
theorem dX9_solve_15 : decode cX9_solve 15 = .ok (.ireturn, 1) := by decide +kernel
theorem dX9_solve_16 : decode cX9_solve 16 = .ok (.bipush (-20), 2) := by decide +kernel
theorem dX9_solve_18 : decode cX9_solve 18 = .ok (.istore 4, 2) := by decide +kernel
theorem dX9_solve_20 : decode cX9_solve 20 = .ok (.iload 4, 2) := by decide +kernel
theorem dX9_solve_22 : decode cX9_solve 22 = .ok (.bipush 20, 2) := by decide +kernel
theorem dX9_solve_24 : decode cX9_solve 24 = .ok (.if_icmp .gt 26, 3) := by decide +kernel
theorem dX9_solve_27 : decode cX9_solve 27 = .ok (.aload_n 0, 1) := by decide +kernel
theorem dX9_solve_28 : decode cX9_solve 28 = .ok (.iload_n 1, 1) := by decide +kernel
theorem dX9_solve_29 : decode cX9_solve 29 = .ok (.iload 4, 2) := by decide +kernel
theorem dX9_solve_31 : decode cX9_solve 31 = .ok (.invokevirtual 150, 3) := by decide +kernel
theorem dX9_solve_34 : decode cX9_solve 34 = .ok (.iload_n 2, 1) := by decide +kernel
theorem dX9_solve_35 : decode cX9_solve 35 = .ok (.invokevirtual 154, 3) := by decide +kernel
theorem dX9_solve_38 : decode cX9_solve 38 = .ok (.ifCond .eq 6, 3) := by decide +kernel
theorem dX9_solve_41 : decode cX9_solve 41 = .ok (.iload 4, 2) := by decide +kernel
theorem dX9_solve_43 : decode cX9_solve 43 = .ok (.ireturn, 1) := by decide +kernel
theorem dX9_solve_44 : decode cX9_solve 44 = .ok (.iinc 4 1, 3) := by decide +kernel
theorem dX9_solve_47 : decode cX9_solve 47 = .ok (.goto (-27), 3) := by decide +kernel
theorem dX9_solve_50 : decode cX9_solve 50 = .ok (.ldc 157, 2) := by decide +kernel
theorem dX9_solve_52 : decode cX9_solve 52 = .ok (.ireturn, 1) := by decide +kernel
theorem dX9_fewest_0 : decode cX9_fewest 0 = .ok (.iload_n 1, 1) := by decide +kernel
theorem dX9_fewest_1 : decode cX9_fewest 1 = .ok (.invokestatic 85, 3) := by decide +kernel
theorem dX9_fewest_4 : decode cX9_fewest 4 = .ok (.ifCond .ne 9, 3) := by decide +kernel
theorem dX9_fewest_7 : decode cX9_fewest 7 = .ok (.aload_n 0, 1) := by decide +kernel
theorem dX9_fewest_8 : decode cX9_fewest 8 = .ok (.iconst (-1), 1) := by decide +kernel
theorem dX9_fewest_9 : decode cX9_fewest 9 = .ok (.invokevirtual 89, 3) := by decide +kernel
theorem dX9_fewest_12 : decode cX9_fewest 12 = .ok (.ireturn, 1) := by decide +kernel
theorem dX9_fewest_13 : decode cX9_fewest 13 = .ok (.iload_n 2, 1) := by decide +kernel
theorem dX9_fewest_14 : decode cX9_fewest 14 = .ok (.ifCond .lt 8, 3) := by decide +kernel
theorem dX9_fewest_17 : decode cX9_fewest 17 = .ok (.iload_n 2, 1) := by decide +kernel
theorem dX9_fewest_18 : decode cX9_fewest 18 = .ok (.iconst 1, 1) := by decide +kernel
theorem dX9_fewest_19 : decode cX9_fewest 19 = .ok (.if_icmp .le 10, 3) := by decide +kernel
theorem dX9_fewest_22 : decode cX9_fewest 22 = .ok (.aload_n 0, 1) := by decide +kernel
theorem dX9_fewest_23 : decode cX9_fewest 23 = .ok (.bipush (-2), 2) := by decide +kernel
theorem dX9_fewest_25 : decode cX9_fewest 25 = .ok (.invokevirtual 89, 3) := by decide +kernel
theorem dX9_fewest_28 : decode cX9_fewest 28 = .ok (.ireturn, 1) := by decide +kernel
theorem dX9_fewest_29 : decode cX9_fewest 29 = .ok (.ldc 157, 2) := by decide +kernel
theorem dX9_fewest_31 : decode cX9_fewest 31 = .ok (.istore_n 3, 1) := by decide +kernel
theorem dX9_fewest_32 : decode cX9_fewest 32 = .ok (.ldc 157, 2) := by decide +kernel
theorem dX9_fewest_34 : decode cX9_fewest 34 = .ok (.istore 4, 2) := by decide +kernel
theorem dX9_fewest_36 : decode cX9_fewest 36 = .ok (.bipush (-20), 2) := by decide +kernel
theorem dX9_fewest_38 : decode cX9_fewest 38 = .ok (.istore 5, 2) := by decide +kernel
theorem dX9_fewest_40 : decode cX9_fewest 40 = .ok (.iload 5, 2) := by decide +kernel
theorem dX9_fewest_42 : decode cX9_fewest 42 = .ok (.bipush 20, 2) := by decide +kernel
theorem dX9_fewest_44 : decode cX9_fewest 44 = .ok (.if_icmp .gt 47, 3) := by decide +kernel
theorem dX9_fewest_47 : decode cX9_fewest 47 = .ok (.aload_n 0, 1) := by decide +kernel
theorem dX9_fewest_48 : decode cX9_fewest 48 = .ok (.iload_n 1, 1) := by decide +kernel
theorem dX9_fewest_49 : decode cX9_fewest 49 = .ok (.iload 5, 2) := by decide +kernel
theorem dX9_fewest_51 : decode cX9_fewest 51 = .ok (.invokevirtual 150, 3) := by decide +kernel
theorem dX9_fewest_54 : decode cX9_fewest 54 = .ok (.astore 6, 2) := by decide +kernel
theorem dX9_fewest_56 : decode cX9_fewest 56 = .ok (.aload 6, 2) := by decide +kernel
theorem dX9_fewest_58 : decode cX9_fewest 58 = .ok (.getfield 119, 3) := by decide +kernel
theorem dX9_fewest_61 : decode cX9_fewest 61 = .ok (.iconst 3, 1) := by decide +kernel
theorem dX9_fewest_62 : decode cX9_fewest 62 = .ok (.if_icmp .eq 23, 3) := by decide +kernel
theorem dX9_fewest_65 : decode cX9_fewest 65 = .ok (.aload 6, 2) := by decide +kernel
theorem dX9_fewest_67 : decode cX9_fewest 67 = .ok (.getfield 158, 3) := by decide +kernel
theorem dX9_fewest_70 : decode cX9_fewest 70 = .ok (.iload 4, 2) := by decide +kernel
theorem dX9_fewest_72 : decode cX9_fewest 72 = .ok (.if_icmp .ge 13, 3) := by decide +kernel
theorem dX9_fewest_75 : decode cX9_fewest 75 = .ok (.iload 5, 2) := by decide +kernel
theorem dX9_fewest_77 : decode cX9_fewest 77 = .ok (.istore_n 3, 1) := by decide +kernel
theorem dX9_fewest_78 : decode cX9_fewest 78 = .ok (.aload 6, 2) := by decide +kernel
theorem dX9_fewest_80 : decode cX9_fewest 80 = .ok (.getfield 158, 3) := by decide +kernel
theorem dX9_fewest_83 : decode cX9_fewest 83 = .ok (.istore 4, 2) := by decide +kernel
theorem dX9_fewest_85 : decode cX9_fewest 85 = .ok (.iinc 5 1, 3) := by decide +kernel
theorem dX9_fewest_88 : decode cX9_fewest 88 = .ok (.goto (-48), 3) := by decide +kernel
theorem dX9_fewest_91 : decode cX9_fewest 91 = .ok (.iload_n 2, 1) := by decide +kernel
theorem dX9_fewest_92 : decode cX9_fewest 92 = .ok (.ifCond .ne 7, 3) := by decide +kernel
theorem dX9_fewest_95 : decode cX9_fewest 95 = .ok (.iload_n 3, 1) := by decide +kernel
theorem dX9_fewest_96 : decode cX9_fewest 96 = .ok (.goto 5, 3) := by decide +kernel
theorem dX9_fewest_99 : decode cX9_fewest 99 = .ok (.iload 4, 2) := by decide +kernel
theorem dX9_fewest_101 : decode cX9_fewest 101 = .ok (.ireturn, 1) := by decide +kernel
theorem dX9_pure_0 : decode cX9_pure 0 = .ok (.aload_n 0, 1) := by decide +kernel
theorem dX9_pure_1 : decode cX9_pure 1 = .ok (.invokevirtual 107, 3) := by decide +kernel
theorem dX9_pure_4 : decode cX9_pure 4 = .ok (.astore_n 1, 1) := by decide +kernel
theorem dX9_pure_5 : decode cX9_pure 5 = .ok (.aload_n 1, 1) := by decide +kernel
theorem dX9_pure_6 : decode cX9_pure 6 = .ok (.getfield 119, 3) := by decide +kernel
theorem dX9_pure_9 : decode cX9_pure 9 = .ok (.istore_n 2, 1) := by decide +kernel
theorem dX9_pure_10 : decode cX9_pure 10 = .ok (.aload_n 1, 1) := by decide +kernel
theorem dX9_pure_11 : decode cX9_pure 11 = .ok (.getfield 161, 3) := by decide +kernel
theorem dX9_pure_14 : decode cX9_pure 14 = .ok (.istore_n 3, 1) := by decide +kernel
theorem dX9_pure_15 : decode cX9_pure 15 = .ok (.aload_n 0, 1) := by decide +kernel
theorem dX9_pure_16 : decode cX9_pure 16 = .ok (.getfield 22, 3) := by decide +kernel
theorem dX9_pure_19 : decode cX9_pure 19 = .ok (.invokevirtual 164, 3) := by decide +kernel
theorem dX9_pure_22 : decode cX9_pure 22 = .ok (.pop, 1) := by decide +kernel
theorem dX9_pure_23 : decode cX9_pure 23 = .ok (.aload_n 1, 1) := by decide +kernel
theorem dX9_pure_24 : decode cX9_pure 24 = .ok (.getfield 119, 3) := by decide +kernel
theorem dX9_pure_27 : decode cX9_pure 27 = .ok (.iload_n 2, 1) := by decide +kernel
theorem dX9_pure_28 : decode cX9_pure 28 = .ok (.if_icmp .ne 15, 3) := by decide +kernel
theorem dX9_pure_31 : decode cX9_pure 31 = .ok (.aload_n 1, 1) := by decide +kernel
theorem dX9_pure_32 : decode cX9_pure 32 = .ok (.getfield 161, 3) := by decide +kernel
theorem dX9_pure_35 : decode cX9_pure 35 = .ok (.iload_n 3, 1) := by decide +kernel
theorem dX9_pure_36 : decode cX9_pure 36 = .ok (.if_icmp .ne 7, 3) := by decide +kernel
theorem dX9_pure_39 : decode cX9_pure 39 = .ok (.iconst 1, 1) := by decide +kernel
theorem dX9_pure_40 : decode cX9_pure 40 = .ok (.goto 4, 3) := by decide +kernel
theorem dX9_pure_43 : decode cX9_pure 43 = .ok (.iconst 0, 1) := by decide +kernel
theorem dX9_pure_44 : decode cX9_pure 44 = .ok (.istore 4, 2) := by decide +kernel
theorem dX9_pure_46 : decode cX9_pure 46 = .ok (.iload 4, 2) := by decide +kernel
theorem dX9_pure_48 : decode cX9_pure 48 = .ok (.ifCond .eq 27, 3) := by decide +kernel
theorem dX9_pure_51 : decode cX9_pure 51 = .ok (.aload_n 0, 1) := by decide +kernel
theorem dX9_pure_52 : decode cX9_pure 52 = .ok (.getfield 22, 3) := by decide +kernel
theorem dX9_pure_55 : decode cX9_pure 55 = .ok (.getfield 167, 3) := by decide +kernel
theorem dX9_pure_58 : decode cX9_pure 58 = .ok (.aload_n 0, 1) := by decide +kernel
theorem dX9_pure_59 : decode cX9_pure 59 = .ok (.getfield 10, 3) := by decide +kernel
theorem dX9_pure_62 : decode cX9_pure 62 = .ok (.getfield 92, 3) := by decide +kernel
theorem dX9_pure_65 : decode cX9_pure 65 = .ok (.invokestatic 168, 3) := by decide +kernel
theorem dX9_pure_68 : decode cX9_pure 68 = .ok (.ifCond .eq 7, 3) := by decide +kernel
theorem dX9_pure_71 : decode cX9_pure 71 = .ok (.iconst 1, 1) := by decide +kernel
theorem dX9_pure_72 : decode cX9_pure 72 = .ok (.goto 4, 3) := by decide +kernel
theorem dX9_pure_75 : decode cX9_pure 75 = .ok (.iconst 0, 1) := by decide +kernel
theorem dX9_pure_76 : decode cX9_pure 76 = .ok (.ireturn, 1) := by decide +kernel
theorem dX9_changes_0 : decode cX9_changes 0 = .ok (.aload_n 0, 1) := by decide +kernel
theorem dX9_changes_1 : decode cX9_changes 1 = .ok (.invokevirtual 107, 3) := by decide +kernel
theorem dX9_changes_4 : decode cX9_changes 4 = .ok (.pop, 1) := by decide +kernel
theorem dX9_changes_5 : decode cX9_changes 5 = .ok (.iconst 0, 1) := by decide +kernel
theorem dX9_changes_6 : decode cX9_changes 6 = .ok (.istore_n 1, 1) := by decide +kernel
theorem dX9_changes_7 : decode cX9_changes 7 = .ok (.iconst 0, 1) := by decide +kernel
theorem dX9_changes_8 : decode cX9_changes 8 = .ok (.istore_n 2, 1) := by decide +kernel
theorem dX9_changes_9 : decode cX9_changes 9 = .ok (.iload_n 2, 1) := by decide +kernel
theorem dX9_changes_10 : decode cX9_changes 10 = .ok (.bipush 10, 2) := by decide +kernel
theorem dX9_changes_12 : decode cX9_changes 12 = .ok (.if_icmp .ge 37, 3) := by decide +kernel
theorem dX9_changes_15 : decode cX9_changes 15 = .ok (.aload_n 0, 1) := by decide +kernel
theorem dX9_changes_16 : decode cX9_changes 16 = .ok (.getfield 22, 3) := by decide +kernel
theorem dX9_changes_19 : decode cX9_changes 19 = .ok (.getfield 172, 3) := by decide +kernel
theorem dX9_changes_22 : decode cX9_changes 22 = .ok (.iload_n 2, 1) := by decide +kernel
theorem dX9_changes_23 : decode cX9_changes 23 = .ok (.invokevirtual 173, 3) := by decide +kernel
theorem dX9_changes_26 : decode cX9_changes 26 = .ok (.aload_n 0, 1) := by decide +kernel
theorem dX9_changes_27 : decode cX9_changes 27 = .ok (.getfield 10, 3) := by decide +kernel
theorem dX9_changes_30 : decode cX9_changes 30 = .ok (.getfield 142, 3) := by decide +kernel
theorem dX9_changes_33 : decode cX9_changes 33 = .ok (.iload_n 2, 1) := by decide +kernel
theorem dX9_changes_34 : decode cX9_changes 34 = .ok (.invokevirtual 173, 3) := by decide +kernel
theorem dX9_changes_37 : decode cX9_changes 37 = .ok (.if_icmp .eq 6, 3) := by decide +kernel
theorem dX9_changes_40 : decode cX9_changes 40 = .ok (.iinc 1 1, 3) := by decide +kernel
theorem dX9_changes_43 : decode cX9_changes 43 = .ok (.iinc 2 1, 3) := by decide +kernel
theorem dX9_changes_46 : decode cX9_changes 46 = .ok (.goto (-37), 3) := by decide +kernel
theorem dX9_changes_49 : decode cX9_changes 49 = .ok (.iload_n 1, 1) := by decide +kernel
theorem dX9_changes_50 : decode cX9_changes 50 = .ok (.ireturn, 1) := by decide +kernel
theorem dX9_again_0 : decode cX9_again 0 = .ok (.iload_n 1, 1) := by decide +kernel
theorem dX9_again_1 : decode cX9_again 1 = .ok (.iconst 1, 1) := by decide +kernel
theorem dX9_again_2 : decode cX9_again 2 = .ok (.bipush 20, 2) := by decide +kernel
theorem dX9_again_4 : decode cX9_again 4 = .ok (.iload_n 2, 1) := by decide +kernel
theorem dX9_again_5 : decode cX9_again 5 = .ok (.invokestatic 176, 3) := by decide +kernel
theorem dX9_again_8 : decode cX9_again 8 = .ok (.istore_n 3, 1) := by decide +kernel
theorem dX9_again_9 : decode cX9_again 9 = .ok (.iload_n 3, 1) := by decide +kernel
theorem dX9_again_10 : decode cX9_again 10 = .ok (.ifCond .eq 9, 3) := by decide +kernel
theorem dX9_again_13 : decode cX9_again 13 = .ok (.aload_n 0, 1) := by decide +kernel
theorem dX9_again_14 : decode cX9_again 14 = .ok (.iload_n 3, 1) := by decide +kernel
theorem dX9_again_15 : decode cX9_again 15 = .ok (.invokevirtual 89, 3) := by decide +kernel
theorem dX9_again_18 : decode cX9_again 18 = .ok (.ireturn, 1) := by decide +kernel
theorem dX9_again_19 : decode cX9_again 19 = .ok (.iconst 0, 1) := by decide +kernel
theorem dX9_again_20 : decode cX9_again 20 = .ok (.istore 4, 2) := by decide +kernel
theorem dX9_again_22 : decode cX9_again 22 = .ok (.aload_n 0, 1) := by decide +kernel
theorem dX9_again_23 : decode cX9_again 23 = .ok (.getfield 22, 3) := by decide +kernel
theorem dX9_again_26 : decode cX9_again 26 = .ok (.aload_n 0, 1) := by decide +kernel
theorem dX9_again_27 : decode cX9_again 27 = .ok (.getfield 10, 3) := by decide +kernel
theorem dX9_again_30 : decode cX9_again 30 = .ok (.invokevirtual 180, 3) := by decide +kernel
theorem dX9_again_33 : decode cX9_again 33 = .ok (.iconst 0, 1) := by decide +kernel
theorem dX9_again_34 : decode cX9_again 34 = .ok (.istore 5, 2) := by decide +kernel
theorem dX9_again_36 : decode cX9_again 36 = .ok (.iload 5, 2) := by decide +kernel
theorem dX9_again_38 : decode cX9_again 38 = .ok (.iload_n 1, 1) := by decide +kernel
theorem dX9_again_39 : decode cX9_again 39 = .ok (.if_icmp .ge 26, 3) := by decide +kernel
theorem dX9_again_42 : decode cX9_again 42 = .ok (.aload_n 0, 1) := by decide +kernel
theorem dX9_again_43 : decode cX9_again 43 = .ok (.getfield 22, 3) := by decide +kernel
theorem dX9_again_46 : decode cX9_again 46 = .ok (.invokevirtual 164, 3) := by decide +kernel
theorem dX9_again_49 : decode cX9_again 49 = .ok (.getfield 119, 3) := by decide +kernel
theorem dX9_again_52 : decode cX9_again 52 = .ok (.iconst 3, 1) := by decide +kernel
theorem dX9_again_53 : decode cX9_again 53 = .ok (.if_icmp .ne 6, 3) := by decide +kernel
theorem dX9_again_56 : decode cX9_again 56 = .ok (.iinc 4 1, 3) := by decide +kernel
theorem dX9_again_59 : decode cX9_again 59 = .ok (.iinc 5 1, 3) := by decide +kernel
theorem dX9_again_62 : decode cX9_again 62 = .ok (.goto (-26), 3) := by decide +kernel
theorem dX9_again_65 : decode cX9_again 65 = .ok (.iload_n 2, 1) := by decide +kernel
theorem dX9_again_66 : decode cX9_again 66 = .ok (.ifCond .ne 8, 3) := by decide +kernel
theorem dX9_again_69 : decode cX9_again 69 = .ok (.iload 4, 2) := by decide +kernel
theorem dX9_again_71 : decode cX9_again 71 = .ok (.goto 14, 3) := by decide +kernel
theorem dX9_again_74 : decode cX9_again 74 = .ok (.aload_n 0, 1) := by decide +kernel
theorem dX9_again_75 : decode cX9_again 75 = .ok (.getfield 22, 3) := by decide +kernel
theorem dX9_again_78 : decode cX9_again 78 = .ok (.getfield 167, 3) := by decide +kernel
theorem dX9_again_81 : decode cX9_again 81 = .ok (.iconst 0, 1) := by decide +kernel
theorem dX9_again_82 : decode cX9_again 82 = .ok (.invokestatic 95, 3) := by decide +kernel
theorem dX9_again_85 : decode cX9_again 85 = .ok (.ireturn, 1) := by decide +kernel
theorem dX9_likely_0 : decode cX9_likely 0 = .ok (.iload_n 1, 1) := by decide +kernel
theorem dX9_likely_1 : decode cX9_likely 1 = .ok (.iconst 2, 1) := by decide +kernel
theorem dX9_likely_2 : decode cX9_likely 2 = .ok (.bipush 20, 2) := by decide +kernel
theorem dX9_likely_4 : decode cX9_likely 4 = .ok (.iload_n 2, 1) := by decide +kernel
theorem dX9_likely_5 : decode cX9_likely 5 = .ok (.invokestatic 176, 3) := by decide +kernel
theorem dX9_likely_8 : decode cX9_likely 8 = .ok (.istore_n 3, 1) := by decide +kernel
theorem dX9_likely_9 : decode cX9_likely 9 = .ok (.iload_n 3, 1) := by decide +kernel
theorem dX9_likely_10 : decode cX9_likely 10 = .ok (.ifCond .eq 9, 3) := by decide +kernel
theorem dX9_likely_13 : decode cX9_likely 13 = .ok (.aload_n 0, 1) := by decide +kernel
theorem dX9_likely_14 : decode cX9_likely 14 = .ok (.iload_n 3, 1) := by decide +kernel
theorem dX9_likely_15 : decode cX9_likely 15 = .ok (.invokevirtual 184, 3) := by decide +kernel
theorem dX9_likely_18 : decode cX9_likely 18 = .ok (.lreturn, 1) := by decide +kernel
theorem dX9_likely_19 : decode cX9_likely 19 = .ok (.lconst 0, 1) := by decide +kernel
theorem dX9_likely_20 : decode cX9_likely 20 = .ok (.lstore 4, 2) := by decide +kernel
theorem dX9_likely_22 : decode cX9_likely 22 = .ok (.iconst 0, 1) := by decide +kernel
theorem dX9_likely_23 : decode cX9_likely 23 = .ok (.istore 6, 2) := by decide +kernel
theorem dX9_likely_25 : decode cX9_likely 25 = .ok (.iload 6, 2) := by decide +kernel
theorem dX9_likely_27 : decode cX9_likely 27 = .ok (.bipush 8, 2) := by decide +kernel
theorem dX9_likely_29 : decode cX9_likely 29 = .ok (.if_icmp .ge 101, 3) := by decide +kernel
theorem dX9_likely_32 : decode cX9_likely 32 = .ok (.aload_n 0, 1) := by decide +kernel
theorem dX9_likely_33 : decode cX9_likely 33 = .ok (.getfield 22, 3) := by decide +kernel
theorem dX9_likely_36 : decode cX9_likely 36 = .ok (.aload_n 0, 1) := by decide +kernel
theorem dX9_likely_37 : decode cX9_likely 37 = .ok (.getfield 10, 3) := by decide +kernel
theorem dX9_likely_40 : decode cX9_likely 40 = .ok (.invokevirtual 180, 3) := by decide +kernel
theorem dX9_likely_43 : decode cX9_likely 43 = .ok (.lconst 1, 1) := by decide +kernel
theorem dX9_likely_44 : decode cX9_likely 44 = .ok (.lstore 7, 2) := by decide +kernel
theorem dX9_likely_46 : decode cX9_likely 46 = .ok (.iconst 0, 1) := by decide +kernel
theorem dX9_likely_47 : decode cX9_likely 47 = .ok (.istore 9, 2) := by decide +kernel
theorem dX9_likely_49 : decode cX9_likely 49 = .ok (.iload 9, 2) := by decide +kernel
theorem dX9_likely_51 : decode cX9_likely 51 = .ok (.iconst 3, 1) := by decide +kernel
theorem dX9_likely_52 : decode cX9_likely 52 = .ok (.if_icmp .ge 51, 3) := by decide +kernel
theorem dX9_likely_55 : decode cX9_likely 55 = .ok (.iload 6, 2) := by decide +kernel
theorem dX9_likely_57 : decode cX9_likely 57 = .ok (.iload 9, 2) := by decide +kernel
theorem dX9_likely_59 : decode cX9_likely 59 = .ok (.ishr, 1) := by decide +kernel
theorem dX9_likely_60 : decode cX9_likely 60 = .ok (.iconst 1, 1) := by decide +kernel
theorem dX9_likely_61 : decode cX9_likely 61 = .ok (.iand, 1) := by decide +kernel
theorem dX9_likely_62 : decode cX9_likely 62 = .ok (.istore 10, 2) := by decide +kernel
theorem dX9_likely_64 : decode cX9_likely 64 = .ok (.aload_n 0, 1) := by decide +kernel
theorem dX9_likely_65 : decode cX9_likely 65 = .ok (.getfield 22, 3) := by decide +kernel
theorem dX9_likely_68 : decode cX9_likely 68 = .ok (.getfield 167, 3) := by decide +kernel
theorem dX9_likely_71 : decode cX9_likely 71 = .ok (.iload 9, 2) := by decide +kernel
theorem dX9_likely_73 : decode cX9_likely 73 = .ok (.iload 10, 2) := by decide +kernel
theorem dX9_likely_75 : decode cX9_likely 75 = .ok (.invokestatic 103, 3) := by decide +kernel
theorem dX9_likely_78 : decode cX9_likely 78 = .ok (.lload 7, 2) := by decide +kernel
theorem dX9_likely_80 : decode cX9_likely 80 = .ok (.iload 10, 2) := by decide +kernel
theorem dX9_likely_82 : decode cX9_likely 82 = .ok (.iconst 1, 1) := by decide +kernel
theorem dX9_likely_83 : decode cX9_likely 83 = .ok (.if_icmp .ne 7, 3) := by decide +kernel
theorem dX9_likely_86 : decode cX9_likely 86 = .ok (.lconst 1, 1) := by decide +kernel
theorem dX9_likely_87 : decode cX9_likely 87 = .ok (.goto 7, 3) := by decide +kernel
theorem dX9_likely_90 : decode cX9_likely 90 = .ok (.iload_n 1, 1) := by decide +kernel
theorem dX9_likely_91 : decode cX9_likely 91 = .ok (.iconst 1, 1) := by decide +kernel
theorem dX9_likely_92 : decode cX9_likely 92 = .ok (.isub, 1) := by decide +kernel
theorem dX9_likely_93 : decode cX9_likely 93 = .ok (.i2l, 1) := by decide +kernel
theorem dX9_likely_94 : decode cX9_likely 94 = .ok (.lmul, 1) := by decide +kernel
theorem dX9_likely_95 : decode cX9_likely 95 = .ok (.lstore 7, 2) := by decide +kernel
theorem dX9_likely_97 : decode cX9_likely 97 = .ok (.iinc 9 1, 3) := by decide +kernel
theorem dX9_likely_100 : decode cX9_likely 100 = .ok (.goto (-51), 3) := by decide +kernel
theorem dX9_likely_103 : decode cX9_likely 103 = .ok (.aload_n 0, 1) := by decide +kernel
theorem dX9_likely_104 : decode cX9_likely 104 = .ok (.getfield 22, 3) := by decide +kernel
theorem dX9_likely_107 : decode cX9_likely 107 = .ok (.invokevirtual 164, 3) := by decide +kernel
theorem dX9_likely_110 : decode cX9_likely 110 = .ok (.getfield 119, 3) := by decide +kernel
theorem dX9_likely_113 : decode cX9_likely 113 = .ok (.iconst 3, 1) := by decide +kernel
theorem dX9_likely_114 : decode cX9_likely 114 = .ok (.if_icmp .eq 10, 3) := by decide +kernel
theorem dX9_likely_117 : decode cX9_likely 117 = .ok (.lload 4, 2) := by decide +kernel
theorem dX9_likely_119 : decode cX9_likely 119 = .ok (.lload 7, 2) := by decide +kernel
theorem dX9_likely_121 : decode cX9_likely 121 = .ok (.ladd, 1) := by decide +kernel
theorem dX9_likely_122 : decode cX9_likely 122 = .ok (.lstore 4, 2) := by decide +kernel
theorem dX9_likely_124 : decode cX9_likely 124 = .ok (.iinc 6 1, 3) := by decide +kernel
theorem dX9_likely_127 : decode cX9_likely 127 = .ok (.goto (-102), 3) := by decide +kernel
theorem dX9_likely_130 : decode cX9_likely 130 = .ok (.lload 4, 2) := by decide +kernel
theorem dX9_likely_132 : decode cX9_likely 132 = .ok (.iload_n 1, 1) := by decide +kernel
theorem dX9_likely_133 : decode cX9_likely 133 = .ok (.i2l, 1) := by decide +kernel
theorem dX9_likely_134 : decode cX9_likely 134 = .ok (.iload_n 1, 1) := by decide +kernel
theorem dX9_likely_135 : decode cX9_likely 135 = .ok (.i2l, 1) := by decide +kernel
theorem dX9_likely_136 : decode cX9_likely 136 = .ok (.lmul, 1) := by decide +kernel
theorem dX9_likely_137 : decode cX9_likely 137 = .ok (.iload_n 1, 1) := by decide +kernel
theorem dX9_likely_138 : decode cX9_likely 138 = .ok (.i2l, 1) := by decide +kernel
theorem dX9_likely_139 : decode cX9_likely 139 = .ok (.lmul, 1) := by decide +kernel
theorem dX9_likely_140 : decode cX9_likely 140 = .ok (.iload_n 2, 1) := by decide +kernel
theorem dX9_likely_141 : decode cX9_likely 141 = .ok (.invokestatic 188, 3) := by decide +kernel
theorem dX9_likely_144 : decode cX9_likely 144 = .ok (.lreturn, 1) := by decide +kernel
theorem dX9_mean_0 : decode cX9_mean 0 = .ok (.iload_n 1, 1) := by decide +kernel
theorem dX9_mean_1 : decode cX9_mean 1 = .ok (.invokestatic 85, 3) := by decide +kernel
theorem dX9_mean_4 : decode cX9_mean 4 = .ok (.ifCond .ne 9, 3) := by decide +kernel
theorem dX9_mean_7 : decode cX9_mean 7 = .ok (.aload_n 0, 1) := by decide +kernel
theorem dX9_mean_8 : decode cX9_mean 8 = .ok (.iconst (-1), 1) := by decide +kernel
theorem dX9_mean_9 : decode cX9_mean 9 = .ok (.invokevirtual 184, 3) := by decide +kernel
theorem dX9_mean_12 : decode cX9_mean 12 = .ok (.lreturn, 1) := by decide +kernel
theorem dX9_mean_13 : decode cX9_mean 13 = .ok (.iload_n 2, 1) := by decide +kernel
theorem dX9_mean_14 : decode cX9_mean 14 = .ok (.ifCond .lt 8, 3) := by decide +kernel
theorem dX9_mean_17 : decode cX9_mean 17 = .ok (.iload_n 2, 1) := by decide +kernel
theorem dX9_mean_18 : decode cX9_mean 18 = .ok (.iconst 1, 1) := by decide +kernel
theorem dX9_mean_19 : decode cX9_mean 19 = .ok (.if_icmp .le 10, 3) := by decide +kernel
theorem dX9_mean_22 : decode cX9_mean 22 = .ok (.aload_n 0, 1) := by decide +kernel
theorem dX9_mean_23 : decode cX9_mean 23 = .ok (.bipush (-2), 2) := by decide +kernel
theorem dX9_mean_25 : decode cX9_mean 25 = .ok (.invokevirtual 184, 3) := by decide +kernel
theorem dX9_mean_28 : decode cX9_mean 28 = .ok (.lreturn, 1) := by decide +kernel
theorem dX9_mean_29 : decode cX9_mean 29 = .ok (.lconst 0, 1) := by decide +kernel
theorem dX9_mean_30 : decode cX9_mean 30 = .ok (.lstore_n 3, 1) := by decide +kernel
theorem dX9_mean_31 : decode cX9_mean 31 = .ok (.iconst 0, 1) := by decide +kernel
theorem dX9_mean_32 : decode cX9_mean 32 = .ok (.istore 5, 2) := by decide +kernel
theorem dX9_mean_34 : decode cX9_mean 34 = .ok (.iload 5, 2) := by decide +kernel
theorem dX9_mean_36 : decode cX9_mean 36 = .ok (.bipush 10, 2) := by decide +kernel
theorem dX9_mean_38 : decode cX9_mean 38 = .ok (.if_icmp .ge 23, 3) := by decide +kernel
theorem dX9_mean_41 : decode cX9_mean 41 = .ok (.lload_n 3, 1) := by decide +kernel
theorem dX9_mean_42 : decode cX9_mean 42 = .ok (.aload_n 0, 1) := by decide +kernel
theorem dX9_mean_43 : decode cX9_mean 43 = .ok (.iload_n 1, 1) := by decide +kernel
theorem dX9_mean_44 : decode cX9_mean 44 = .ok (.iload 5, 2) := by decide +kernel
theorem dX9_mean_46 : decode cX9_mean 46 = .ok (.invokevirtual 150, 3) := by decide +kernel
theorem dX9_mean_49 : decode cX9_mean 49 = .ok (.getfield 158, 3) := by decide +kernel
theorem dX9_mean_52 : decode cX9_mean 52 = .ok (.i2l, 1) := by decide +kernel
theorem dX9_mean_53 : decode cX9_mean 53 = .ok (.ladd, 1) := by decide +kernel
theorem dX9_mean_54 : decode cX9_mean 54 = .ok (.lstore_n 3, 1) := by decide +kernel
theorem dX9_mean_55 : decode cX9_mean 55 = .ok (.iinc 5 1, 3) := by decide +kernel
theorem dX9_mean_58 : decode cX9_mean 58 = .ok (.goto (-24), 3) := by decide +kernel
theorem dX9_mean_61 : decode cX9_mean 61 = .ok (.lload_n 3, 1) := by decide +kernel
theorem dX9_mean_62 : decode cX9_mean 62 = .ok (.ldc2_w 192, 3) := by decide +kernel
theorem dX9_mean_65 : decode cX9_mean 65 = .ok (.iload_n 2, 1) := by decide +kernel
theorem dX9_mean_66 : decode cX9_mean 66 = .ok (.invokestatic 188, 3) := by decide +kernel
theorem dX9_mean_69 : decode cX9_mean 69 = .ok (.lreturn, 1) := by decide +kernel
theorem dX9_whatIs_0 : decode cX9_whatIs 0 = .ok (.iload_n 1, 1) := by decide +kernel
theorem dX9_whatIs_1 : decode cX9_whatIs 1 = .ok (.invokestatic 85, 3) := by decide +kernel
theorem dX9_whatIs_4 : decode cX9_whatIs 4 = .ok (.ifCond .ne 9, 3) := by decide +kernel
theorem dX9_whatIs_7 : decode cX9_whatIs 7 = .ok (.aload_n 0, 1) := by decide +kernel
theorem dX9_whatIs_8 : decode cX9_whatIs 8 = .ok (.iconst (-1), 1) := by decide +kernel
theorem dX9_whatIs_9 : decode cX9_whatIs 9 = .ok (.invokevirtual 51, 3) := by decide +kernel
theorem dX9_whatIs_12 : decode cX9_whatIs 12 = .ok (.ireturn, 1) := by decide +kernel
theorem dX9_whatIs_13 : decode cX9_whatIs 13 = .ok (.aload_n 0, 1) := by decide +kernel
theorem dX9_whatIs_14 : decode cX9_whatIs 14 = .ok (.getfield 43, 3) := by decide +kernel
theorem dX9_whatIs_17 : decode cX9_whatIs 17 = .ok (.ifCond .ne 7, 3) := by decide +kernel
theorem dX9_whatIs_20 : decode cX9_whatIs 20 = .ok (.iconst 0, 1) := by decide +kernel
theorem dX9_whatIs_21 : decode cX9_whatIs 21 = .ok (.goto 12, 3) := by decide +kernel
theorem dX9_whatIs_24 : decode cX9_whatIs 24 = .ok (.bipush 16, 2) := by decide +kernel
theorem dX9_whatIs_26 : decode cX9_whatIs 26 = .ok (.aload_n 0, 1) := by decide +kernel
theorem dX9_whatIs_27 : decode cX9_whatIs 27 = .ok (.getfield 43, 3) := by decide +kernel
theorem dX9_whatIs_30 : decode cX9_whatIs 30 = .ok (.iadd, 1) := by decide +kernel
theorem dX9_whatIs_31 : decode cX9_whatIs 31 = .ok (.iconst 1, 1) := by decide +kernel
theorem dX9_whatIs_32 : decode cX9_whatIs 32 = .ok (.isub, 1) := by decide +kernel
theorem dX9_whatIs_33 : decode cX9_whatIs 33 = .ok (.istore_n 2, 1) := by decide +kernel
theorem dX9_whatIs_34 : decode cX9_whatIs 34 = .ok (.iconst 0, 1) := by decide +kernel
theorem dX9_whatIs_35 : decode cX9_whatIs 35 = .ok (.istore_n 3, 1) := by decide +kernel
theorem dX9_whatIs_36 : decode cX9_whatIs 36 = .ok (.iload_n 3, 1) := by decide +kernel
theorem dX9_whatIs_37 : decode cX9_whatIs 37 = .ok (.iload_n 2, 1) := by decide +kernel
theorem dX9_whatIs_38 : decode cX9_whatIs 38 = .ok (.if_icmp .ge 26, 3) := by decide +kernel
theorem dX9_whatIs_41 : decode cX9_whatIs 41 = .ok (.aload_n 0, 1) := by decide +kernel
theorem dX9_whatIs_42 : decode cX9_whatIs 42 = .ok (.getfield 40, 3) := by decide +kernel
theorem dX9_whatIs_45 : decode cX9_whatIs 45 = .ok (.iload_n 3, 1) := by decide +kernel
theorem dX9_whatIs_46 : decode cX9_whatIs 46 = .ok (.aload_n 0, 1) := by decide +kernel
theorem dX9_whatIs_47 : decode cX9_whatIs 47 = .ok (.iload_n 1, 1) := by decide +kernel
theorem dX9_whatIs_48 : decode cX9_whatIs 48 = .ok (.iload_n 3, 1) := by decide +kernel
theorem dX9_whatIs_49 : decode cX9_whatIs 49 = .ok (.invokevirtual 150, 3) := by decide +kernel
theorem dX9_whatIs_52 : decode cX9_whatIs 52 = .ok (.getfield 119, 3) := by decide +kernel
theorem dX9_whatIs_55 : decode cX9_whatIs 55 = .ok (.invokestatic 103, 3) := by decide +kernel
theorem dX9_whatIs_58 : decode cX9_whatIs 58 = .ok (.iinc 3 1, 3) := by decide +kernel
theorem dX9_whatIs_61 : decode cX9_whatIs 61 = .ok (.goto (-25), 3) := by decide +kernel
theorem dX9_whatIs_64 : decode cX9_whatIs 64 = .ok (.iconst 0, 1) := by decide +kernel
theorem dX9_whatIs_65 : decode cX9_whatIs 65 = .ok (.istore_n 3, 1) := by decide +kernel
theorem dX9_whatIs_66 : decode cX9_whatIs 66 = .ok (.iconst 0, 1) := by decide +kernel
theorem dX9_whatIs_67 : decode cX9_whatIs 67 = .ok (.istore 4, 2) := by decide +kernel
theorem dX9_whatIs_69 : decode cX9_whatIs 69 = .ok (.iload 4, 2) := by decide +kernel
theorem dX9_whatIs_71 : decode cX9_whatIs 71 = .ok (.bipush 16, 2) := by decide +kernel
theorem dX9_whatIs_73 : decode cX9_whatIs 73 = .ok (.if_icmp .ge 25, 3) := by decide +kernel
theorem dX9_whatIs_76 : decode cX9_whatIs 76 = .ok (.aload_n 0, 1) := by decide +kernel
theorem dX9_whatIs_77 : decode cX9_whatIs 77 = .ok (.iload 4, 2) := by decide +kernel
theorem dX9_whatIs_79 : decode cX9_whatIs 79 = .ok (.invokevirtual 194, 3) := by decide +kernel
theorem dX9_whatIs_82 : decode cX9_whatIs 82 = .ok (.ifCond .eq 10, 3) := by decide +kernel
theorem dX9_whatIs_85 : decode cX9_whatIs 85 = .ok (.iload_n 3, 1) := by decide +kernel
theorem dX9_whatIs_86 : decode cX9_whatIs 86 = .ok (.iconst 1, 1) := by decide +kernel
theorem dX9_whatIs_87 : decode cX9_whatIs 87 = .ok (.iload 4, 2) := by decide +kernel
theorem dX9_whatIs_89 : decode cX9_whatIs 89 = .ok (.ishl, 1) := by decide +kernel
theorem dX9_whatIs_90 : decode cX9_whatIs 90 = .ok (.ior, 1) := by decide +kernel
theorem dX9_whatIs_91 : decode cX9_whatIs 91 = .ok (.istore_n 3, 1) := by decide +kernel
theorem dX9_whatIs_92 : decode cX9_whatIs 92 = .ok (.iinc 4 1, 3) := by decide +kernel
theorem dX9_whatIs_95 : decode cX9_whatIs 95 = .ok (.goto (-26), 3) := by decide +kernel
theorem dX9_whatIs_98 : decode cX9_whatIs 98 = .ok (.iload_n 3, 1) := by decide +kernel
theorem dX9_whatIs_99 : decode cX9_whatIs 99 = .ok (.ireturn, 1) := by decide +kernel
theorem dX9_row_0 : decode cX9_row 0 = .ok (.iload_n 1, 1) := by decide +kernel
theorem dX9_row_1 : decode cX9_row 1 = .ok (.ifCond .ge 10, 3) := by decide +kernel
theorem dX9_row_4 : decode cX9_row 4 = .ok (.aload_n 0, 1) := by decide +kernel
theorem dX9_row_5 : decode cX9_row 5 = .ok (.bipush (-4), 2) := by decide +kernel
theorem dX9_row_7 : decode cX9_row 7 = .ok (.invokevirtual 51, 3) := by decide +kernel
theorem dX9_row_10 : decode cX9_row 10 = .ok (.ireturn, 1) := by decide +kernel
theorem dX9_row_11 : decode cX9_row 11 = .ok (.iload_n 1, 1) := by decide +kernel
theorem dX9_row_12 : decode cX9_row 12 = .ok (.bipush 99, 2) := by decide +kernel
theorem dX9_row_14 : decode cX9_row 14 = .ok (.if_icmp .gt 12, 3) := by decide +kernel
theorem dX9_row_17 : decode cX9_row 17 = .ok (.aload_n 0, 1) := by decide +kernel
theorem dX9_row_18 : decode cX9_row 18 = .ok (.getfield 43, 3) := by decide +kernel
theorem dX9_row_21 : decode cX9_row 21 = .ok (.bipush 16, 2) := by decide +kernel
theorem dX9_row_23 : decode cX9_row 23 = .ok (.if_icmp .lt 10, 3) := by decide +kernel
theorem dX9_row_26 : decode cX9_row 26 = .ok (.aload_n 0, 1) := by decide +kernel
theorem dX9_row_27 : decode cX9_row 27 = .ok (.bipush (-6), 2) := by decide +kernel
theorem dX9_row_29 : decode cX9_row 29 = .ok (.invokevirtual 51, 3) := by decide +kernel
theorem dX9_row_32 : decode cX9_row 32 = .ok (.ireturn, 1) := by decide +kernel
theorem dX9_row_33 : decode cX9_row 33 = .ok (.aload_n 0, 1) := by decide +kernel
theorem dX9_row_34 : decode cX9_row 34 = .ok (.getfield 33, 3) := by decide +kernel
theorem dX9_row_37 : decode cX9_row 37 = .ok (.aload_n 0, 1) := by decide +kernel
theorem dX9_row_38 : decode cX9_row 38 = .ok (.getfield 43, 3) := by decide +kernel
theorem dX9_row_41 : decode cX9_row 41 = .ok (.iload_n 1, 1) := by decide +kernel
theorem dX9_row_42 : decode cX9_row 42 = .ok (.invokestatic 103, 3) := by decide +kernel
theorem dX9_row_45 : decode cX9_row 45 = .ok (.aload_n 0, 1) := by decide +kernel
theorem dX9_row_46 : decode cX9_row 46 = .ok (.dup, 1) := by decide +kernel
theorem dX9_row_47 : decode cX9_row 47 = .ok (.getfield 43, 3) := by decide +kernel
theorem dX9_row_50 : decode cX9_row 50 = .ok (.iconst 1, 1) := by decide +kernel
theorem dX9_row_51 : decode cX9_row 51 = .ok (.iadd, 1) := by decide +kernel
theorem dX9_row_52 : decode cX9_row 52 = .ok (.putfield 43, 3) := by decide +kernel
theorem dX9_row_55 : decode cX9_row 55 = .ok (.aload_n 0, 1) := by decide +kernel
theorem dX9_row_56 : decode cX9_row 56 = .ok (.getfield 43, 3) := by decide +kernel
theorem dX9_row_59 : decode cX9_row 59 = .ok (.ireturn, 1) := by decide +kernel
theorem dX9_judge_0 : decode cX9_judge 0 = .ok (.bipush (-9), 2) := by decide +kernel
theorem dX9_judge_2 : decode cX9_judge 2 = .ok (.istore_n 1, 1) := by decide +kernel
theorem dX9_judge_3 : decode cX9_judge 3 = .ok (.iconst 0, 1) := by decide +kernel
theorem dX9_judge_4 : decode cX9_judge 4 = .ok (.istore_n 2, 1) := by decide +kernel
theorem dX9_judge_5 : decode cX9_judge 5 = .ok (.iload_n 2, 1) := by decide +kernel
theorem dX9_judge_6 : decode cX9_judge 6 = .ok (.aload_n 0, 1) := by decide +kernel
theorem dX9_judge_7 : decode cX9_judge 7 = .ok (.getfield 43, 3) := by decide +kernel
theorem dX9_judge_10 : decode cX9_judge 10 = .ok (.if_icmp .ge 37, 3) := by decide +kernel
theorem dX9_judge_13 : decode cX9_judge 13 = .ok (.iload_n 1, 1) := by decide +kernel
theorem dX9_judge_14 : decode cX9_judge 14 = .ok (.bipush (-9), 2) := by decide +kernel
theorem dX9_judge_16 : decode cX9_judge 16 = .ok (.if_icmp .ne 31, 3) := by decide +kernel
theorem dX9_judge_19 : decode cX9_judge 19 = .ok (.aload_n 0, 1) := by decide +kernel
theorem dX9_judge_20 : decode cX9_judge 20 = .ok (.iconst 0, 1) := by decide +kernel
theorem dX9_judge_21 : decode cX9_judge 21 = .ok (.iload_n 2, 1) := by decide +kernel
theorem dX9_judge_22 : decode cX9_judge 22 = .ok (.invokevirtual 150, 3) := by decide +kernel
theorem dX9_judge_25 : decode cX9_judge 25 = .ok (.aload_n 0, 1) := by decide +kernel
theorem dX9_judge_26 : decode cX9_judge 26 = .ok (.getfield 33, 3) := by decide +kernel
theorem dX9_judge_29 : decode cX9_judge 29 = .ok (.iload_n 2, 1) := by decide +kernel
theorem dX9_judge_30 : decode cX9_judge 30 = .ok (.invokestatic 95, 3) := by decide +kernel
theorem dX9_judge_33 : decode cX9_judge 33 = .ok (.invokevirtual 154, 3) := by decide +kernel
theorem dX9_judge_36 : decode cX9_judge 36 = .ok (.ifCond .ne 5, 3) := by decide +kernel
theorem dX9_judge_39 : decode cX9_judge 39 = .ok (.iload_n 2, 1) := by decide +kernel
theorem dX9_judge_40 : decode cX9_judge 40 = .ok (.istore_n 1, 1) := by decide +kernel
theorem dX9_judge_41 : decode cX9_judge 41 = .ok (.iinc 2 1, 3) := by decide +kernel
theorem dX9_judge_44 : decode cX9_judge 44 = .ok (.goto (-39), 3) := by decide +kernel
theorem dX9_judge_47 : decode cX9_judge 47 = .ok (.aload_n 0, 1) := by decide +kernel
theorem dX9_judge_48 : decode cX9_judge 48 = .ok (.iconst 0, 1) := by decide +kernel
theorem dX9_judge_49 : decode cX9_judge 49 = .ok (.putfield 43, 3) := by decide +kernel
theorem dX9_judge_52 : decode cX9_judge 52 = .ok (.iload_n 1, 1) := by decide +kernel
theorem dX9_judge_53 : decode cX9_judge 53 = .ok (.ireturn, 1) := by decide +kernel
theorem dX9_clear_0 : decode cX9_clear 0 = .ok (.aload_n 0, 1) := by decide +kernel
theorem dX9_clear_1 : decode cX9_clear 1 = .ok (.getfield 43, 3) := by decide +kernel
theorem dX9_clear_4 : decode cX9_clear 4 = .ok (.istore_n 1, 1) := by decide +kernel
theorem dX9_clear_5 : decode cX9_clear 5 = .ok (.aload_n 0, 1) := by decide +kernel
theorem dX9_clear_6 : decode cX9_clear 6 = .ok (.iconst 0, 1) := by decide +kernel
theorem dX9_clear_7 : decode cX9_clear 7 = .ok (.putfield 43, 3) := by decide +kernel
theorem dX9_clear_10 : decode cX9_clear 10 = .ok (.iload_n 1, 1) := by decide +kernel
theorem dX9_clear_11 : decode cX9_clear 11 = .ok (.ireturn, 1) := by decide +kernel
theorem dX9_lots_0 : decode cX9_lots 0 = .ok (.iload_n 1, 1) := by decide +kernel
theorem dX9_lots_1 : decode cX9_lots 1 = .ok (.iconst 1, 1) := by decide +kernel
theorem dX9_lots_2 : decode cX9_lots 2 = .ok (.bipush 20, 2) := by decide +kernel
theorem dX9_lots_4 : decode cX9_lots 4 = .ok (.iload_n 3, 1) := by decide +kernel
theorem dX9_lots_5 : decode cX9_lots 5 = .ok (.invokestatic 176, 3) := by decide +kernel
theorem dX9_lots_8 : decode cX9_lots 8 = .ok (.istore 4, 2) := by decide +kernel
theorem dX9_lots_10 : decode cX9_lots 10 = .ok (.iload 4, 2) := by decide +kernel
theorem dX9_lots_12 : decode cX9_lots 12 = .ok (.ifCond .eq 10, 3) := by decide +kernel
theorem dX9_lots_15 : decode cX9_lots 15 = .ok (.aload_n 0, 1) := by decide +kernel
theorem dX9_lots_16 : decode cX9_lots 16 = .ok (.iload 4, 2) := by decide +kernel
theorem dX9_lots_18 : decode cX9_lots 18 = .ok (.invokevirtual 89, 3) := by decide +kernel
theorem dX9_lots_21 : decode cX9_lots 21 = .ok (.ireturn, 1) := by decide +kernel
theorem dX9_lots_22 : decode cX9_lots 22 = .ok (.iload_n 2, 1) := by decide +kernel
theorem dX9_lots_23 : decode cX9_lots 23 = .ok (.istore 5, 2) := by decide +kernel
theorem dX9_lots_25 : decode cX9_lots 25 = .ok (.iconst 0, 1) := by decide +kernel
theorem dX9_lots_26 : decode cX9_lots 26 = .ok (.istore 6, 2) := by decide +kernel
theorem dX9_lots_28 : decode cX9_lots 28 = .ok (.iconst 0, 1) := by decide +kernel
theorem dX9_lots_29 : decode cX9_lots 29 = .ok (.istore 7, 2) := by decide +kernel
theorem dX9_lots_31 : decode cX9_lots 31 = .ok (.iconst 0, 1) := by decide +kernel
theorem dX9_lots_32 : decode cX9_lots 32 = .ok (.istore 8, 2) := by decide +kernel
theorem dX9_lots_34 : decode cX9_lots 34 = .ok (.iload 8, 2) := by decide +kernel
theorem dX9_lots_36 : decode cX9_lots 36 = .ok (.iload_n 1, 1) := by decide +kernel
theorem dX9_lots_37 : decode cX9_lots 37 = .ok (.if_icmp .ge 110, 3) := by decide +kernel
theorem dX9_lots_40 : decode cX9_lots 40 = .ok (.aload_n 0, 1) := by decide +kernel
theorem dX9_lots_41 : decode cX9_lots 41 = .ok (.getfield 22, 3) := by decide +kernel
theorem dX9_lots_44 : decode cX9_lots 44 = .ok (.aload_n 0, 1) := by decide +kernel
theorem dX9_lots_45 : decode cX9_lots 45 = .ok (.getfield 10, 3) := by decide +kernel
theorem dX9_lots_48 : decode cX9_lots 48 = .ok (.invokevirtual 180, 3) := by decide +kernel
theorem dX9_lots_51 : decode cX9_lots 51 = .ok (.iconst 0, 1) := by decide +kernel
theorem dX9_lots_52 : decode cX9_lots 52 = .ok (.istore 9, 2) := by decide +kernel
theorem dX9_lots_54 : decode cX9_lots 54 = .ok (.iload 9, 2) := by decide +kernel
theorem dX9_lots_56 : decode cX9_lots 56 = .ok (.bipush 6, 2) := by decide +kernel
theorem dX9_lots_58 : decode cX9_lots 58 = .ok (.if_icmp .ge 33, 3) := by decide +kernel
theorem dX9_lots_61 : decode cX9_lots 61 = .ok (.iload 5, 2) := by decide +kernel
theorem dX9_lots_63 : decode cX9_lots 63 = .ok (.invokestatic 197, 3) := by decide +kernel
theorem dX9_lots_66 : decode cX9_lots 66 = .ok (.istore 5, 2) := by decide +kernel
theorem dX9_lots_68 : decode cX9_lots 68 = .ok (.aload_n 0, 1) := by decide +kernel
theorem dX9_lots_69 : decode cX9_lots 69 = .ok (.getfield 22, 3) := by decide +kernel
theorem dX9_lots_72 : decode cX9_lots 72 = .ok (.getfield 167, 3) := by decide +kernel
theorem dX9_lots_75 : decode cX9_lots 75 = .ok (.iload 9, 2) := by decide +kernel
theorem dX9_lots_77 : decode cX9_lots 77 = .ok (.iload 5, 2) := by decide +kernel
theorem dX9_lots_79 : decode cX9_lots 79 = .ok (.invokestatic 200, 3) := by decide +kernel
theorem dX9_lots_82 : decode cX9_lots 82 = .ok (.invokestatic 103, 3) := by decide +kernel
theorem dX9_lots_85 : decode cX9_lots 85 = .ok (.iinc 9 1, 3) := by decide +kernel
theorem dX9_lots_88 : decode cX9_lots 88 = .ok (.goto (-34), 3) := by decide +kernel
theorem dX9_lots_91 : decode cX9_lots 91 = .ok (.aload_n 0, 1) := by decide +kernel
theorem dX9_lots_92 : decode cX9_lots 92 = .ok (.getfield 22, 3) := by decide +kernel
theorem dX9_lots_95 : decode cX9_lots 95 = .ok (.invokevirtual 164, 3) := by decide +kernel
theorem dX9_lots_98 : decode cX9_lots 98 = .ok (.astore 9, 2) := by decide +kernel
theorem dX9_lots_100 : decode cX9_lots 100 = .ok (.iload 6, 2) := by decide +kernel
theorem dX9_lots_102 : decode cX9_lots 102 = .ok (.aload 9, 2) := by decide +kernel
theorem dX9_lots_104 : decode cX9_lots 104 = .ok (.getfield 119, 3) := by decide +kernel
theorem dX9_lots_107 : decode cX9_lots 107 = .ok (.ifCond .ne 11, 3) := by decide +kernel
theorem dX9_lots_110 : decode cX9_lots 110 = .ok (.aload 9, 2) := by decide +kernel
theorem dX9_lots_112 : decode cX9_lots 112 = .ok (.getfield 161, 3) := by decide +kernel
theorem dX9_lots_115 : decode cX9_lots 115 = .ok (.goto 4, 3) := by decide +kernel
theorem dX9_lots_118 : decode cX9_lots 118 = .ok (.iconst 0, 1) := by decide +kernel
theorem dX9_lots_119 : decode cX9_lots 119 = .ok (.iadd, 1) := by decide +kernel
theorem dX9_lots_120 : decode cX9_lots 120 = .ok (.istore 6, 2) := by decide +kernel
theorem dX9_lots_122 : decode cX9_lots 122 = .ok (.iload 7, 2) := by decide +kernel
theorem dX9_lots_124 : decode cX9_lots 124 = .ok (.aload 9, 2) := by decide +kernel
theorem dX9_lots_126 : decode cX9_lots 126 = .ok (.getfield 119, 3) := by decide +kernel
theorem dX9_lots_129 : decode cX9_lots 129 = .ok (.iconst 3, 1) := by decide +kernel
theorem dX9_lots_130 : decode cX9_lots 130 = .ok (.if_icmp .ne 7, 3) := by decide +kernel
theorem dX9_lots_133 : decode cX9_lots 133 = .ok (.iconst 1, 1) := by decide +kernel
theorem dX9_lots_134 : decode cX9_lots 134 = .ok (.goto 4, 3) := by decide +kernel
theorem dX9_lots_137 : decode cX9_lots 137 = .ok (.iconst 0, 1) := by decide +kernel
theorem dX9_lots_138 : decode cX9_lots 138 = .ok (.iadd, 1) := by decide +kernel
theorem dX9_lots_139 : decode cX9_lots 139 = .ok (.istore 7, 2) := by decide +kernel
theorem dX9_lots_141 : decode cX9_lots 141 = .ok (.iinc 8 1, 3) := by decide +kernel
theorem dX9_lots_144 : decode cX9_lots 144 = .ok (.goto (-110), 3) := by decide +kernel
theorem dX9_lots_147 : decode cX9_lots 147 = .ok (.iload_n 3, 1) := by decide +kernel
theorem dX9_lots_148 : decode cX9_lots 148 = .ok (.ifCond .ne 8, 3) := by decide +kernel
theorem dX9_lots_151 : decode cX9_lots 151 = .ok (.iload 6, 2) := by decide +kernel
theorem dX9_lots_153 : decode cX9_lots 153 = .ok (.goto 5, 3) := by decide +kernel
theorem dX9_lots_156 : decode cX9_lots 156 = .ok (.iload 7, 2) := by decide +kernel
theorem dX9_lots_158 : decode cX9_lots 158 = .ok (.ireturn, 1) := by decide +kernel
theorem dX9_image_0 : decode cX9_image 0 = .ok (.aload_n 0, 1) := by decide +kernel
theorem dX9_image_1 : decode cX9_image 1 = .ok (.getfield 16, 3) := by decide +kernel
theorem dX9_image_4 : decode cX9_image 4 = .ok (.aload_n 0, 1) := by decide +kernel
theorem dX9_image_5 : decode cX9_image 5 = .ok (.getfield 10, 3) := by decide +kernel
theorem dX9_image_8 : decode cX9_image 8 = .ok (.invokevirtual 203, 3) := by decide +kernel
theorem dX9_image_11 : decode cX9_image 11 = .ok (.aload_n 0, 1) := by decide +kernel
theorem dX9_image_12 : decode cX9_image 12 = .ok (.iconst 1, 1) := by decide +kernel
theorem dX9_image_13 : decode cX9_image 13 = .ok (.putfield 47, 3) := by decide +kernel
theorem dX9_image_16 : decode cX9_image 16 = .ok (.aload_n 0, 1) := by decide +kernel
theorem dX9_image_17 : decode cX9_image 17 = .ok (.getfield 16, 3) := by decide +kernel
theorem dX9_image_20 : decode cX9_image 20 = .ok (.getfield 66, 3) := by decide +kernel
theorem dX9_image_23 : decode cX9_image 23 = .ok (.getfield 80, 3) := by decide +kernel
theorem dX9_image_26 : decode cX9_image 26 = .ok (.ireturn, 1) := by decide +kernel
theorem dX9_on_0 : decode cX9_on 0 = .ok (.aload_n 0, 1) := by decide +kernel
theorem dX9_on_1 : decode cX9_on 1 = .ok (.getfield 47, 3) := by decide +kernel
theorem dX9_on_4 : decode cX9_on 4 = .ok (.ifCond .ne 10, 3) := by decide +kernel
theorem dX9_on_7 : decode cX9_on 7 = .ok (.aload_n 0, 1) := by decide +kernel
theorem dX9_on_8 : decode cX9_on 8 = .ok (.bipush (-3), 2) := by decide +kernel
theorem dX9_on_10 : decode cX9_on 10 = .ok (.invokevirtual 51, 3) := by decide +kernel
theorem dX9_on_13 : decode cX9_on 13 = .ok (.ireturn, 1) := by decide +kernel
theorem dX9_on_14 : decode cX9_on 14 = .ok (.aload_n 0, 1) := by decide +kernel
theorem dX9_on_15 : decode cX9_on 15 = .ok (.getfield 10, 3) := by decide +kernel
theorem dX9_on_18 : decode cX9_on 18 = .ok (.aload_n 0, 1) := by decide +kernel
theorem dX9_on_19 : decode cX9_on 19 = .ok (.getfield 16, 3) := by decide +kernel
theorem dX9_on_22 : decode cX9_on 22 = .ok (.invokevirtual 203, 3) := by decide +kernel
theorem dX9_on_25 : decode cX9_on 25 = .ok (.aload_n 0, 1) := by decide +kernel
theorem dX9_on_26 : decode cX9_on 26 = .ok (.getfield 10, 3) := by decide +kernel
theorem dX9_on_29 : decode cX9_on 29 = .ok (.getfield 66, 3) := by decide +kernel
theorem dX9_on_32 : decode cX9_on 32 = .ok (.getfield 80, 3) := by decide +kernel
theorem dX9_on_35 : decode cX9_on 35 = .ok (.ireturn, 1) := by decide +kernel
theorem dX9_count_0 : decode cX9_count 0 = .ok (.iload_n 1, 1) := by decide +kernel
theorem dX9_count_1 : decode cX9_count 1 = .ok (.tableswitch 128 0 7 #[47, 58, 69, 85, 96, 107, 115, 120], 47) := by decide +kernel
theorem dX9_count_48 : decode cX9_count 48 = .ok (.aload_n 0, 1) := by decide +kernel
theorem dX9_count_49 : decode cX9_count 49 = .ok (.getfield 10, 3) := by decide +kernel
theorem dX9_count_52 : decode cX9_count 52 = .ok (.getfield 66, 3) := by decide +kernel
theorem dX9_count_55 : decode cX9_count 55 = .ok (.getfield 80, 3) := by decide +kernel
theorem dX9_count_58 : decode cX9_count 58 = .ok (.ireturn, 1) := by decide +kernel
theorem dX9_count_59 : decode cX9_count 59 = .ok (.aload_n 0, 1) := by decide +kernel
theorem dX9_count_60 : decode cX9_count 60 = .ok (.getfield 10, 3) := by decide +kernel
theorem dX9_count_63 : decode cX9_count 63 = .ok (.getfield 66, 3) := by decide +kernel
theorem dX9_count_66 : decode cX9_count 66 = .ok (.getfield 139, 3) := by decide +kernel
theorem dX9_count_69 : decode cX9_count 69 = .ok (.ireturn, 1) := by decide +kernel
theorem dX9_count_70 : decode cX9_count 70 = .ok (.aload_n 0, 1) := by decide +kernel
theorem dX9_count_71 : decode cX9_count 71 = .ok (.getfield 10, 3) := by decide +kernel
theorem dX9_count_74 : decode cX9_count 74 = .ok (.getfield 127, 3) := by decide +kernel
theorem dX9_count_77 : decode cX9_count 77 = .ok (.ifCond .eq 7, 3) := by decide +kernel
theorem dX9_count_80 : decode cX9_count 80 = .ok (.iconst 1, 1) := by decide +kernel
theorem dX9_count_81 : decode cX9_count 81 = .ok (.goto 4, 3) := by decide +kernel
theorem dX9_count_84 : decode cX9_count 84 = .ok (.iconst 0, 1) := by decide +kernel
theorem dX9_count_85 : decode cX9_count 85 = .ok (.ireturn, 1) := by decide +kernel
theorem dX9_count_86 : decode cX9_count 86 = .ok (.aload_n 0, 1) := by decide +kernel
theorem dX9_count_87 : decode cX9_count 87 = .ok (.getfield 10, 3) := by decide +kernel
theorem dX9_count_90 : decode cX9_count 90 = .ok (.getfield 142, 3) := by decide +kernel
theorem dX9_count_93 : decode cX9_count 93 = .ok (.invokevirtual 206, 3) := by decide +kernel
theorem dX9_count_96 : decode cX9_count 96 = .ok (.ireturn, 1) := by decide +kernel
theorem dX9_count_97 : decode cX9_count 97 = .ok (.aload_n 0, 1) := by decide +kernel
theorem dX9_count_98 : decode cX9_count 98 = .ok (.getfield 10, 3) := by decide +kernel
theorem dX9_count_101 : decode cX9_count 101 = .ok (.getfield 142, 3) := by decide +kernel
theorem dX9_count_104 : decode cX9_count 104 = .ok (.invokevirtual 209, 3) := by decide +kernel
theorem dX9_count_107 : decode cX9_count 107 = .ok (.ireturn, 1) := by decide +kernel
theorem dX9_count_108 : decode cX9_count 108 = .ok (.aload_n 0, 1) := by decide +kernel
theorem dX9_count_109 : decode cX9_count 109 = .ok (.getfield 10, 3) := by decide +kernel
theorem dX9_count_112 : decode cX9_count 112 = .ok (.getfield 212, 3) := by decide +kernel
theorem dX9_count_115 : decode cX9_count 115 = .ok (.ireturn, 1) := by decide +kernel
theorem dX9_count_116 : decode cX9_count 116 = .ok (.aload_n 0, 1) := by decide +kernel
theorem dX9_count_117 : decode cX9_count 117 = .ok (.getfield 43, 3) := by decide +kernel
theorem dX9_count_120 : decode cX9_count 120 = .ok (.ireturn, 1) := by decide +kernel
theorem dX9_count_121 : decode cX9_count 121 = .ok (.aload_n 0, 1) := by decide +kernel
theorem dX9_count_122 : decode cX9_count 122 = .ok (.getfield 29, 3) := by decide +kernel
theorem dX9_count_125 : decode cX9_count 125 = .ok (.getfield 215, 3) := by decide +kernel
theorem dX9_count_128 : decode cX9_count 128 = .ok (.ireturn, 1) := by decide +kernel
theorem dX9_count_129 : decode cX9_count 129 = .ok (.iload_n 1, 1) := by decide +kernel
theorem dX9_count_130 : decode cX9_count 130 = .ok (.bipush 10, 2) := by decide +kernel
theorem dX9_count_132 : decode cX9_count 132 = .ok (.if_icmp .le 9, 3) := by decide +kernel
theorem dX9_count_135 : decode cX9_count 135 = .ok (.iload_n 1, 1) := by decide +kernel
theorem dX9_count_136 : decode cX9_count 136 = .ok (.bipush 16, 2) := by decide +kernel
theorem dX9_count_138 : decode cX9_count 138 = .ok (.if_icmp .le 6, 3) := by decide +kernel
theorem dX9_count_141 : decode cX9_count 141 = .ok (.bipush (-9), 2) := by decide +kernel
theorem dX9_count_143 : decode cX9_count 143 = .ok (.ireturn, 1) := by decide +kernel
theorem dX9_count_144 : decode cX9_count 144 = .ok (.aload_n 0, 1) := by decide +kernel
theorem dX9_count_145 : decode cX9_count 145 = .ok (.getfield 37, 3) := by decide +kernel
theorem dX9_count_148 : decode cX9_count 148 = .ok (.iload_n 1, 1) := by decide +kernel
theorem dX9_count_149 : decode cX9_count 149 = .ok (.bipush 10, 2) := by decide +kernel
theorem dX9_count_151 : decode cX9_count 151 = .ok (.isub, 1) := by decide +kernel
theorem dX9_count_152 : decode cX9_count 152 = .ok (.invokestatic 95, 3) := by decide +kernel
theorem dX9_count_155 : decode cX9_count 155 = .ok (.ireturn, 1) := by decide +kernel
theorem dX9_thinkOf_0 : decode cX9_thinkOf 0 = .ok (.aload_n 0, 1) := by decide +kernel
theorem dX9_thinkOf_1 : decode cX9_thinkOf 1 = .ok (.getfield 22, 3) := by decide +kernel
theorem dX9_thinkOf_4 : decode cX9_thinkOf 4 = .ok (.aload_n 0, 1) := by decide +kernel
theorem dX9_thinkOf_5 : decode cX9_thinkOf 5 = .ok (.getfield 10, 3) := by decide +kernel
theorem dX9_thinkOf_8 : decode cX9_thinkOf 8 = .ok (.invokevirtual 180, 3) := by decide +kernel
theorem dX9_thinkOf_11 : decode cX9_thinkOf 11 = .ok (.aload_n 0, 1) := by decide +kernel
theorem dX9_thinkOf_12 : decode cX9_thinkOf 12 = .ok (.getfield 22, 3) := by decide +kernel
theorem dX9_thinkOf_15 : decode cX9_thinkOf 15 = .ok (.invokevirtual 164, 3) := by decide +kernel
theorem dX9_thinkOf_18 : decode cX9_thinkOf 18 = .ok (.areturn, 1) := by decide +kernel
theorem dX9_thinkWith_0 : decode cX9_thinkWith 0 = .ok (.aload_n 0, 1) := by decide +kernel
theorem dX9_thinkWith_1 : decode cX9_thinkWith 1 = .ok (.getfield 22, 3) := by decide +kernel
theorem dX9_thinkWith_4 : decode cX9_thinkWith 4 = .ok (.aload_n 0, 1) := by decide +kernel
theorem dX9_thinkWith_5 : decode cX9_thinkWith 5 = .ok (.getfield 10, 3) := by decide +kernel
theorem dX9_thinkWith_8 : decode cX9_thinkWith 8 = .ok (.invokevirtual 180, 3) := by decide +kernel
theorem dX9_thinkWith_11 : decode cX9_thinkWith 11 = .ok (.aload_n 0, 1) := by decide +kernel
theorem dX9_thinkWith_12 : decode cX9_thinkWith 12 = .ok (.getfield 22, 3) := by decide +kernel
theorem dX9_thinkWith_15 : decode cX9_thinkWith 15 = .ok (.getfield 167, 3) := by decide +kernel
theorem dX9_thinkWith_18 : decode cX9_thinkWith 18 = .ok (.iload_n 1, 1) := by decide +kernel
theorem dX9_thinkWith_19 : decode cX9_thinkWith 19 = .ok (.iload_n 2, 1) := by decide +kernel
theorem dX9_thinkWith_20 : decode cX9_thinkWith 20 = .ok (.invokestatic 103, 3) := by decide +kernel
theorem dX9_thinkWith_23 : decode cX9_thinkWith 23 = .ok (.aload_n 0, 1) := by decide +kernel
theorem dX9_thinkWith_24 : decode cX9_thinkWith 24 = .ok (.getfield 22, 3) := by decide +kernel
theorem dX9_thinkWith_27 : decode cX9_thinkWith 27 = .ok (.invokevirtual 164, 3) := by decide +kernel
theorem dX9_thinkWith_30 : decode cX9_thinkWith 30 = .ok (.areturn, 1) := by decide +kernel
theorem dX9_rowTellsEndsFrom_0 : decode cX9_rowTellsEndsFrom 0 = .ok (.iconst 0, 1) := by decide +kernel
theorem dX9_rowTellsEndsFrom_1 : decode cX9_rowTellsEndsFrom 1 = .ok (.istore_n 2, 1) := by decide +kernel
theorem dX9_rowTellsEndsFrom_2 : decode cX9_rowTellsEndsFrom 2 = .ok (.iload_n 2, 1) := by decide +kernel
theorem dX9_rowTellsEndsFrom_3 : decode cX9_rowTellsEndsFrom 3 = .ok (.aload_n 0, 1) := by decide +kernel
theorem dX9_rowTellsEndsFrom_4 : decode cX9_rowTellsEndsFrom 4 = .ok (.getfield 43, 3) := by decide +kernel
theorem dX9_rowTellsEndsFrom_7 : decode cX9_rowTellsEndsFrom 7 = .ok (.if_icmp .ge 32, 3) := by decide +kernel
theorem dX9_rowTellsEndsFrom_10 : decode cX9_rowTellsEndsFrom 10 = .ok (.aload_n 0, 1) := by decide +kernel
theorem dX9_rowTellsEndsFrom_11 : decode cX9_rowTellsEndsFrom 11 = .ok (.getfield 33, 3) := by decide +kernel
theorem dX9_rowTellsEndsFrom_14 : decode cX9_rowTellsEndsFrom 14 = .ok (.iload_n 2, 1) := by decide +kernel
theorem dX9_rowTellsEndsFrom_15 : decode cX9_rowTellsEndsFrom 15 = .ok (.invokestatic 95, 3) := by decide +kernel
theorem dX9_rowTellsEndsFrom_18 : decode cX9_rowTellsEndsFrom 18 = .ok (.aload_n 0, 1) := by decide +kernel
theorem dX9_rowTellsEndsFrom_19 : decode cX9_rowTellsEndsFrom 19 = .ok (.getfield 40, 3) := by decide +kernel
theorem dX9_rowTellsEndsFrom_22 : decode cX9_rowTellsEndsFrom 22 = .ok (.iload_n 1, 1) := by decide +kernel
theorem dX9_rowTellsEndsFrom_23 : decode cX9_rowTellsEndsFrom 23 = .ok (.iload_n 2, 1) := by decide +kernel
theorem dX9_rowTellsEndsFrom_24 : decode cX9_rowTellsEndsFrom 24 = .ok (.iadd, 1) := by decide +kernel
theorem dX9_rowTellsEndsFrom_25 : decode cX9_rowTellsEndsFrom 25 = .ok (.invokestatic 95, 3) := by decide +kernel
theorem dX9_rowTellsEndsFrom_28 : decode cX9_rowTellsEndsFrom 28 = .ok (.if_icmp .eq 5, 3) := by decide +kernel
theorem dX9_rowTellsEndsFrom_31 : decode cX9_rowTellsEndsFrom 31 = .ok (.iconst 0, 1) := by decide +kernel
theorem dX9_rowTellsEndsFrom_32 : decode cX9_rowTellsEndsFrom 32 = .ok (.ireturn, 1) := by decide +kernel
theorem dX9_rowTellsEndsFrom_33 : decode cX9_rowTellsEndsFrom 33 = .ok (.iinc 2 1, 3) := by decide +kernel
theorem dX9_rowTellsEndsFrom_36 : decode cX9_rowTellsEndsFrom 36 = .ok (.goto (-34), 3) := by decide +kernel
theorem dX9_rowTellsEndsFrom_39 : decode cX9_rowTellsEndsFrom 39 = .ok (.iconst 1, 1) := by decide +kernel
theorem dX9_rowTellsEndsFrom_40 : decode cX9_rowTellsEndsFrom 40 = .ok (.ireturn, 1) := by decide +kernel
theorem dX9_refuse_0 : decode cX9_refuse 0 = .ok (.aload_n 0, 1) := by decide +kernel
theorem dX9_refuse_1 : decode cX9_refuse 1 = .ok (.getfield 37, 3) := by decide +kernel
theorem dX9_refuse_4 : decode cX9_refuse 4 = .ok (.iload_n 1, 1) := by decide +kernel
theorem dX9_refuse_5 : decode cX9_refuse 5 = .ok (.ineg, 1) := by decide +kernel
theorem dX9_refuse_6 : decode cX9_refuse 6 = .ok (.aload_n 0, 1) := by decide +kernel
theorem dX9_refuse_7 : decode cX9_refuse 7 = .ok (.getfield 37, 3) := by decide +kernel
theorem dX9_refuse_10 : decode cX9_refuse 10 = .ok (.iload_n 1, 1) := by decide +kernel
theorem dX9_refuse_11 : decode cX9_refuse 11 = .ok (.ineg, 1) := by decide +kernel
theorem dX9_refuse_12 : decode cX9_refuse 12 = .ok (.invokestatic 95, 3) := by decide +kernel
theorem dX9_refuse_15 : decode cX9_refuse 15 = .ok (.iconst 1, 1) := by decide +kernel
theorem dX9_refuse_16 : decode cX9_refuse 16 = .ok (.iadd, 1) := by decide +kernel
theorem dX9_refuse_17 : decode cX9_refuse 17 = .ok (.invokestatic 103, 3) := by decide +kernel
theorem dX9_refuse_20 : decode cX9_refuse 20 = .ok (.iload_n 1, 1) := by decide +kernel
theorem dX9_refuse_21 : decode cX9_refuse 21 = .ok (.ireturn, 1) := by decide +kernel
theorem dX9_refuseNumber_0 : decode cX9_refuseNumber 0 = .ok (.ldc 218, 2) := by decide +kernel
theorem dX9_refuseNumber_2 : decode cX9_refuseNumber 2 = .ok (.aload_n 0, 1) := by decide +kernel
theorem dX9_refuseNumber_3 : decode cX9_refuseNumber 3 = .ok (.iload_n 1, 1) := by decide +kernel
theorem dX9_refuseNumber_4 : decode cX9_refuseNumber 4 = .ok (.invokevirtual 51, 3) := by decide +kernel
theorem dX9_refuseNumber_7 : decode cX9_refuseNumber 7 = .ok (.isub, 1) := by decide +kernel
theorem dX9_refuseNumber_8 : decode cX9_refuseNumber 8 = .ok (.ireturn, 1) := by decide +kernel
theorem dX9_refuseLong_0 : decode cX9_refuseLong 0 = .ok (.ldc2_w 219, 3) := by decide +kernel
theorem dX9_refuseLong_3 : decode cX9_refuseLong 3 = .ok (.aload_n 0, 1) := by decide +kernel
theorem dX9_refuseLong_4 : decode cX9_refuseLong 4 = .ok (.iload_n 1, 1) := by decide +kernel
theorem dX9_refuseLong_5 : decode cX9_refuseLong 5 = .ok (.invokevirtual 51, 3) := by decide +kernel
theorem dX9_refuseLong_8 : decode cX9_refuseLong 8 = .ok (.i2l, 1) := by decide +kernel
theorem dX9_refuseLong_9 : decode cX9_refuseLong 9 = .ok (.lsub, 1) := by decide +kernel
theorem dX9_refuseLong_10 : decode cX9_refuseLong 10 = .ok (.lreturn, 1) := by decide +kernel
theorem dX9_refusalOfGlobal_0 : decode cX9_refusalOfGlobal 0 = .ok (.iload_n 0, 1) := by decide +kernel
theorem dX9_refusalOfGlobal_1 : decode cX9_refusalOfGlobal 1 = .ok (.invokestatic 85, 3) := by decide +kernel
theorem dX9_refusalOfGlobal_4 : decode cX9_refusalOfGlobal 4 = .ok (.ifCond .ne 5, 3) := by decide +kernel
theorem dX9_refusalOfGlobal_7 : decode cX9_refusalOfGlobal 7 = .ok (.iconst (-1), 1) := by decide +kernel
theorem dX9_refusalOfGlobal_8 : decode cX9_refusalOfGlobal 8 = .ok (.ireturn, 1) := by decide +kernel
theorem dX9_refusalOfGlobal_9 : decode cX9_refusalOfGlobal 9 = .ok (.iload_n 1, 1) := by decide +kernel
theorem dX9_refusalOfGlobal_10 : decode cX9_refusalOfGlobal 10 = .ok (.sipush (-9999), 3) := by decide +kernel
theorem dX9_refusalOfGlobal_13 : decode cX9_refusalOfGlobal 13 = .ok (.if_icmp .ge 6, 3) := by decide +kernel
theorem dX9_refusalOfGlobal_16 : decode cX9_refusalOfGlobal 16 = .ok (.bipush (-4), 2) := by decide +kernel
theorem dX9_refusalOfGlobal_18 : decode cX9_refusalOfGlobal 18 = .ok (.ireturn, 1) := by decide +kernel
theorem dX9_refusalOfGlobal_19 : decode cX9_refusalOfGlobal 19 = .ok (.iload_n 1, 1) := by decide +kernel
theorem dX9_refusalOfGlobal_20 : decode cX9_refusalOfGlobal 20 = .ok (.sipush 9999, 3) := by decide +kernel
theorem dX9_refusalOfGlobal_23 : decode cX9_refusalOfGlobal 23 = .ok (.if_icmp .le 8, 3) := by decide +kernel
theorem dX9_refusalOfGlobal_26 : decode cX9_refusalOfGlobal 26 = .ok (.bipush (-6), 2) := by decide +kernel
theorem dX9_refusalOfGlobal_28 : decode cX9_refusalOfGlobal 28 = .ok (.goto 4, 3) := by decide +kernel
theorem dX9_refusalOfGlobal_31 : decode cX9_refusalOfGlobal 31 = .ok (.iconst 0, 1) := by decide +kernel
theorem dX9_refusalOfGlobal_32 : decode cX9_refusalOfGlobal 32 = .ok (.ireturn, 1) := by decide +kernel
theorem dX9_refusalOfMany_0 : decode cX9_refusalOfMany 0 = .ok (.iload_n 0, 1) := by decide +kernel
theorem dX9_refusalOfMany_1 : decode cX9_refusalOfMany 1 = .ok (.iload_n 1, 1) := by decide +kernel
theorem dX9_refusalOfMany_2 : decode cX9_refusalOfMany 2 = .ok (.if_icmp .ge 6, 3) := by decide +kernel
theorem dX9_refusalOfMany_5 : decode cX9_refusalOfMany 5 = .ok (.bipush (-4), 2) := by decide +kernel
theorem dX9_refusalOfMany_7 : decode cX9_refusalOfMany 7 = .ok (.ireturn, 1) := by decide +kernel
theorem dX9_refusalOfMany_8 : decode cX9_refusalOfMany 8 = .ok (.iload_n 0, 1) := by decide +kernel
theorem dX9_refusalOfMany_9 : decode cX9_refusalOfMany 9 = .ok (.iload_n 2, 1) := by decide +kernel
theorem dX9_refusalOfMany_10 : decode cX9_refusalOfMany 10 = .ok (.if_icmp .le 6, 3) := by decide +kernel
theorem dX9_refusalOfMany_13 : decode cX9_refusalOfMany 13 = .ok (.bipush (-6), 2) := by decide +kernel
theorem dX9_refusalOfMany_15 : decode cX9_refusalOfMany 15 = .ok (.ireturn, 1) := by decide +kernel
theorem dX9_refusalOfMany_16 : decode cX9_refusalOfMany 16 = .ok (.iload_n 3, 1) := by decide +kernel
theorem dX9_refusalOfMany_17 : decode cX9_refusalOfMany 17 = .ok (.ifCond .lt 8, 3) := by decide +kernel
theorem dX9_refusalOfMany_20 : decode cX9_refusalOfMany 20 = .ok (.iload_n 3, 1) := by decide +kernel
theorem dX9_refusalOfMany_21 : decode cX9_refusalOfMany 21 = .ok (.iconst 1, 1) := by decide +kernel
theorem dX9_refusalOfMany_22 : decode cX9_refusalOfMany 22 = .ok (.if_icmp .le 8, 3) := by decide +kernel
theorem dX9_refusalOfMany_25 : decode cX9_refusalOfMany 25 = .ok (.bipush (-2), 2) := by decide +kernel
theorem dX9_refusalOfMany_27 : decode cX9_refusalOfMany 27 = .ok (.goto 4, 3) := by decide +kernel
theorem dX9_refusalOfMany_30 : decode cX9_refusalOfMany 30 = .ok (.iconst 0, 1) := by decide +kernel
theorem dX9_refusalOfMany_31 : decode cX9_refusalOfMany 31 = .ok (.ireturn, 1) := by decide +kernel
theorem dX9_isVariable_0 : decode cX9_isVariable 0 = .ok (.iload_n 0, 1) := by decide +kernel
theorem dX9_isVariable_1 : decode cX9_isVariable 1 = .ok (.ifCond .lt 13, 3) := by decide +kernel
theorem dX9_isVariable_4 : decode cX9_isVariable 4 = .ok (.iload_n 0, 1) := by decide +kernel
theorem dX9_isVariable_5 : decode cX9_isVariable 5 = .ok (.bipush 6, 2) := by decide +kernel
theorem dX9_isVariable_7 : decode cX9_isVariable 7 = .ok (.if_icmp .ge 7, 3) := by decide +kernel
theorem dX9_isVariable_10 : decode cX9_isVariable 10 = .ok (.iconst 1, 1) := by decide +kernel
theorem dX9_isVariable_11 : decode cX9_isVariable 11 = .ok (.goto 4, 3) := by decide +kernel
theorem dX9_isVariable_14 : decode cX9_isVariable 14 = .ok (.iconst 0, 1) := by decide +kernel
theorem dX9_isVariable_15 : decode cX9_isVariable 15 = .ok (.ireturn, 1) := by decide +kernel
theorem dX9_isOfEnding_0 : decode cX9_isOfEnding 0 = .ok (.iload_n 0, 1) := by decide +kernel
theorem dX9_isOfEnding_1 : decode cX9_isOfEnding 1 = .ok (.ifCond .lt 12, 3) := by decide +kernel
theorem dX9_isOfEnding_4 : decode cX9_isOfEnding 4 = .ok (.iload_n 0, 1) := by decide +kernel
theorem dX9_isOfEnding_5 : decode cX9_isOfEnding 5 = .ok (.iconst 5, 1) := by decide +kernel
theorem dX9_isOfEnding_6 : decode cX9_isOfEnding 6 = .ok (.if_icmp .gt 7, 3) := by decide +kernel
theorem dX9_isOfEnding_9 : decode cX9_isOfEnding 9 = .ok (.iconst 1, 1) := by decide +kernel
theorem dX9_isOfEnding_10 : decode cX9_isOfEnding 10 = .ok (.goto 4, 3) := by decide +kernel
theorem dX9_isOfEnding_13 : decode cX9_isOfEnding 13 = .ok (.iconst 0, 1) := by decide +kernel
theorem dX9_isOfEnding_14 : decode cX9_isOfEnding 14 = .ok (.ireturn, 1) := by decide +kernel
theorem dX9_nextSeed_0 : decode cX9_nextSeed 0 = .ok (.iload_n 0, 1) := by decide +kernel
theorem dX9_nextSeed_1 : decode cX9_nextSeed 1 = .ok (.ldc 221, 2) := by decide +kernel
theorem dX9_nextSeed_3 : decode cX9_nextSeed 3 = .ok (.imul, 1) := by decide +kernel
theorem dX9_nextSeed_4 : decode cX9_nextSeed 4 = .ok (.ldc 222, 2) := by decide +kernel
theorem dX9_nextSeed_6 : decode cX9_nextSeed 6 = .ok (.iadd, 1) := by decide +kernel
theorem dX9_nextSeed_7 : decode cX9_nextSeed 7 = .ok (.ireturn, 1) := by decide +kernel
theorem dX9_drawOf_0 : decode cX9_drawOf 0 = .ok (.iload_n 0, 1) := by decide +kernel
theorem dX9_drawOf_1 : decode cX9_drawOf 1 = .ok (.ldc 223, 2) := by decide +kernel
theorem dX9_drawOf_3 : decode cX9_drawOf 3 = .ok (.iand, 1) := by decide +kernel
theorem dX9_drawOf_4 : decode cX9_drawOf 4 = .ok (.sipush 256, 3) := by decide +kernel
theorem dX9_drawOf_7 : decode cX9_drawOf 7 = .ok (.idiv, 1) := by decide +kernel
theorem dX9_drawOf_8 : decode cX9_drawOf 8 = .ok (.bipush 10, 2) := by decide +kernel
theorem dX9_drawOf_10 : decode cX9_drawOf 10 = .ok (.irem, 1) := by decide +kernel
theorem dX9_drawOf_11 : decode cX9_drawOf 11 = .ok (.ireturn, 1) := by decide +kernel
theorem dX9_partOfFraction_0 : decode cX9_partOfFraction 0 = .ok (.lload_n 0, 1) := by decide +kernel
theorem dX9_partOfFraction_1 : decode cX9_partOfFraction 1 = .ok (.lload_n 2, 1) := by decide +kernel
theorem dX9_partOfFraction_2 : decode cX9_partOfFraction 2 = .ok (.invokestatic 224, 3) := by decide +kernel
theorem dX9_partOfFraction_5 : decode cX9_partOfFraction 5 = .ok (.lstore 5, 2) := by decide +kernel
theorem dX9_partOfFraction_7 : decode cX9_partOfFraction 7 = .ok (.lload 5, 2) := by decide +kernel
theorem dX9_partOfFraction_9 : decode cX9_partOfFraction 9 = .ok (.lconst 0, 1) := by decide +kernel
theorem dX9_partOfFraction_10 : decode cX9_partOfFraction 10 = .ok (.lcmp, 1) := by decide +kernel
theorem dX9_partOfFraction_11 : decode cX9_partOfFraction 11 = .ok (.ifCond .ne 5, 3) := by decide +kernel
theorem dX9_partOfFraction_14 : decode cX9_partOfFraction 14 = .ok (.lconst 0, 1) := by decide +kernel
theorem dX9_partOfFraction_15 : decode cX9_partOfFraction 15 = .ok (.lreturn, 1) := by decide +kernel
theorem dX9_partOfFraction_16 : decode cX9_partOfFraction 16 = .ok (.iload 4, 2) := by decide +kernel
theorem dX9_partOfFraction_18 : decode cX9_partOfFraction 18 = .ok (.ifCond .ne 10, 3) := by decide +kernel
theorem dX9_partOfFraction_21 : decode cX9_partOfFraction 21 = .ok (.lload_n 0, 1) := by decide +kernel
theorem dX9_partOfFraction_22 : decode cX9_partOfFraction 22 = .ok (.lload 5, 2) := by decide +kernel
theorem dX9_partOfFraction_24 : decode cX9_partOfFraction 24 = .ok (.ldiv, 1) := by decide +kernel
theorem dX9_partOfFraction_25 : decode cX9_partOfFraction 25 = .ok (.goto 7, 3) := by decide +kernel
theorem dX9_partOfFraction_28 : decode cX9_partOfFraction 28 = .ok (.lload_n 2, 1) := by decide +kernel
theorem dX9_partOfFraction_29 : decode cX9_partOfFraction 29 = .ok (.lload 5, 2) := by decide +kernel
theorem dX9_partOfFraction_31 : decode cX9_partOfFraction 31 = .ok (.ldiv, 1) := by decide +kernel
theorem dX9_partOfFraction_32 : decode cX9_partOfFraction 32 = .ok (.lreturn, 1) := by decide +kernel
theorem dX9_greatestDivisor_0 : decode cX9_greatestDivisor 0 = .ok (.lload_n 0, 1) := by decide +kernel
theorem dX9_greatestDivisor_1 : decode cX9_greatestDivisor 1 = .ok (.lstore 4, 2) := by decide +kernel
theorem dX9_greatestDivisor_3 : decode cX9_greatestDivisor 3 = .ok (.lload_n 2, 1) := by decide +kernel
theorem dX9_greatestDivisor_4 : decode cX9_greatestDivisor 4 = .ok (.lstore 6, 2) := by decide +kernel
theorem dX9_greatestDivisor_6 : decode cX9_greatestDivisor 6 = .ok (.iconst 0, 1) := by decide +kernel
theorem dX9_greatestDivisor_7 : decode cX9_greatestDivisor 7 = .ok (.istore 8, 2) := by decide +kernel
theorem dX9_greatestDivisor_9 : decode cX9_greatestDivisor 9 = .ok (.iload 8, 2) := by decide +kernel
theorem dX9_greatestDivisor_11 : decode cX9_greatestDivisor 11 = .ok (.bipush 100, 2) := by decide +kernel
theorem dX9_greatestDivisor_13 : decode cX9_greatestDivisor 13 = .ok (.if_icmp .ge 31, 3) := by decide +kernel
theorem dX9_greatestDivisor_16 : decode cX9_greatestDivisor 16 = .ok (.lload 6, 2) := by decide +kernel
theorem dX9_greatestDivisor_18 : decode cX9_greatestDivisor 18 = .ok (.lconst 0, 1) := by decide +kernel
theorem dX9_greatestDivisor_19 : decode cX9_greatestDivisor 19 = .ok (.lcmp, 1) := by decide +kernel
theorem dX9_greatestDivisor_20 : decode cX9_greatestDivisor 20 = .ok (.ifCond .eq 24, 3) := by decide +kernel
theorem dX9_greatestDivisor_23 : decode cX9_greatestDivisor 23 = .ok (.lload 4, 2) := by decide +kernel
theorem dX9_greatestDivisor_25 : decode cX9_greatestDivisor 25 = .ok (.lload 6, 2) := by decide +kernel
theorem dX9_greatestDivisor_27 : decode cX9_greatestDivisor 27 = .ok (.lrem, 1) := by decide +kernel
theorem dX9_greatestDivisor_28 : decode cX9_greatestDivisor 28 = .ok (.lstore 9, 2) := by decide +kernel
theorem dX9_greatestDivisor_30 : decode cX9_greatestDivisor 30 = .ok (.lload 6, 2) := by decide +kernel
theorem dX9_greatestDivisor_32 : decode cX9_greatestDivisor 32 = .ok (.lstore 4, 2) := by decide +kernel
theorem dX9_greatestDivisor_34 : decode cX9_greatestDivisor 34 = .ok (.lload 9, 2) := by decide +kernel
theorem dX9_greatestDivisor_36 : decode cX9_greatestDivisor 36 = .ok (.lstore 6, 2) := by decide +kernel
theorem dX9_greatestDivisor_38 : decode cX9_greatestDivisor 38 = .ok (.iinc 8 1, 3) := by decide +kernel
theorem dX9_greatestDivisor_41 : decode cX9_greatestDivisor 41 = .ok (.goto (-32), 3) := by decide +kernel
theorem dX9_greatestDivisor_44 : decode cX9_greatestDivisor 44 = .ok (.lload 4, 2) := by decide +kernel
theorem dX9_greatestDivisor_46 : decode cX9_greatestDivisor 46 = .ok (.lreturn, 1) := by decide +kernel
theorem dX9_sameRows_0 : decode cX9_sameRows 0 = .ok (.iconst 0, 1) := by decide +kernel
theorem dX9_sameRows_1 : decode cX9_sameRows 1 = .ok (.istore_n 2, 1) := by decide +kernel
theorem dX9_sameRows_2 : decode cX9_sameRows 2 = .ok (.iload_n 2, 1) := by decide +kernel
theorem dX9_sameRows_3 : decode cX9_sameRows 3 = .ok (.aload_n 0, 1) := by decide +kernel
theorem dX9_sameRows_4 : decode cX9_sameRows 4 = .ok (.arraylength, 1) := by decide +kernel
theorem dX9_sameRows_5 : decode cX9_sameRows 5 = .ok (.if_icmp .ge 22, 3) := by decide +kernel
theorem dX9_sameRows_8 : decode cX9_sameRows 8 = .ok (.aload_n 0, 1) := by decide +kernel
theorem dX9_sameRows_9 : decode cX9_sameRows 9 = .ok (.iload_n 2, 1) := by decide +kernel
theorem dX9_sameRows_10 : decode cX9_sameRows 10 = .ok (.iaload, 1) := by decide +kernel
theorem dX9_sameRows_11 : decode cX9_sameRows 11 = .ok (.aload_n 1, 1) := by decide +kernel
theorem dX9_sameRows_12 : decode cX9_sameRows 12 = .ok (.iload_n 2, 1) := by decide +kernel
theorem dX9_sameRows_13 : decode cX9_sameRows 13 = .ok (.invokestatic 95, 3) := by decide +kernel
theorem dX9_sameRows_16 : decode cX9_sameRows 16 = .ok (.if_icmp .eq 5, 3) := by decide +kernel
theorem dX9_sameRows_19 : decode cX9_sameRows 19 = .ok (.iconst 0, 1) := by decide +kernel
theorem dX9_sameRows_20 : decode cX9_sameRows 20 = .ok (.ireturn, 1) := by decide +kernel
theorem dX9_sameRows_21 : decode cX9_sameRows 21 = .ok (.iinc 2 1, 3) := by decide +kernel
theorem dX9_sameRows_24 : decode cX9_sameRows 24 = .ok (.goto (-22), 3) := by decide +kernel
theorem dX9_sameRows_27 : decode cX9_sameRows 27 = .ok (.aload_n 0, 1) := by decide +kernel
theorem dX9_sameRows_28 : decode cX9_sameRows 28 = .ok (.arraylength, 1) := by decide +kernel
theorem dX9_sameRows_29 : decode cX9_sameRows 29 = .ok (.aload_n 1, 1) := by decide +kernel
theorem dX9_sameRows_30 : decode cX9_sameRows 30 = .ok (.arraylength, 1) := by decide +kernel
theorem dX9_sameRows_31 : decode cX9_sameRows 31 = .ok (.if_icmp .ne 7, 3) := by decide +kernel
theorem dX9_sameRows_34 : decode cX9_sameRows 34 = .ok (.iconst 1, 1) := by decide +kernel
theorem dX9_sameRows_35 : decode cX9_sameRows 35 = .ok (.goto 4, 3) := by decide +kernel
theorem dX9_sameRows_38 : decode cX9_sameRows 38 = .ok (.iconst 0, 1) := by decide +kernel
theorem dX9_sameRows_39 : decode cX9_sameRows 39 = .ok (.ireturn, 1) := by decide +kernel
theorem dX9_at_0 : decode cX9_at 0 = .ok (.iload_n 1, 1) := by decide +kernel
theorem dX9_at_1 : decode cX9_at 1 = .ok (.ifCond .lt 15, 3) := by decide +kernel
theorem dX9_at_4 : decode cX9_at 4 = .ok (.iload_n 1, 1) := by decide +kernel
theorem dX9_at_5 : decode cX9_at 5 = .ok (.aload_n 0, 1) := by decide +kernel
theorem dX9_at_6 : decode cX9_at 6 = .ok (.arraylength, 1) := by decide +kernel
theorem dX9_at_7 : decode cX9_at 7 = .ok (.if_icmp .ge 9, 3) := by decide +kernel
theorem dX9_at_10 : decode cX9_at 10 = .ok (.aload_n 0, 1) := by decide +kernel
theorem dX9_at_11 : decode cX9_at 11 = .ok (.iload_n 1, 1) := by decide +kernel
theorem dX9_at_12 : decode cX9_at 12 = .ok (.iaload, 1) := by decide +kernel
theorem dX9_at_13 : decode cX9_at 13 = .ok (.goto 4, 3) := by decide +kernel
theorem dX9_at_16 : decode cX9_at 16 = .ok (.iconst 0, 1) := by decide +kernel
theorem dX9_at_17 : decode cX9_at 17 = .ok (.ireturn, 1) := by decide +kernel
theorem dX9_put_0 : decode cX9_put 0 = .ok (.iload_n 1, 1) := by decide +kernel
theorem dX9_put_1 : decode cX9_put 1 = .ok (.ifCond .lt 13, 3) := by decide +kernel
theorem dX9_put_4 : decode cX9_put 4 = .ok (.iload_n 1, 1) := by decide +kernel
theorem dX9_put_5 : decode cX9_put 5 = .ok (.aload_n 0, 1) := by decide +kernel
theorem dX9_put_6 : decode cX9_put 6 = .ok (.arraylength, 1) := by decide +kernel
theorem dX9_put_7 : decode cX9_put 7 = .ok (.if_icmp .ge 7, 3) := by decide +kernel
theorem dX9_put_10 : decode cX9_put 10 = .ok (.aload_n 0, 1) := by decide +kernel
theorem dX9_put_11 : decode cX9_put 11 = .ok (.iload_n 1, 1) := by decide +kernel
theorem dX9_put_12 : decode cX9_put 12 = .ok (.iload_n 2, 1) := by decide +kernel
theorem dX9_put_13 : decode cX9_put 13 = .ok (.iastore, 1) := by decide +kernel
theorem dX9_put_14 : decode cX9_put 14 = .ok (.return_, 1) := by decide +kernel
theorem dX9_copyRow_0 : decode cX9_copyRow 0 = .ok (.aload_n 0, 1) := by decide +kernel
theorem dX9_copyRow_1 : decode cX9_copyRow 1 = .ok (.iconst 0, 1) := by decide +kernel
theorem dX9_copyRow_2 : decode cX9_copyRow 2 = .ok (.aload_n 1, 1) := by decide +kernel
theorem dX9_copyRow_3 : decode cX9_copyRow 3 = .ok (.iconst 0, 1) := by decide +kernel
theorem dX9_copyRow_4 : decode cX9_copyRow 4 = .ok (.aload_n 0, 1) := by decide +kernel
theorem dX9_copyRow_5 : decode cX9_copyRow 5 = .ok (.arraylength, 1) := by decide +kernel
theorem dX9_copyRow_6 : decode cX9_copyRow 6 = .ok (.aload_n 1, 1) := by decide +kernel
theorem dX9_copyRow_7 : decode cX9_copyRow 7 = .ok (.arraylength, 1) := by decide +kernel
theorem dX9_copyRow_8 : decode cX9_copyRow 8 = .ok (.invokestatic 228, 3) := by decide +kernel
theorem dX9_copyRow_11 : decode cX9_copyRow 11 = .ok (.invokestatic 233, 3) := by decide +kernel
theorem dX9_copyRow_14 : decode cX9_copyRow 14 = .ok (.return_, 1) := by decide +kernel
theorem dX10_init_0 : decode cX10_init 0 = .ok (.aload_n 0, 1) := by decide +kernel
theorem dX10_init_1 : decode cX10_init 1 = .ok (.invokespecial 1, 3) := by decide +kernel
theorem dX10_init_4 : decode cX10_init 4 = .ok (.aload_n 0, 1) := by decide +kernel
theorem dX10_init_5 : decode cX10_init 5 = .ok (.bipush 7, 2) := by decide +kernel
theorem dX10_init_7 : decode cX10_init 7 = .ok (.newarray .int, 2) := by decide +kernel
theorem dX10_init_9 : decode cX10_init 9 = .ok (.putfield 7, 3) := by decide +kernel
theorem dX10_init_12 : decode cX10_init 12 = .ok (.aload_n 0, 1) := by decide +kernel
theorem dX10_init_13 : decode cX10_init 13 = .ok (.bipush 41, 2) := by decide +kernel
theorem dX10_init_15 : decode cX10_init 15 = .ok (.newarray .int, 2) := by decide +kernel
theorem dX10_init_17 : decode cX10_init 17 = .ok (.putfield 13, 3) := by decide +kernel
theorem dX10_init_20 : decode cX10_init 20 = .ok (.aload_n 0, 1) := by decide +kernel
theorem dX10_init_21 : decode cX10_init 21 = .ok (.bipush 41, 2) := by decide +kernel
theorem dX10_init_23 : decode cX10_init 23 = .ok (.newarray .int, 2) := by decide +kernel
theorem dX10_init_25 : decode cX10_init 25 = .ok (.putfield 16, 3) := by decide +kernel
theorem dX10_init_28 : decode cX10_init 28 = .ok (.aload_n 0, 1) := by decide +kernel
theorem dX10_init_29 : decode cX10_init 29 = .ok (.bipush 41, 2) := by decide +kernel
theorem dX10_init_31 : decode cX10_init 31 = .ok (.newarray .int, 2) := by decide +kernel
theorem dX10_init_33 : decode cX10_init 33 = .ok (.putfield 19, 3) := by decide +kernel
theorem dX10_init_36 : decode cX10_init 36 = .ok (.aload_n 0, 1) := by decide +kernel
theorem dX10_init_37 : decode cX10_init 37 = .ok (.bipush 41, 2) := by decide +kernel
theorem dX10_init_39 : decode cX10_init 39 = .ok (.newarray .int, 2) := by decide +kernel
theorem dX10_init_41 : decode cX10_init 41 = .ok (.putfield 22, 3) := by decide +kernel
theorem dX10_init_44 : decode cX10_init 44 = .ok (.aload_n 0, 1) := by decide +kernel
theorem dX10_init_45 : decode cX10_init 45 = .ok (.bipush 41, 2) := by decide +kernel
theorem dX10_init_47 : decode cX10_init 47 = .ok (.newarray .int, 2) := by decide +kernel
theorem dX10_init_49 : decode cX10_init 49 = .ok (.putfield 25, 3) := by decide +kernel
theorem dX10_init_52 : decode cX10_init 52 = .ok (.aload_n 0, 1) := by decide +kernel
theorem dX10_init_53 : decode cX10_init 53 = .ok (.bipush 96, 2) := by decide +kernel
theorem dX10_init_55 : decode cX10_init 55 = .ok (.newarray .int, 2) := by decide +kernel
theorem dX10_init_57 : decode cX10_init 57 = .ok (.putfield 28, 3) := by decide +kernel
theorem dX10_init_60 : decode cX10_init 60 = .ok (.aload_n 0, 1) := by decide +kernel
theorem dX10_init_61 : decode cX10_init 61 = .ok (.bipush 96, 2) := by decide +kernel
theorem dX10_init_63 : decode cX10_init 63 = .ok (.newarray .int, 2) := by decide +kernel
theorem dX10_init_65 : decode cX10_init 65 = .ok (.putfield 31, 3) := by decide +kernel
theorem dX10_init_68 : decode cX10_init 68 = .ok (.aload_n 0, 1) := by decide +kernel
theorem dX10_init_69 : decode cX10_init 69 = .ok (.bipush 96, 2) := by decide +kernel
theorem dX10_init_71 : decode cX10_init 71 = .ok (.newarray .int, 2) := by decide +kernel
theorem dX10_init_73 : decode cX10_init 73 = .ok (.putfield 34, 3) := by decide +kernel
theorem dX10_init_76 : decode cX10_init 76 = .ok (.aload_n 0, 1) := by decide +kernel
theorem dX10_init_77 : decode cX10_init 77 = .ok (.bipush 96, 2) := by decide +kernel
theorem dX10_init_79 : decode cX10_init 79 = .ok (.newarray .int, 2) := by decide +kernel
theorem dX10_init_81 : decode cX10_init 81 = .ok (.putfield 37, 3) := by decide +kernel
theorem dX10_init_84 : decode cX10_init 84 = .ok (.aload_n 0, 1) := by decide +kernel
theorem dX10_init_85 : decode cX10_init 85 = .ok (.sipush 300, 3) := by decide +kernel
theorem dX10_init_88 : decode cX10_init 88 = .ok (.newarray .int, 2) := by decide +kernel
theorem dX10_init_90 : decode cX10_init 90 = .ok (.putfield 40, 3) := by decide +kernel
theorem dX10_init_93 : decode cX10_init 93 = .ok (.aload_n 0, 1) := by decide +kernel
theorem dX10_init_94 : decode cX10_init 94 = .ok (.bipush 100, 2) := by decide +kernel
theorem dX10_init_96 : decode cX10_init 96 = .ok (.newarray .int, 2) := by decide +kernel
theorem dX10_init_98 : decode cX10_init 98 = .ok (.putfield 43, 3) := by decide +kernel
theorem dX10_init_101 : decode cX10_init 101 = .ok (.aload_n 0, 1) := by decide +kernel
theorem dX10_init_102 : decode cX10_init 102 = .ok (.bipush 6, 2) := by decide +kernel
theorem dX10_init_104 : decode cX10_init 104 = .ok (.newarray .int, 2) := by decide +kernel
theorem dX10_init_106 : decode cX10_init 106 = .ok (.putfield 46, 3) := by decide +kernel
theorem dX10_init_109 : decode cX10_init 109 = .ok (.aload_n 0, 1) := by decide +kernel
theorem dX10_init_110 : decode cX10_init 110 = .ok (.bipush 10, 2) := by decide +kernel
theorem dX10_init_112 : decode cX10_init 112 = .ok (.newarray .int, 2) := by decide +kernel
theorem dX10_init_114 : decode cX10_init 114 = .ok (.putfield 49, 3) := by decide +kernel
theorem dX10_init_117 : decode cX10_init 117 = .ok (.aload_n 0, 1) := by decide +kernel
theorem dX10_init_118 : decode cX10_init 118 = .ok (.bipush 10, 2) := by decide +kernel
theorem dX10_init_120 : decode cX10_init 120 = .ok (.newarray .int, 2) := by decide +kernel
theorem dX10_init_122 : decode cX10_init 122 = .ok (.putfield 52, 3) := by decide +kernel
theorem dX10_init_125 : decode cX10_init 125 = .ok (.aload_n 0, 1) := by decide +kernel
theorem dX10_init_126 : decode cX10_init 126 = .ok (.bipush 10, 2) := by decide +kernel
theorem dX10_init_128 : decode cX10_init 128 = .ok (.newarray .int, 2) := by decide +kernel
theorem dX10_init_130 : decode cX10_init 130 = .ok (.putfield 55, 3) := by decide +kernel
theorem dX10_init_133 : decode cX10_init 133 = .ok (.aload_n 0, 1) := by decide +kernel
theorem dX10_init_134 : decode cX10_init 134 = .ok (.sipush 460, 3) := by decide +kernel
theorem dX10_init_137 : decode cX10_init 137 = .ok (.newarray .int, 2) := by decide +kernel
theorem dX10_init_139 : decode cX10_init 139 = .ok (.putfield 58, 3) := by decide +kernel
theorem dX10_init_142 : decode cX10_init 142 = .ok (.aload_n 0, 1) := by decide +kernel
theorem dX10_init_143 : decode cX10_init 143 = .ok (.bipush (-9), 2) := by decide +kernel
theorem dX10_init_145 : decode cX10_init 145 = .ok (.putfield 61, 3) := by decide +kernel
theorem dX10_init_148 : decode cX10_init 148 = .ok (.aload_n 0, 1) := by decide +kernel
theorem dX10_init_149 : decode cX10_init 149 = .ok (.sipush 2000, 3) := by decide +kernel
theorem dX10_init_152 : decode cX10_init 152 = .ok (.newarray .int, 2) := by decide +kernel
theorem dX10_init_154 : decode cX10_init 154 = .ok (.putfield 65, 3) := by decide +kernel
theorem dX10_init_157 : decode cX10_init 157 = .ok (.aload_n 0, 1) := by decide +kernel
theorem dX10_init_158 : decode cX10_init 158 = .ok (.sipush 2000, 3) := by decide +kernel
theorem dX10_init_161 : decode cX10_init 161 = .ok (.newarray .int, 2) := by decide +kernel
theorem dX10_init_163 : decode cX10_init 163 = .ok (.putfield 68, 3) := by decide +kernel
theorem dX10_init_166 : decode cX10_init 166 = .ok (.aload_n 0, 1) := by decide +kernel
theorem dX10_init_167 : decode cX10_init 167 = .ok (.sipush 2000, 3) := by decide +kernel
theorem dX10_init_170 : decode cX10_init 170 = .ok (.newarray .int, 2) := by decide +kernel
theorem dX10_init_172 : decode cX10_init 172 = .ok (.putfield 71, 3) := by decide +kernel
theorem dX10_init_175 : decode cX10_init 175 = .ok (.aload_n 0, 1) := by decide +kernel
theorem dX10_init_176 : decode cX10_init 176 = .ok (.sipush 2000, 3) := by decide +kernel
theorem dX10_init_179 : decode cX10_init 179 = .ok (.newarray .int, 2) := by decide +kernel
theorem dX10_init_181 : decode cX10_init 181 = .ok (.putfield 74, 3) := by decide +kernel
theorem dX10_init_184 : decode cX10_init 184 = .ok (.aload_n 0, 1) := by decide +kernel
theorem dX10_init_185 : decode cX10_init 185 = .ok (.sipush 1000, 3) := by decide +kernel
theorem dX10_init_188 : decode cX10_init 188 = .ok (.newarray .int, 2) := by decide +kernel
theorem dX10_init_190 : decode cX10_init 190 = .ok (.putfield 77, 3) := by decide +kernel
theorem dX10_init_193 : decode cX10_init 193 = .ok (.aload_n 0, 1) := by decide +kernel
theorem dX10_init_194 : decode cX10_init 194 = .ok (.sipush 1000, 3) := by decide +kernel
theorem dX10_init_197 : decode cX10_init 197 = .ok (.newarray .int, 2) := by decide +kernel
theorem dX10_init_199 : decode cX10_init 199 = .ok (.putfield 80, 3) := by decide +kernel
theorem dX10_init_202 : decode cX10_init 202 = .ok (.aload_n 0, 1) := by decide +kernel
theorem dX10_init_203 : decode cX10_init 203 = .ok (.sipush 1000, 3) := by decide +kernel
theorem dX10_init_206 : decode cX10_init 206 = .ok (.newarray .int, 2) := by decide +kernel
theorem dX10_init_208 : decode cX10_init 208 = .ok (.putfield 83, 3) := by decide +kernel
theorem dX10_init_211 : decode cX10_init 211 = .ok (.aload_n 0, 1) := by decide +kernel
theorem dX10_init_212 : decode cX10_init 212 = .ok (.sipush 1000, 3) := by decide +kernel
theorem dX10_init_215 : decode cX10_init 215 = .ok (.newarray .int, 2) := by decide +kernel
theorem dX10_init_217 : decode cX10_init 217 = .ok (.putfield 86, 3) := by decide +kernel
theorem dX10_init_220 : decode cX10_init 220 = .ok (.aload_n 0, 1) := by decide +kernel
theorem dX10_init_221 : decode cX10_init 221 = .ok (.sipush 1000, 3) := by decide +kernel
theorem dX10_init_224 : decode cX10_init 224 = .ok (.newarray .int, 2) := by decide +kernel
theorem dX10_init_226 : decode cX10_init 226 = .ok (.putfield 89, 3) := by decide +kernel
theorem dX10_init_229 : decode cX10_init 229 = .ok (.aload_n 0, 1) := by decide +kernel
theorem dX10_init_230 : decode cX10_init 230 = .ok (.sipush 1000, 3) := by decide +kernel
theorem dX10_init_233 : decode cX10_init 233 = .ok (.newarray .int, 2) := by decide +kernel
theorem dX10_init_235 : decode cX10_init 235 = .ok (.putfield 92, 3) := by decide +kernel
theorem dX10_init_238 : decode cX10_init 238 = .ok (.aload_n 0, 1) := by decide +kernel
theorem dX10_init_239 : decode cX10_init 239 = .ok (.sipush 800, 3) := by decide +kernel
theorem dX10_init_242 : decode cX10_init 242 = .ok (.newarray .int, 2) := by decide +kernel
theorem dX10_init_244 : decode cX10_init 244 = .ok (.putfield 95, 3) := by decide +kernel
theorem dX10_init_247 : decode cX10_init 247 = .ok (.aload_n 0, 1) := by decide +kernel
theorem dX10_init_248 : decode cX10_init 248 = .ok (.sipush 800, 3) := by decide +kernel
theorem dX10_init_251 : decode cX10_init 251 = .ok (.newarray .int, 2) := by decide +kernel
theorem dX10_init_253 : decode cX10_init 253 = .ok (.putfield 98, 3) := by decide +kernel
theorem dX10_init_256 : decode cX10_init 256 = .ok (.aload_n 0, 1) := by decide +kernel
theorem dX10_init_257 : decode cX10_init 257 = .ok (.sipush 800, 3) := by decide +kernel
theorem dX10_init_260 : decode cX10_init 260 = .ok (.newarray .int, 2) := by decide +kernel
theorem dX10_init_262 : decode cX10_init 262 = .ok (.putfield 101, 3) := by decide +kernel
theorem dX10_init_265 : decode cX10_init 265 = .ok (.aload_n 0, 1) := by decide +kernel
theorem dX10_init_266 : decode cX10_init 266 = .ok (.sipush 800, 3) := by decide +kernel
theorem dX10_init_269 : decode cX10_init 269 = .ok (.newarray .int, 2) := by decide +kernel
theorem dX10_init_271 : decode cX10_init 271 = .ok (.putfield 104, 3) := by decide +kernel
theorem dX10_init_274 : decode cX10_init 274 = .ok (.aload_n 0, 1) := by decide +kernel
theorem dX10_init_275 : decode cX10_init 275 = .ok (.sipush 800, 3) := by decide +kernel
theorem dX10_init_278 : decode cX10_init 278 = .ok (.newarray .int, 2) := by decide +kernel
theorem dX10_init_280 : decode cX10_init 280 = .ok (.putfield 107, 3) := by decide +kernel
theorem dX10_init_283 : decode cX10_init 283 = .ok (.aload_n 0, 1) := by decide +kernel
theorem dX10_init_284 : decode cX10_init 284 = .ok (.bipush 6, 2) := by decide +kernel
theorem dX10_init_286 : decode cX10_init 286 = .ok (.newarray .int, 2) := by decide +kernel
theorem dX10_init_288 : decode cX10_init 288 = .ok (.putfield 110, 3) := by decide +kernel
theorem dX10_init_291 : decode cX10_init 291 = .ok (.aload_n 0, 1) := by decide +kernel
theorem dX10_init_292 : decode cX10_init 292 = .ok (.bipush 36, 2) := by decide +kernel
theorem dX10_init_294 : decode cX10_init 294 = .ok (.newarray .int, 2) := by decide +kernel
theorem dX10_init_296 : decode cX10_init 296 = .ok (.putfield 113, 3) := by decide +kernel
theorem dX10_init_299 : decode cX10_init 299 = .ok (.aload_n 0, 1) := by decide +kernel
theorem dX10_init_300 : decode cX10_init 300 = .ok (.bipush 16, 2) := by decide +kernel
theorem dX10_init_302 : decode cX10_init 302 = .ok (.newarray .int, 2) := by decide +kernel
theorem dX10_init_304 : decode cX10_init 304 = .ok (.putfield 116, 3) := by decide +kernel
theorem dX10_init_307 : decode cX10_init 307 = .ok (.aload_n 0, 1) := by decide +kernel
theorem dX10_init_308 : decode cX10_init 308 = .ok (.sipush 800, 3) := by decide +kernel
theorem dX10_init_311 : decode cX10_init 311 = .ok (.newarray .int, 2) := by decide +kernel
theorem dX10_init_313 : decode cX10_init 313 = .ok (.putfield 119, 3) := by decide +kernel
theorem dX10_init_316 : decode cX10_init 316 = .ok (.aload_n 0, 1) := by decide +kernel
theorem dX10_init_317 : decode cX10_init 317 = .ok (.getfield 31, 3) := by decide +kernel
theorem dX10_init_320 : decode cX10_init 320 = .ok (.iconst 0, 1) := by decide +kernel
theorem dX10_init_321 : decode cX10_init 321 = .ok (.bipush 48, 2) := by decide +kernel
theorem dX10_init_323 : decode cX10_init 323 = .ok (.iastore, 1) := by decide +kernel
theorem dX10_init_324 : decode cX10_init 324 = .ok (.aload_n 0, 1) := by decide +kernel
theorem dX10_init_325 : decode cX10_init 325 = .ok (.iconst 1, 1) := by decide +kernel
theorem dX10_init_326 : decode cX10_init 326 = .ok (.putfield 122, 3) := by decide +kernel
theorem dX10_init_329 : decode cX10_init 329 = .ok (.aload_n 0, 1) := by decide +kernel
theorem dX10_init_330 : decode cX10_init 330 = .ok (.iconst 1, 1) := by decide +kernel
theorem dX10_init_331 : decode cX10_init 331 = .ok (.putfield 125, 3) := by decide +kernel
theorem dX10_init_334 : decode cX10_init 334 = .ok (.aload_n 0, 1) := by decide +kernel
theorem dX10_init_335 : decode cX10_init 335 = .ok (.invokevirtual 128, 3) := by decide +kernel
theorem dX10_init_338 : decode cX10_init 338 = .ok (.return_, 1) := by decide +kernel
theorem dX10_no_0 : decode cX10_no 0 = .ok (.aload_n 0, 1) := by decide +kernel
theorem dX10_no_1 : decode cX10_no 1 = .ok (.getfield 7, 3) := by decide +kernel
theorem dX10_no_4 : decode cX10_no 4 = .ok (.iload_n 1, 1) := by decide +kernel
theorem dX10_no_5 : decode cX10_no 5 = .ok (.ineg, 1) := by decide +kernel
theorem dX10_no_6 : decode cX10_no 6 = .ok (.dup2, 1) := by decide +kernel
theorem dX10_no_7 : decode cX10_no 7 = .ok (.iaload, 1) := by decide +kernel
theorem dX10_no_8 : decode cX10_no 8 = .ok (.iconst 1, 1) := by decide +kernel
theorem dX10_no_9 : decode cX10_no 9 = .ok (.iadd, 1) := by decide +kernel
theorem dX10_no_10 : decode cX10_no 10 = .ok (.iastore, 1) := by decide +kernel
theorem dX10_no_11 : decode cX10_no 11 = .ok (.iload_n 1, 1) := by decide +kernel
theorem dX10_no_12 : decode cX10_no 12 = .ok (.ireturn, 1) := by decide +kernel
theorem dX10_lower_0 : decode cX10_lower 0 = .ok (.aload_n 0, 1) := by decide +kernel
theorem dX10_lower_1 : decode cX10_lower 1 = .ok (.getfield 7, 3) := by decide +kernel
theorem dX10_lower_4 : decode cX10_lower 4 = .ok (.iload_n 1, 1) := by decide +kernel
theorem dX10_lower_5 : decode cX10_lower 5 = .ok (.ineg, 1) := by decide +kernel
theorem dX10_lower_6 : decode cX10_lower 6 = .ok (.dup2, 1) := by decide +kernel
theorem dX10_lower_7 : decode cX10_lower 7 = .ok (.iaload, 1) := by decide +kernel
theorem dX10_lower_8 : decode cX10_lower 8 = .ok (.iconst 1, 1) := by decide +kernel
theorem dX10_lower_9 : decode cX10_lower 9 = .ok (.iadd, 1) := by decide +kernel
theorem dX10_lower_10 : decode cX10_lower 10 = .ok (.iastore, 1) := by decide +kernel
theorem dX10_lower_11 : decode cX10_lower 11 = .ok (.ldc 131, 2) := by decide +kernel
theorem dX10_lower_13 : decode cX10_lower 13 = .ok (.iload_n 1, 1) := by decide +kernel
theorem dX10_lower_14 : decode cX10_lower 14 = .ok (.isub, 1) := by decide +kernel
theorem dX10_lower_15 : decode cX10_lower 15 = .ok (.ireturn, 1) := by decide +kernel
theorem dX10_lowestOf_0 : decode cX10_lowestOf 0 = .ok (.aload_n 0, 1) := by decide +kernel
theorem dX10_lowestOf_1 : decode cX10_lowestOf 1 = .ok (.getfield 7, 3) := by decide +kernel
theorem dX10_lowestOf_4 : decode cX10_lowestOf 4 = .ok (.iload_n 1, 1) := by decide +kernel
theorem dX10_lowestOf_5 : decode cX10_lowestOf 5 = .ok (.ineg, 1) := by decide +kernel
theorem dX10_lowestOf_6 : decode cX10_lowestOf 6 = .ok (.dup2, 1) := by decide +kernel
theorem dX10_lowestOf_7 : decode cX10_lowestOf 7 = .ok (.iaload, 1) := by decide +kernel
theorem dX10_lowestOf_8 : decode cX10_lowestOf 8 = .ok (.iconst 1, 1) := by decide +kernel
theorem dX10_lowestOf_9 : decode cX10_lowestOf 9 = .ok (.iadd, 1) := by decide +kernel
theorem dX10_lowestOf_10 : decode cX10_lowestOf 10 = .ok (.iastore, 1) := by decide +kernel
theorem dX10_lowestOf_11 : decode cX10_lowestOf 11 = .ok (.ldc2_w 132, 3) := by decide +kernel
theorem dX10_lowestOf_14 : decode cX10_lowestOf 14 = .ok (.iload_n 1, 1) := by decide +kernel
theorem dX10_lowestOf_15 : decode cX10_lowestOf 15 = .ok (.i2l, 1) := by decide +kernel
theorem dX10_lowestOf_16 : decode cX10_lowestOf 16 = .ok (.lsub, 1) := by decide +kernel
theorem dX10_lowestOf_17 : decode cX10_lowestOf 17 = .ok (.lreturn, 1) := by decide +kernel
theorem dX10_isIn_0 : decode cX10_isIn 0 = .ok (.iload_n 0, 1) := by decide +kernel
theorem dX10_isIn_1 : decode cX10_isIn 1 = .ok (.iload_n 1, 1) := by decide +kernel
theorem dX10_isIn_2 : decode cX10_isIn 2 = .ok (.if_icmp .lt 12, 3) := by decide +kernel
theorem dX10_isIn_5 : decode cX10_isIn 5 = .ok (.iload_n 0, 1) := by decide +kernel
theorem dX10_isIn_6 : decode cX10_isIn 6 = .ok (.iload_n 2, 1) := by decide +kernel
theorem dX10_isIn_7 : decode cX10_isIn 7 = .ok (.if_icmp .gt 7, 3) := by decide +kernel
theorem dX10_isIn_10 : decode cX10_isIn 10 = .ok (.iconst 1, 1) := by decide +kernel
theorem dX10_isIn_11 : decode cX10_isIn 11 = .ok (.goto 4, 3) := by decide +kernel
theorem dX10_isIn_14 : decode cX10_isIn 14 = .ok (.iconst 0, 1) := by decide +kernel
theorem dX10_isIn_15 : decode cX10_isIn 15 = .ok (.ireturn, 1) := by decide +kernel
theorem dX10_bound_0 : decode cX10_bound 0 = .ok (.iload_n 0, 1) := by decide +kernel
theorem dX10_bound_1 : decode cX10_bound 1 = .ok (.iload_n 1, 1) := by decide +kernel
theorem dX10_bound_2 : decode cX10_bound 2 = .ok (.if_icmp .ge 8, 3) := by decide +kernel
theorem dX10_bound_5 : decode cX10_bound 5 = .ok (.bipush (-4), 2) := by decide +kernel
theorem dX10_bound_7 : decode cX10_bound 7 = .ok (.goto 14, 3) := by decide +kernel
theorem dX10_bound_10 : decode cX10_bound 10 = .ok (.iload_n 0, 1) := by decide +kernel
theorem dX10_bound_11 : decode cX10_bound 11 = .ok (.iload_n 2, 1) := by decide +kernel
theorem dX10_bound_12 : decode cX10_bound 12 = .ok (.if_icmp .le 8, 3) := by decide +kernel
theorem dX10_bound_15 : decode cX10_bound 15 = .ok (.bipush (-6), 2) := by decide +kernel
theorem dX10_bound_17 : decode cX10_bound 17 = .ok (.goto 4, 3) := by decide +kernel
theorem dX10_bound_20 : decode cX10_bound 20 = .ok (.iconst 0, 1) := by decide +kernel
theorem dX10_bound_21 : decode cX10_bound 21 = .ok (.ireturn, 1) := by decide +kernel
theorem dX10_isVariable_0 : decode cX10_isVariable 0 = .ok (.iload_n 0, 1) := by decide +kernel
theorem dX10_isVariable_1 : decode cX10_isVariable 1 = .ok (.iconst 0, 1) := by decide +kernel
theorem dX10_isVariable_2 : decode cX10_isVariable 2 = .ok (.iconst 5, 1) := by decide +kernel
theorem dX10_isVariable_3 : decode cX10_isVariable 3 = .ok (.invokestatic 134, 3) := by decide +kernel
theorem dX10_isVariable_6 : decode cX10_isVariable 6 = .ok (.ireturn, 1) := by decide +kernel
theorem dX10_bits_0 : decode cX10_bits 0 = .ok (.iconst 0, 1) := by decide +kernel
theorem dX10_bits_1 : decode cX10_bits 1 = .ok (.istore_n 1, 1) := by decide +kernel
theorem dX10_bits_2 : decode cX10_bits 2 = .ok (.iconst 0, 1) := by decide +kernel
theorem dX10_bits_3 : decode cX10_bits 3 = .ok (.istore_n 2, 1) := by decide +kernel
theorem dX10_bits_4 : decode cX10_bits 4 = .ok (.iload_n 2, 1) := by decide +kernel
theorem dX10_bits_5 : decode cX10_bits 5 = .ok (.iconst 4, 1) := by decide +kernel
theorem dX10_bits_6 : decode cX10_bits 6 = .ok (.if_icmp .ge 17, 3) := by decide +kernel
theorem dX10_bits_9 : decode cX10_bits 9 = .ok (.iload_n 1, 1) := by decide +kernel
theorem dX10_bits_10 : decode cX10_bits 10 = .ok (.iload_n 0, 1) := by decide +kernel
theorem dX10_bits_11 : decode cX10_bits 11 = .ok (.iload_n 2, 1) := by decide +kernel
theorem dX10_bits_12 : decode cX10_bits 12 = .ok (.ishr, 1) := by decide +kernel
theorem dX10_bits_13 : decode cX10_bits 13 = .ok (.iconst 1, 1) := by decide +kernel
theorem dX10_bits_14 : decode cX10_bits 14 = .ok (.iand, 1) := by decide +kernel
theorem dX10_bits_15 : decode cX10_bits 15 = .ok (.iadd, 1) := by decide +kernel
theorem dX10_bits_16 : decode cX10_bits 16 = .ok (.istore_n 1, 1) := by decide +kernel
theorem dX10_bits_17 : decode cX10_bits 17 = .ok (.iinc 2 1, 3) := by decide +kernel
theorem dX10_bits_20 : decode cX10_bits 20 = .ok (.goto (-16), 3) := by decide +kernel
theorem dX10_bits_23 : decode cX10_bits 23 = .ok (.iload_n 1, 1) := by decide +kernel
theorem dX10_bits_24 : decode cX10_bits 24 = .ok (.ireturn, 1) := by decide +kernel
theorem dX10_letter_0 : decode cX10_letter 0 = .ok (.iload_n 1, 1) := by decide +kernel
theorem dX10_letter_1 : decode cX10_letter 1 = .ok (.iconst 0, 1) := by decide +kernel
theorem dX10_letter_2 : decode cX10_letter 2 = .ok (.sipush 255, 3) := by decide +kernel
theorem dX10_letter_5 : decode cX10_letter 5 = .ok (.invokestatic 138, 3) := by decide +kernel
theorem dX10_letter_8 : decode cX10_letter 8 = .ok (.istore_n 2, 1) := by decide +kernel
theorem dX10_letter_9 : decode cX10_letter 9 = .ok (.iload_n 2, 1) := by decide +kernel
theorem dX10_letter_10 : decode cX10_letter 10 = .ok (.ifCond .ne 15, 3) := by decide +kernel
theorem dX10_letter_13 : decode cX10_letter 13 = .ok (.aload_n 0, 1) := by decide +kernel
theorem dX10_letter_14 : decode cX10_letter 14 = .ok (.getfield 142, 3) := by decide +kernel
theorem dX10_letter_17 : decode cX10_letter 17 = .ok (.bipush 96, 2) := by decide +kernel
theorem dX10_letter_19 : decode cX10_letter 19 = .ok (.if_icmp .ne 6, 3) := by decide +kernel
theorem dX10_letter_22 : decode cX10_letter 22 = .ok (.bipush (-6), 2) := by decide +kernel
theorem dX10_letter_24 : decode cX10_letter 24 = .ok (.istore_n 2, 1) := by decide +kernel
theorem dX10_letter_25 : decode cX10_letter 25 = .ok (.iload_n 2, 1) := by decide +kernel
theorem dX10_letter_26 : decode cX10_letter 26 = .ok (.ifCond .eq 9, 3) := by decide +kernel
theorem dX10_letter_29 : decode cX10_letter 29 = .ok (.aload_n 0, 1) := by decide +kernel
theorem dX10_letter_30 : decode cX10_letter 30 = .ok (.iload_n 2, 1) := by decide +kernel
theorem dX10_letter_31 : decode cX10_letter 31 = .ok (.invokevirtual 145, 3) := by decide +kernel
theorem dX10_letter_34 : decode cX10_letter 34 = .ok (.ireturn, 1) := by decide +kernel
theorem dX10_letter_35 : decode cX10_letter 35 = .ok (.aload_n 0, 1) := by decide +kernel
theorem dX10_letter_36 : decode cX10_letter 36 = .ok (.getfield 28, 3) := by decide +kernel
theorem dX10_letter_39 : decode cX10_letter 39 = .ok (.aload_n 0, 1) := by decide +kernel
theorem dX10_letter_40 : decode cX10_letter 40 = .ok (.getfield 142, 3) := by decide +kernel
theorem dX10_letter_43 : decode cX10_letter 43 = .ok (.iload_n 1, 1) := by decide +kernel
theorem dX10_letter_44 : decode cX10_letter 44 = .ok (.iastore, 1) := by decide +kernel
theorem dX10_letter_45 : decode cX10_letter 45 = .ok (.aload_n 0, 1) := by decide +kernel
theorem dX10_letter_46 : decode cX10_letter 46 = .ok (.dup, 1) := by decide +kernel
theorem dX10_letter_47 : decode cX10_letter 47 = .ok (.getfield 142, 3) := by decide +kernel
theorem dX10_letter_50 : decode cX10_letter 50 = .ok (.iconst 1, 1) := by decide +kernel
theorem dX10_letter_51 : decode cX10_letter 51 = .ok (.iadd, 1) := by decide +kernel
theorem dX10_letter_52 : decode cX10_letter 52 = .ok (.putfield 142, 3) := by decide +kernel
theorem dX10_letter_55 : decode cX10_letter 55 = .ok (.aload_n 0, 1) := by decide +kernel
theorem dX10_letter_56 : decode cX10_letter 56 = .ok (.getfield 142, 3) := by decide +kernel
theorem dX10_letter_59 : decode cX10_letter 59 = .ok (.ireturn, 1) := by decide +kernel
theorem dX10_awaits_0 : decode cX10_awaits 0 = .ok (.aload_n 0, 1) := by decide +kernel
theorem dX10_awaits_1 : decode cX10_awaits 1 = .ok (.getfield 40, 3) := by decide +kernel
theorem dX10_awaits_4 : decode cX10_awaits 4 = .ok (.aload_n 0, 1) := by decide +kernel
theorem dX10_awaits_5 : decode cX10_awaits 5 = .ok (.getfield 149, 3) := by decide +kernel
theorem dX10_awaits_8 : decode cX10_awaits 8 = .ok (.iload_n 1, 1) := by decide +kernel
theorem dX10_awaits_9 : decode cX10_awaits 9 = .ok (.iastore, 1) := by decide +kernel
theorem dX10_awaits_10 : decode cX10_awaits 10 = .ok (.aload_n 0, 1) := by decide +kernel
theorem dX10_awaits_11 : decode cX10_awaits 11 = .ok (.dup, 1) := by decide +kernel
theorem dX10_awaits_12 : decode cX10_awaits 12 = .ok (.getfield 149, 3) := by decide +kernel
theorem dX10_awaits_15 : decode cX10_awaits 15 = .ok (.iconst 1, 1) := by decide +kernel
theorem dX10_awaits_16 : decode cX10_awaits 16 = .ok (.iadd, 1) := by decide +kernel
theorem dX10_awaits_17 : decode cX10_awaits 17 = .ok (.putfield 149, 3) := by decide +kernel
theorem dX10_awaits_20 : decode cX10_awaits 20 = .ok (.return_, 1) := by decide +kernel
theorem dX10_isSite_0 : decode cX10_isSite 0 = .ok (.iload_n 0, 1) := by decide +kernel
theorem dX10_isSite_1 : decode cX10_isSite 1 = .ok (.bipush 112, 2) := by decide +kernel
theorem dX10_isSite_3 : decode cX10_isSite 3 = .ok (.if_icmp .eq 9, 3) := by decide +kernel
theorem dX10_isSite_6 : decode cX10_isSite 6 = .ok (.iload_n 0, 1) := by decide +kernel
theorem dX10_isSite_7 : decode cX10_isSite 7 = .ok (.bipush 113, 2) := by decide +kernel
theorem dX10_isSite_9 : decode cX10_isSite 9 = .ok (.if_icmp .ne 7, 3) := by decide +kernel
theorem dX10_isSite_12 : decode cX10_isSite 12 = .ok (.iconst 1, 1) := by decide +kernel
theorem dX10_isSite_13 : decode cX10_isSite 13 = .ok (.goto 4, 3) := by decide +kernel
theorem dX10_isSite_16 : decode cX10_isSite 16 = .ok (.iconst 0, 1) := by decide +kernel
theorem dX10_isSite_17 : decode cX10_isSite 17 = .ok (.ireturn, 1) := by decide +kernel
theorem dX10_manyOf_0 : decode cX10_manyOf 0 = .ok (.iload_n 0, 1) := by decide +kernel
theorem dX10_manyOf_1 : decode cX10_manyOf 1 = .ok (.lookupswitch 129 #[(42, 125), (43, 125), (44, 125), (45, 125), (63, 123), (64, 125), (66, 125), (67, 125), (80, 127), (81, 127), (87, 127), (88, 127), (112, 127), (113, 127)], 123) := by decide +kernel
theorem dX10_manyOf_124 : decode cX10_manyOf 124 = .ok (.iconst 3, 1) := by decide +kernel
theorem dX10_manyOf_125 : decode cX10_manyOf 125 = .ok (.ireturn, 1) := by decide +kernel
theorem dX10_manyOf_126 : decode cX10_manyOf 126 = .ok (.iconst 2, 1) := by decide +kernel
theorem dX10_manyOf_127 : decode cX10_manyOf 127 = .ok (.ireturn, 1) := by decide +kernel
theorem dX10_manyOf_128 : decode cX10_manyOf 128 = .ok (.iconst 1, 1) := by decide +kernel
theorem dX10_manyOf_129 : decode cX10_manyOf 129 = .ok (.ireturn, 1) := by decide +kernel
theorem dX10_manyOf_130 : decode cX10_manyOf 130 = .ok (.bipush (-9), 2) := by decide +kernel
theorem dX10_manyOf_132 : decode cX10_manyOf 132 = .ok (.ireturn, 1) := by decide +kernel
theorem dX10_awaitsParts_0 : decode cX10_awaitsParts 0 = .ok (.iload_n 1, 1) := by decide +kernel
theorem dX10_awaitsParts_1 : decode cX10_awaitsParts 1 = .ok (.bipush 48, 2) := by decide +kernel
theorem dX10_awaitsParts_3 : decode cX10_awaitsParts 3 = .ok (.bipush 57, 2) := by decide +kernel
theorem dX10_awaitsParts_5 : decode cX10_awaitsParts 5 = .ok (.invokestatic 134, 3) := by decide +kernel
theorem dX10_awaitsParts_8 : decode cX10_awaitsParts 8 = .ok (.ifCond .ne 14, 3) := by decide +kernel
theorem dX10_awaitsParts_11 : decode cX10_awaitsParts 11 = .ok (.iload_n 1, 1) := by decide +kernel
theorem dX10_awaitsParts_12 : decode cX10_awaitsParts 12 = .ok (.bipush 97, 2) := by decide +kernel
theorem dX10_awaitsParts_14 : decode cX10_awaitsParts 14 = .ok (.bipush 102, 2) := by decide +kernel
theorem dX10_awaitsParts_16 : decode cX10_awaitsParts 16 = .ok (.invokestatic 134, 3) := by decide +kernel
theorem dX10_awaitsParts_19 : decode cX10_awaitsParts 19 = .ok (.ifCond .eq 5, 3) := by decide +kernel
theorem dX10_awaitsParts_22 : decode cX10_awaitsParts 22 = .ok (.iconst 1, 1) := by decide +kernel
theorem dX10_awaitsParts_23 : decode cX10_awaitsParts 23 = .ok (.ireturn, 1) := by decide +kernel
theorem dX10_awaitsParts_24 : decode cX10_awaitsParts 24 = .ok (.iload_n 1, 1) := by decide +kernel
theorem dX10_awaitsParts_25 : decode cX10_awaitsParts 25 = .ok (.bipush 76, 2) := by decide +kernel
theorem dX10_awaitsParts_27 : decode cX10_awaitsParts 27 = .ok (.if_icmp .eq 15, 3) := by decide +kernel
theorem dX10_awaitsParts_30 : decode cX10_awaitsParts 30 = .ok (.iload_n 1, 1) := by decide +kernel
theorem dX10_awaitsParts_31 : decode cX10_awaitsParts 31 = .ok (.bipush 83, 2) := by decide +kernel
theorem dX10_awaitsParts_33 : decode cX10_awaitsParts 33 = .ok (.if_icmp .eq 9, 3) := by decide +kernel
theorem dX10_awaitsParts_36 : decode cX10_awaitsParts 36 = .ok (.iload_n 1, 1) := by decide +kernel
theorem dX10_awaitsParts_37 : decode cX10_awaitsParts 37 = .ok (.bipush 70, 2) := by decide +kernel
theorem dX10_awaitsParts_39 : decode cX10_awaitsParts 39 = .ok (.if_icmp .ne 29, 3) := by decide +kernel
theorem dX10_awaitsParts_42 : decode cX10_awaitsParts 42 = .ok (.iload_n 1, 1) := by decide +kernel
theorem dX10_awaitsParts_43 : decode cX10_awaitsParts 43 = .ok (.bipush 76, 2) := by decide +kernel
theorem dX10_awaitsParts_45 : decode cX10_awaitsParts 45 = .ok (.if_icmp .ne 9, 3) := by decide +kernel
theorem dX10_awaitsParts_48 : decode cX10_awaitsParts 48 = .ok (.aload_n 0, 1) := by decide +kernel
theorem dX10_awaitsParts_49 : decode cX10_awaitsParts 49 = .ok (.bipush 101, 2) := by decide +kernel
theorem dX10_awaitsParts_51 : decode cX10_awaitsParts 51 = .ok (.invokevirtual 152, 3) := by decide +kernel
theorem dX10_awaitsParts_54 : decode cX10_awaitsParts 54 = .ok (.aload_n 0, 1) := by decide +kernel
theorem dX10_awaitsParts_55 : decode cX10_awaitsParts 55 = .ok (.bipush 101, 2) := by decide +kernel
theorem dX10_awaitsParts_57 : decode cX10_awaitsParts 57 = .ok (.invokevirtual 152, 3) := by decide +kernel
theorem dX10_awaitsParts_60 : decode cX10_awaitsParts 60 = .ok (.aload_n 0, 1) := by decide +kernel
theorem dX10_awaitsParts_61 : decode cX10_awaitsParts 61 = .ok (.bipush 118, 2) := by decide +kernel
theorem dX10_awaitsParts_63 : decode cX10_awaitsParts 63 = .ok (.invokevirtual 152, 3) := by decide +kernel
theorem dX10_awaitsParts_66 : decode cX10_awaitsParts 66 = .ok (.iconst 1, 1) := by decide +kernel
theorem dX10_awaitsParts_67 : decode cX10_awaitsParts 67 = .ok (.ireturn, 1) := by decide +kernel
theorem dX10_awaitsParts_68 : decode cX10_awaitsParts 68 = .ok (.iload_n 1, 1) := by decide +kernel
theorem dX10_awaitsParts_69 : decode cX10_awaitsParts 69 = .ok (.bipush 89, 2) := by decide +kernel
theorem dX10_awaitsParts_71 : decode cX10_awaitsParts 71 = .ok (.if_icmp .ne 23, 3) := by decide +kernel
theorem dX10_awaitsParts_74 : decode cX10_awaitsParts 74 = .ok (.aload_n 0, 1) := by decide +kernel
theorem dX10_awaitsParts_75 : decode cX10_awaitsParts 75 = .ok (.bipush 101, 2) := by decide +kernel
theorem dX10_awaitsParts_77 : decode cX10_awaitsParts 77 = .ok (.invokevirtual 152, 3) := by decide +kernel
theorem dX10_awaitsParts_80 : decode cX10_awaitsParts 80 = .ok (.aload_n 0, 1) := by decide +kernel
theorem dX10_awaitsParts_81 : decode cX10_awaitsParts 81 = .ok (.bipush 118, 2) := by decide +kernel
theorem dX10_awaitsParts_83 : decode cX10_awaitsParts 83 = .ok (.invokevirtual 152, 3) := by decide +kernel
theorem dX10_awaitsParts_86 : decode cX10_awaitsParts 86 = .ok (.aload_n 0, 1) := by decide +kernel
theorem dX10_awaitsParts_87 : decode cX10_awaitsParts 87 = .ok (.bipush 101, 2) := by decide +kernel
theorem dX10_awaitsParts_89 : decode cX10_awaitsParts 89 = .ok (.invokevirtual 152, 3) := by decide +kernel
theorem dX10_awaitsParts_92 : decode cX10_awaitsParts 92 = .ok (.iconst 1, 1) := by decide +kernel
theorem dX10_awaitsParts_93 : decode cX10_awaitsParts 93 = .ok (.ireturn, 1) := by decide +kernel
theorem dX10_awaitsParts_94 : decode cX10_awaitsParts 94 = .ok (.iload_n 1, 1) := by decide +kernel
theorem dX10_awaitsParts_95 : decode cX10_awaitsParts 95 = .ok (.invokestatic 156, 3) := by decide +kernel
theorem dX10_awaitsParts_98 : decode cX10_awaitsParts 98 = .ok (.istore_n 2, 1) := by decide +kernel
theorem dX10_awaitsParts_99 : decode cX10_awaitsParts 99 = .ok (.iconst 0, 1) := by decide +kernel
theorem dX10_awaitsParts_100 : decode cX10_awaitsParts 100 = .ok (.istore_n 3, 1) := by decide +kernel
theorem dX10_awaitsParts_101 : decode cX10_awaitsParts 101 = .ok (.iload_n 3, 1) := by decide +kernel
theorem dX10_awaitsParts_102 : decode cX10_awaitsParts 102 = .ok (.iload_n 2, 1) := by decide +kernel
theorem dX10_awaitsParts_103 : decode cX10_awaitsParts 103 = .ok (.if_icmp .ge 15, 3) := by decide +kernel
theorem dX10_awaitsParts_106 : decode cX10_awaitsParts 106 = .ok (.aload_n 0, 1) := by decide +kernel
theorem dX10_awaitsParts_107 : decode cX10_awaitsParts 107 = .ok (.bipush 101, 2) := by decide +kernel
theorem dX10_awaitsParts_109 : decode cX10_awaitsParts 109 = .ok (.invokevirtual 152, 3) := by decide +kernel
theorem dX10_awaitsParts_112 : decode cX10_awaitsParts 112 = .ok (.iinc 3 1, 3) := by decide +kernel
theorem dX10_awaitsParts_115 : decode cX10_awaitsParts 115 = .ok (.goto (-14), 3) := by decide +kernel
theorem dX10_awaitsParts_118 : decode cX10_awaitsParts 118 = .ok (.iload_n 2, 1) := by decide +kernel
theorem dX10_awaitsParts_119 : decode cX10_awaitsParts 119 = .ok (.ifCond .le 7, 3) := by decide +kernel
theorem dX10_awaitsParts_122 : decode cX10_awaitsParts 122 = .ok (.iconst 1, 1) := by decide +kernel
theorem dX10_awaitsParts_123 : decode cX10_awaitsParts 123 = .ok (.goto 4, 3) := by decide +kernel
theorem dX10_awaitsParts_126 : decode cX10_awaitsParts 126 = .ok (.iconst 0, 1) := by decide +kernel
theorem dX10_awaitsParts_127 : decode cX10_awaitsParts 127 = .ok (.ireturn, 1) := by decide +kernel
theorem dX10_readsOne_0 : decode cX10_readsOne 0 = .ok (.aload_n 0, 1) := by decide +kernel
theorem dX10_readsOne_1 : decode cX10_readsOne 1 = .ok (.getfield 37, 3) := by decide +kernel
theorem dX10_readsOne_4 : decode cX10_readsOne 4 = .ok (.aload_n 0, 1) := by decide +kernel
theorem dX10_readsOne_5 : decode cX10_readsOne 5 = .ok (.getfield 159, 3) := by decide +kernel
theorem dX10_readsOne_8 : decode cX10_readsOne 8 = .ok (.iload_n 2, 1) := by decide +kernel
theorem dX10_readsOne_9 : decode cX10_readsOne 9 = .ok (.bipush 118, 2) := by decide +kernel
theorem dX10_readsOne_11 : decode cX10_readsOne 11 = .ok (.if_icmp .ne 7, 3) := by decide +kernel
theorem dX10_readsOne_14 : decode cX10_readsOne 14 = .ok (.iconst 1, 1) := by decide +kernel
theorem dX10_readsOne_15 : decode cX10_readsOne 15 = .ok (.goto 4, 3) := by decide +kernel
theorem dX10_readsOne_18 : decode cX10_readsOne 18 = .ok (.iconst 0, 1) := by decide +kernel
theorem dX10_readsOne_19 : decode cX10_readsOne 19 = .ok (.iastore, 1) := by decide +kernel
theorem dX10_readsOne_20 : decode cX10_readsOne 20 = .ok (.iload_n 2, 1) := by decide +kernel
theorem dX10_readsOne_21 : decode cX10_readsOne 21 = .ok (.bipush 118, 2) := by decide +kernel
theorem dX10_readsOne_23 : decode cX10_readsOne 23 = .ok (.if_icmp .ne 12, 3) := by decide +kernel
theorem dX10_readsOne_26 : decode cX10_readsOne 26 = .ok (.iload_n 1, 1) := by decide +kernel
theorem dX10_readsOne_27 : decode cX10_readsOne 27 = .ok (.bipush 97, 2) := by decide +kernel
theorem dX10_readsOne_29 : decode cX10_readsOne 29 = .ok (.bipush 102, 2) := by decide +kernel
theorem dX10_readsOne_31 : decode cX10_readsOne 31 = .ok (.invokestatic 134, 3) := by decide +kernel
theorem dX10_readsOne_34 : decode cX10_readsOne 34 = .ok (.ireturn, 1) := by decide +kernel
theorem dX10_readsOne_35 : decode cX10_readsOne 35 = .ok (.aload_n 0, 1) := by decide +kernel
theorem dX10_readsOne_36 : decode cX10_readsOne 36 = .ok (.iload_n 1, 1) := by decide +kernel
theorem dX10_readsOne_37 : decode cX10_readsOne 37 = .ok (.invokevirtual 162, 3) := by decide +kernel
theorem dX10_readsOne_40 : decode cX10_readsOne 40 = .ok (.ifCond .ne 5, 3) := by decide +kernel
