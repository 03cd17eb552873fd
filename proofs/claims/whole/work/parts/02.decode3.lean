theorem dX10_forgets_28 : decode cX10_forgets 28 = .ok (.iload_n 1, 1) := by decide +kernel
theorem dX10_forgets_29 : decode cX10_forgets 29 = .ok (.bipush 10, 2) := by decide +kernel
theorem dX10_forgets_31 : decode cX10_forgets 31 = .ok (.if_icmp .ge 54, 3) := by decide +kernel
theorem dX10_forgets_34 : decode cX10_forgets 34 = .ok (.aload_n 0, 1) := by decide +kernel
theorem dX10_forgets_35 : decode cX10_forgets 35 = .ok (.getfield 49, 3) := by decide +kernel
theorem dX10_forgets_38 : decode cX10_forgets 38 = .ok (.iload_n 1, 1) := by decide +kernel
theorem dX10_forgets_39 : decode cX10_forgets 39 = .ok (.aload_n 0, 1) := by decide +kernel
theorem dX10_forgets_40 : decode cX10_forgets 40 = .ok (.getfield 113, 3) := by decide +kernel
theorem dX10_forgets_43 : decode cX10_forgets 43 = .ok (.bipush 6, 2) := by decide +kernel
theorem dX10_forgets_45 : decode cX10_forgets 45 = .ok (.iload_n 1, 1) := by decide +kernel
theorem dX10_forgets_46 : decode cX10_forgets 46 = .ok (.iadd, 1) := by decide +kernel
theorem dX10_forgets_47 : decode cX10_forgets 47 = .ok (.iaload, 1) := by decide +kernel
theorem dX10_forgets_48 : decode cX10_forgets 48 = .ok (.iastore, 1) := by decide +kernel
theorem dX10_forgets_49 : decode cX10_forgets 49 = .ok (.aload_n 0, 1) := by decide +kernel
theorem dX10_forgets_50 : decode cX10_forgets 50 = .ok (.getfield 52, 3) := by decide +kernel
theorem dX10_forgets_53 : decode cX10_forgets 53 = .ok (.iload_n 1, 1) := by decide +kernel
theorem dX10_forgets_54 : decode cX10_forgets 54 = .ok (.aload_n 0, 1) := by decide +kernel
theorem dX10_forgets_55 : decode cX10_forgets 55 = .ok (.getfield 113, 3) := by decide +kernel
theorem dX10_forgets_58 : decode cX10_forgets 58 = .ok (.bipush 16, 2) := by decide +kernel
theorem dX10_forgets_60 : decode cX10_forgets 60 = .ok (.iload_n 1, 1) := by decide +kernel
theorem dX10_forgets_61 : decode cX10_forgets 61 = .ok (.iadd, 1) := by decide +kernel
theorem dX10_forgets_62 : decode cX10_forgets 62 = .ok (.iaload, 1) := by decide +kernel
theorem dX10_forgets_63 : decode cX10_forgets 63 = .ok (.iastore, 1) := by decide +kernel
theorem dX10_forgets_64 : decode cX10_forgets 64 = .ok (.aload_n 0, 1) := by decide +kernel
theorem dX10_forgets_65 : decode cX10_forgets 65 = .ok (.getfield 55, 3) := by decide +kernel
theorem dX10_forgets_68 : decode cX10_forgets 68 = .ok (.iload_n 1, 1) := by decide +kernel
theorem dX10_forgets_69 : decode cX10_forgets 69 = .ok (.aload_n 0, 1) := by decide +kernel
theorem dX10_forgets_70 : decode cX10_forgets 70 = .ok (.getfield 113, 3) := by decide +kernel
theorem dX10_forgets_73 : decode cX10_forgets 73 = .ok (.bipush 26, 2) := by decide +kernel
theorem dX10_forgets_75 : decode cX10_forgets 75 = .ok (.iload_n 1, 1) := by decide +kernel
theorem dX10_forgets_76 : decode cX10_forgets 76 = .ok (.iadd, 1) := by decide +kernel
theorem dX10_forgets_77 : decode cX10_forgets 77 = .ok (.iaload, 1) := by decide +kernel
theorem dX10_forgets_78 : decode cX10_forgets 78 = .ok (.iastore, 1) := by decide +kernel
theorem dX10_forgets_79 : decode cX10_forgets 79 = .ok (.iinc 1 1, 3) := by decide +kernel
theorem dX10_forgets_82 : decode cX10_forgets 82 = .ok (.goto (-54), 3) := by decide +kernel
theorem dX10_forgets_85 : decode cX10_forgets 85 = .ok (.return_, 1) := by decide +kernel
theorem dX10_goesWith_0 : decode cX10_goesWith 0 = .ok (.aload_n 0, 1) := by decide +kernel
theorem dX10_goesWith_1 : decode cX10_goesWith 1 = .ok (.invokevirtual 368, 3) := by decide +kernel
theorem dX10_goesWith_4 : decode cX10_goesWith 4 = .ok (.aload_n 0, 1) := by decide +kernel
theorem dX10_goesWith_5 : decode cX10_goesWith 5 = .ok (.getfield 46, 3) := by decide +kernel
theorem dX10_goesWith_8 : decode cX10_goesWith 8 = .ok (.iload_n 1, 1) := by decide +kernel
theorem dX10_goesWith_9 : decode cX10_goesWith 9 = .ok (.iload_n 2, 1) := by decide +kernel
theorem dX10_goesWith_10 : decode cX10_goesWith 10 = .ok (.iastore, 1) := by decide +kernel
theorem dX10_goesWith_11 : decode cX10_goesWith 11 = .ok (.aload_n 0, 1) := by decide +kernel
theorem dX10_goesWith_12 : decode cX10_goesWith 12 = .ok (.invokevirtual 353, 3) := by decide +kernel
theorem dX10_goesWith_15 : decode cX10_goesWith 15 = .ok (.aload_n 0, 1) := by decide +kernel
theorem dX10_goesWith_16 : decode cX10_goesWith 16 = .ok (.invokevirtual 371, 3) := by decide +kernel
theorem dX10_goesWith_19 : decode cX10_goesWith 19 = .ok (.return_, 1) := by decide +kernel
theorem dX10_thinks_0 : decode cX10_thinks 0 = .ok (.iload_n 1, 1) := by decide +kernel
theorem dX10_thinks_1 : decode cX10_thinks 1 = .ok (.iconst 0, 1) := by decide +kernel
theorem dX10_thinks_2 : decode cX10_thinks 2 = .ok (.iconst 5, 1) := by decide +kernel
theorem dX10_thinks_3 : decode cX10_thinks 3 = .ok (.invokestatic 134, 3) := by decide +kernel
theorem dX10_thinks_6 : decode cX10_thinks 6 = .ok (.ifCond .ne 10, 3) := by decide +kernel
theorem dX10_thinks_9 : decode cX10_thinks 9 = .ok (.aload_n 0, 1) := by decide +kernel
theorem dX10_thinks_10 : decode cX10_thinks 10 = .ok (.bipush (-2), 2) := by decide +kernel
theorem dX10_thinks_12 : decode cX10_thinks 12 = .ok (.invokevirtual 359, 3) := by decide +kernel
theorem dX10_thinks_15 : decode cX10_thinks 15 = .ok (.ireturn, 1) := by decide +kernel
theorem dX10_thinks_16 : decode cX10_thinks 16 = .ok (.aload_n 0, 1) := by decide +kernel
theorem dX10_thinks_17 : decode cX10_thinks 17 = .ok (.iconst 0, 1) := by decide +kernel
theorem dX10_thinks_18 : decode cX10_thinks 18 = .ok (.aload_n 0, 1) := by decide +kernel
theorem dX10_thinks_19 : decode cX10_thinks 19 = .ok (.getfield 46, 3) := by decide +kernel
theorem dX10_thinks_22 : decode cX10_thinks 22 = .ok (.iconst 0, 1) := by decide +kernel
theorem dX10_thinks_23 : decode cX10_thinks 23 = .ok (.iaload, 1) := by decide +kernel
theorem dX10_thinks_24 : decode cX10_thinks 24 = .ok (.invokevirtual 374, 3) := by decide +kernel
theorem dX10_thinks_27 : decode cX10_thinks 27 = .ok (.aload_n 0, 1) := by decide +kernel
theorem dX10_thinks_28 : decode cX10_thinks 28 = .ok (.iload_n 1, 1) := by decide +kernel
theorem dX10_thinks_29 : decode cX10_thinks 29 = .ok (.invokevirtual 377, 3) := by decide +kernel
theorem dX10_thinks_32 : decode cX10_thinks 32 = .ok (.ireturn, 1) := by decide +kernel
theorem dX10_with_0 : decode cX10_with 0 = .ok (.iload_n 1, 1) := by decide +kernel
theorem dX10_with_1 : decode cX10_with 1 = .ok (.invokestatic 362, 3) := by decide +kernel
theorem dX10_with_4 : decode cX10_with 4 = .ok (.ifCond .ne 7, 3) := by decide +kernel
theorem dX10_with_7 : decode cX10_with 7 = .ok (.iconst (-1), 1) := by decide +kernel
theorem dX10_with_8 : decode cX10_with 8 = .ok (.goto 13, 3) := by decide +kernel
theorem dX10_with_11 : decode cX10_with 11 = .ok (.iload_n 2, 1) := by decide +kernel
theorem dX10_with_12 : decode cX10_with 12 = .ok (.sipush (-9999), 3) := by decide +kernel
theorem dX10_with_15 : decode cX10_with 15 = .ok (.sipush 9999, 3) := by decide +kernel
theorem dX10_with_18 : decode cX10_with 18 = .ok (.invokestatic 138, 3) := by decide +kernel
theorem dX10_with_21 : decode cX10_with 21 = .ok (.istore 4, 2) := by decide +kernel
theorem dX10_with_23 : decode cX10_with 23 = .ok (.iload 4, 2) := by decide +kernel
theorem dX10_with_25 : decode cX10_with 25 = .ok (.ifCond .ne 16, 3) := by decide +kernel
theorem dX10_with_28 : decode cX10_with 28 = .ok (.iload_n 3, 1) := by decide +kernel
theorem dX10_with_29 : decode cX10_with 29 = .ok (.iconst 0, 1) := by decide +kernel
theorem dX10_with_30 : decode cX10_with 30 = .ok (.iconst 5, 1) := by decide +kernel
theorem dX10_with_31 : decode cX10_with 31 = .ok (.invokestatic 134, 3) := by decide +kernel
theorem dX10_with_34 : decode cX10_with 34 = .ok (.ifCond .ne 7, 3) := by decide +kernel
theorem dX10_with_37 : decode cX10_with 37 = .ok (.bipush (-2), 2) := by decide +kernel
theorem dX10_with_39 : decode cX10_with 39 = .ok (.istore 4, 2) := by decide +kernel
theorem dX10_with_41 : decode cX10_with 41 = .ok (.iload 4, 2) := by decide +kernel
theorem dX10_with_43 : decode cX10_with 43 = .ok (.ifCond .eq 10, 3) := by decide +kernel
theorem dX10_with_46 : decode cX10_with 46 = .ok (.aload_n 0, 1) := by decide +kernel
theorem dX10_with_47 : decode cX10_with 47 = .ok (.iload 4, 2) := by decide +kernel
theorem dX10_with_49 : decode cX10_with 49 = .ok (.invokevirtual 359, 3) := by decide +kernel
theorem dX10_with_52 : decode cX10_with 52 = .ok (.ireturn, 1) := by decide +kernel
theorem dX10_with_53 : decode cX10_with 53 = .ok (.aload_n 0, 1) := by decide +kernel
theorem dX10_with_54 : decode cX10_with 54 = .ok (.iload_n 1, 1) := by decide +kernel
theorem dX10_with_55 : decode cX10_with 55 = .ok (.iload_n 2, 1) := by decide +kernel
theorem dX10_with_56 : decode cX10_with 56 = .ok (.invokevirtual 374, 3) := by decide +kernel
theorem dX10_with_59 : decode cX10_with 59 = .ok (.aload_n 0, 1) := by decide +kernel
theorem dX10_with_60 : decode cX10_with 60 = .ok (.iload_n 3, 1) := by decide +kernel
theorem dX10_with_61 : decode cX10_with 61 = .ok (.invokevirtual 377, 3) := by decide +kernel
theorem dX10_with_64 : decode cX10_with 64 = .ok (.ireturn, 1) := by decide +kernel
theorem dX10_solve_0 : decode cX10_solve 0 = .ok (.iload_n 1, 1) := by decide +kernel
theorem dX10_solve_1 : decode cX10_solve 1 = .ok (.invokestatic 362, 3) := by decide +kernel
theorem dX10_solve_4 : decode cX10_solve 4 = .ok (.ifCond .ne 7, 3) := by decide +kernel
theorem dX10_solve_7 : decode cX10_solve 7 = .ok (.iconst (-1), 1) := by decide +kernel
theorem dX10_solve_8 : decode cX10_solve 8 = .ok (.goto 13, 3) := by decide +kernel
theorem dX10_solve_11 : decode cX10_solve 11 = .ok (.iload_n 2, 1) := by decide +kernel
theorem dX10_solve_12 : decode cX10_solve 12 = .ok (.sipush (-9999), 3) := by decide +kernel
theorem dX10_solve_15 : decode cX10_solve 15 = .ok (.sipush 9999, 3) := by decide +kernel
theorem dX10_solve_18 : decode cX10_solve 18 = .ok (.invokestatic 138, 3) := by decide +kernel
theorem dX10_solve_21 : decode cX10_solve 21 = .ok (.istore_n 3, 1) := by decide +kernel
theorem dX10_solve_22 : decode cX10_solve 22 = .ok (.iload_n 3, 1) := by decide +kernel
theorem dX10_solve_23 : decode cX10_solve 23 = .ok (.ifCond .eq 9, 3) := by decide +kernel
theorem dX10_solve_26 : decode cX10_solve 26 = .ok (.aload_n 0, 1) := by decide +kernel
theorem dX10_solve_27 : decode cX10_solve 27 = .ok (.iload_n 3, 1) := by decide +kernel
theorem dX10_solve_28 : decode cX10_solve 28 = .ok (.invokevirtual 359, 3) := by decide +kernel
theorem dX10_solve_31 : decode cX10_solve 31 = .ok (.ireturn, 1) := by decide +kernel
theorem dX10_solve_32 : decode cX10_solve 32 = .ok (.bipush (-20), 2) := by decide +kernel
theorem dX10_solve_34 : decode cX10_solve 34 = .ok (.istore 4, 2) := by decide +kernel
theorem dX10_solve_36 : decode cX10_solve 36 = .ok (.iload 4, 2) := by decide +kernel
theorem dX10_solve_38 : decode cX10_solve 38 = .ok (.bipush 20, 2) := by decide +kernel
theorem dX10_solve_40 : decode cX10_solve 40 = .ok (.if_icmp .gt 34, 3) := by decide +kernel
theorem dX10_solve_43 : decode cX10_solve 43 = .ok (.aload_n 0, 1) := by decide +kernel
theorem dX10_solve_44 : decode cX10_solve 44 = .ok (.iload_n 1, 1) := by decide +kernel
theorem dX10_solve_45 : decode cX10_solve 45 = .ok (.iload 4, 2) := by decide +kernel
theorem dX10_solve_47 : decode cX10_solve 47 = .ok (.invokevirtual 374, 3) := by decide +kernel
theorem dX10_solve_50 : decode cX10_solve 50 = .ok (.aload_n 0, 1) := by decide +kernel
theorem dX10_solve_51 : decode cX10_solve 51 = .ok (.invokevirtual 329, 3) := by decide +kernel
theorem dX10_solve_54 : decode cX10_solve 54 = .ok (.ifCond .ne 14, 3) := by decide +kernel
theorem dX10_solve_57 : decode cX10_solve 57 = .ok (.aload_n 0, 1) := by decide +kernel
theorem dX10_solve_58 : decode cX10_solve 58 = .ok (.invokevirtual 332, 3) := by decide +kernel
theorem dX10_solve_61 : decode cX10_solve 61 = .ok (.iload_n 2, 1) := by decide +kernel
theorem dX10_solve_62 : decode cX10_solve 62 = .ok (.if_icmp .ne 6, 3) := by decide +kernel
theorem dX10_solve_65 : decode cX10_solve 65 = .ok (.iload 4, 2) := by decide +kernel
theorem dX10_solve_67 : decode cX10_solve 67 = .ok (.ireturn, 1) := by decide +kernel
theorem dX10_solve_68 : decode cX10_solve 68 = .ok (.iinc 4 1, 3) := by decide +kernel
theorem dX10_solve_71 : decode cX10_solve 71 = .ok (.goto (-35), 3) := by decide +kernel
theorem dX10_solve_74 : decode cX10_solve 74 = .ok (.ldc_w 380, 3) := by decide +kernel
theorem dX10_solve_77 : decode cX10_solve 77 = .ok (.ireturn, 1) := by decide +kernel
theorem dX10_fewest_0 : decode cX10_fewest 0 = .ok (.iload_n 1, 1) := by decide +kernel
theorem dX10_fewest_1 : decode cX10_fewest 1 = .ok (.invokestatic 362, 3) := by decide +kernel
theorem dX10_fewest_4 : decode cX10_fewest 4 = .ok (.ifCond .ne 7, 3) := by decide +kernel
theorem dX10_fewest_7 : decode cX10_fewest 7 = .ok (.iconst (-1), 1) := by decide +kernel
theorem dX10_fewest_8 : decode cX10_fewest 8 = .ok (.goto 18, 3) := by decide +kernel
theorem dX10_fewest_11 : decode cX10_fewest 11 = .ok (.iload_n 2, 1) := by decide +kernel
theorem dX10_fewest_12 : decode cX10_fewest 12 = .ok (.iconst 0, 1) := by decide +kernel
theorem dX10_fewest_13 : decode cX10_fewest 13 = .ok (.iconst 1, 1) := by decide +kernel
theorem dX10_fewest_14 : decode cX10_fewest 14 = .ok (.invokestatic 134, 3) := by decide +kernel
theorem dX10_fewest_17 : decode cX10_fewest 17 = .ok (.ifCond .ne 8, 3) := by decide +kernel
theorem dX10_fewest_20 : decode cX10_fewest 20 = .ok (.bipush (-2), 2) := by decide +kernel
theorem dX10_fewest_22 : decode cX10_fewest 22 = .ok (.goto 4, 3) := by decide +kernel
theorem dX10_fewest_25 : decode cX10_fewest 25 = .ok (.iconst 0, 1) := by decide +kernel
theorem dX10_fewest_26 : decode cX10_fewest 26 = .ok (.istore_n 3, 1) := by decide +kernel
theorem dX10_fewest_27 : decode cX10_fewest 27 = .ok (.iload_n 3, 1) := by decide +kernel
theorem dX10_fewest_28 : decode cX10_fewest 28 = .ok (.ifCond .eq 9, 3) := by decide +kernel
theorem dX10_fewest_31 : decode cX10_fewest 31 = .ok (.aload_n 0, 1) := by decide +kernel
theorem dX10_fewest_32 : decode cX10_fewest 32 = .ok (.iload_n 3, 1) := by decide +kernel
theorem dX10_fewest_33 : decode cX10_fewest 33 = .ok (.invokevirtual 359, 3) := by decide +kernel
theorem dX10_fewest_36 : decode cX10_fewest 36 = .ok (.ireturn, 1) := by decide +kernel
theorem dX10_fewest_37 : decode cX10_fewest 37 = .ok (.ldc_w 380, 3) := by decide +kernel
theorem dX10_fewest_40 : decode cX10_fewest 40 = .ok (.istore 4, 2) := by decide +kernel
theorem dX10_fewest_42 : decode cX10_fewest 42 = .ok (.ldc_w 380, 3) := by decide +kernel
theorem dX10_fewest_45 : decode cX10_fewest 45 = .ok (.istore 5, 2) := by decide +kernel
theorem dX10_fewest_47 : decode cX10_fewest 47 = .ok (.bipush (-20), 2) := by decide +kernel
theorem dX10_fewest_49 : decode cX10_fewest 49 = .ok (.istore 6, 2) := by decide +kernel
theorem dX10_fewest_51 : decode cX10_fewest 51 = .ok (.iload 6, 2) := by decide +kernel
theorem dX10_fewest_53 : decode cX10_fewest 53 = .ok (.bipush 20, 2) := by decide +kernel
theorem dX10_fewest_55 : decode cX10_fewest 55 = .ok (.if_icmp .gt 46, 3) := by decide +kernel
theorem dX10_fewest_58 : decode cX10_fewest 58 = .ok (.aload_n 0, 1) := by decide +kernel
theorem dX10_fewest_59 : decode cX10_fewest 59 = .ok (.iload_n 1, 1) := by decide +kernel
theorem dX10_fewest_60 : decode cX10_fewest 60 = .ok (.iload 6, 2) := by decide +kernel
theorem dX10_fewest_62 : decode cX10_fewest 62 = .ok (.invokevirtual 374, 3) := by decide +kernel
theorem dX10_fewest_65 : decode cX10_fewest 65 = .ok (.aload_n 0, 1) := by decide +kernel
theorem dX10_fewest_66 : decode cX10_fewest 66 = .ok (.invokevirtual 329, 3) := by decide +kernel
theorem dX10_fewest_69 : decode cX10_fewest 69 = .ok (.iconst 3, 1) := by decide +kernel
theorem dX10_fewest_70 : decode cX10_fewest 70 = .ok (.if_icmp .eq 25, 3) := by decide +kernel
theorem dX10_fewest_73 : decode cX10_fewest 73 = .ok (.aload_n 0, 1) := by decide +kernel
theorem dX10_fewest_74 : decode cX10_fewest 74 = .ok (.getfield 256, 3) := by decide +kernel
theorem dX10_fewest_77 : decode cX10_fewest 77 = .ok (.iload 5, 2) := by decide +kernel
theorem dX10_fewest_79 : decode cX10_fewest 79 = .ok (.if_icmp .lt 6, 3) := by decide +kernel
theorem dX10_fewest_82 : decode cX10_fewest 82 = .ok (.goto 13, 3) := by decide +kernel
theorem dX10_fewest_85 : decode cX10_fewest 85 = .ok (.iload 6, 2) := by decide +kernel
theorem dX10_fewest_87 : decode cX10_fewest 87 = .ok (.istore 4, 2) := by decide +kernel
theorem dX10_fewest_89 : decode cX10_fewest 89 = .ok (.aload_n 0, 1) := by decide +kernel
theorem dX10_fewest_90 : decode cX10_fewest 90 = .ok (.getfield 256, 3) := by decide +kernel
theorem dX10_fewest_93 : decode cX10_fewest 93 = .ok (.istore 5, 2) := by decide +kernel
theorem dX10_fewest_95 : decode cX10_fewest 95 = .ok (.iinc 6 1, 3) := by decide +kernel
theorem dX10_fewest_98 : decode cX10_fewest 98 = .ok (.goto (-47), 3) := by decide +kernel
theorem dX10_fewest_101 : decode cX10_fewest 101 = .ok (.iload_n 2, 1) := by decide +kernel
theorem dX10_fewest_102 : decode cX10_fewest 102 = .ok (.ifCond .ne 8, 3) := by decide +kernel
theorem dX10_fewest_105 : decode cX10_fewest 105 = .ok (.iload 4, 2) := by decide +kernel
theorem dX10_fewest_107 : decode cX10_fewest 107 = .ok (.goto 5, 3) := by decide +kernel
theorem dX10_fewest_110 : decode cX10_fewest 110 = .ok (.iload 5, 2) := by decide +kernel
theorem dX10_fewest_112 : decode cX10_fewest 112 = .ok (.ireturn, 1) := by decide +kernel
theorem dX10_pure_0 : decode cX10_pure 0 = .ok (.aload_n 0, 1) := by decide +kernel
theorem dX10_pure_1 : decode cX10_pure 1 = .ok (.invokevirtual 368, 3) := by decide +kernel
theorem dX10_pure_4 : decode cX10_pure 4 = .ok (.aload_n 0, 1) := by decide +kernel
theorem dX10_pure_5 : decode cX10_pure 5 = .ok (.invokevirtual 353, 3) := by decide +kernel
theorem dX10_pure_8 : decode cX10_pure 8 = .ok (.aload_n 0, 1) := by decide +kernel
theorem dX10_pure_9 : decode cX10_pure 9 = .ok (.invokevirtual 329, 3) := by decide +kernel
theorem dX10_pure_12 : decode cX10_pure 12 = .ok (.istore_n 1, 1) := by decide +kernel
theorem dX10_pure_13 : decode cX10_pure 13 = .ok (.aload_n 0, 1) := by decide +kernel
theorem dX10_pure_14 : decode cX10_pure 14 = .ok (.invokevirtual 332, 3) := by decide +kernel
theorem dX10_pure_17 : decode cX10_pure 17 = .ok (.istore_n 2, 1) := by decide +kernel
theorem dX10_pure_18 : decode cX10_pure 18 = .ok (.aload_n 0, 1) := by decide +kernel
theorem dX10_pure_19 : decode cX10_pure 19 = .ok (.invokevirtual 353, 3) := by decide +kernel
theorem dX10_pure_22 : decode cX10_pure 22 = .ok (.iload_n 1, 1) := by decide +kernel
theorem dX10_pure_23 : decode cX10_pure 23 = .ok (.aload_n 0, 1) := by decide +kernel
theorem dX10_pure_24 : decode cX10_pure 24 = .ok (.invokevirtual 329, 3) := by decide +kernel
theorem dX10_pure_27 : decode cX10_pure 27 = .ok (.if_icmp .ne 15, 3) := by decide +kernel
theorem dX10_pure_30 : decode cX10_pure 30 = .ok (.iload_n 2, 1) := by decide +kernel
theorem dX10_pure_31 : decode cX10_pure 31 = .ok (.aload_n 0, 1) := by decide +kernel
theorem dX10_pure_32 : decode cX10_pure 32 = .ok (.invokevirtual 332, 3) := by decide +kernel
theorem dX10_pure_35 : decode cX10_pure 35 = .ok (.if_icmp .ne 7, 3) := by decide +kernel
theorem dX10_pure_38 : decode cX10_pure 38 = .ok (.iconst 1, 1) := by decide +kernel
theorem dX10_pure_39 : decode cX10_pure 39 = .ok (.goto 4, 3) := by decide +kernel
theorem dX10_pure_42 : decode cX10_pure 42 = .ok (.iconst 0, 1) := by decide +kernel
theorem dX10_pure_43 : decode cX10_pure 43 = .ok (.istore_n 3, 1) := by decide +kernel
theorem dX10_pure_44 : decode cX10_pure 44 = .ok (.iconst 0, 1) := by decide +kernel
theorem dX10_pure_45 : decode cX10_pure 45 = .ok (.istore 4, 2) := by decide +kernel
theorem dX10_pure_47 : decode cX10_pure 47 = .ok (.iload 4, 2) := by decide +kernel
theorem dX10_pure_49 : decode cX10_pure 49 = .ok (.bipush 6, 2) := by decide +kernel
theorem dX10_pure_51 : decode cX10_pure 51 = .ok (.if_icmp .ge 36, 3) := by decide +kernel
theorem dX10_pure_54 : decode cX10_pure 54 = .ok (.iload_n 3, 1) := by decide +kernel
theorem dX10_pure_55 : decode cX10_pure 55 = .ok (.ifCond .eq 24, 3) := by decide +kernel
theorem dX10_pure_58 : decode cX10_pure 58 = .ok (.aload_n 0, 1) := by decide +kernel
theorem dX10_pure_59 : decode cX10_pure 59 = .ok (.getfield 46, 3) := by decide +kernel
theorem dX10_pure_62 : decode cX10_pure 62 = .ok (.iload 4, 2) := by decide +kernel
theorem dX10_pure_64 : decode cX10_pure 64 = .ok (.iaload, 1) := by decide +kernel
theorem dX10_pure_65 : decode cX10_pure 65 = .ok (.aload_n 0, 1) := by decide +kernel
theorem dX10_pure_66 : decode cX10_pure 66 = .ok (.getfield 113, 3) := by decide +kernel
theorem dX10_pure_69 : decode cX10_pure 69 = .ok (.iload 4, 2) := by decide +kernel
theorem dX10_pure_71 : decode cX10_pure 71 = .ok (.iaload, 1) := by decide +kernel
theorem dX10_pure_72 : decode cX10_pure 72 = .ok (.if_icmp .ne 7, 3) := by decide +kernel
theorem dX10_pure_75 : decode cX10_pure 75 = .ok (.iconst 1, 1) := by decide +kernel
theorem dX10_pure_76 : decode cX10_pure 76 = .ok (.goto 4, 3) := by decide +kernel
theorem dX10_pure_79 : decode cX10_pure 79 = .ok (.iconst 0, 1) := by decide +kernel
theorem dX10_pure_80 : decode cX10_pure 80 = .ok (.istore_n 3, 1) := by decide +kernel
theorem dX10_pure_81 : decode cX10_pure 81 = .ok (.iinc 4 1, 3) := by decide +kernel
theorem dX10_pure_84 : decode cX10_pure 84 = .ok (.goto (-37), 3) := by decide +kernel
theorem dX10_pure_87 : decode cX10_pure 87 = .ok (.aload_n 0, 1) := by decide +kernel
theorem dX10_pure_88 : decode cX10_pure 88 = .ok (.invokevirtual 371, 3) := by decide +kernel
theorem dX10_pure_91 : decode cX10_pure 91 = .ok (.iload_n 3, 1) := by decide +kernel
theorem dX10_pure_92 : decode cX10_pure 92 = .ok (.ifCond .eq 7, 3) := by decide +kernel
theorem dX10_pure_95 : decode cX10_pure 95 = .ok (.iconst 1, 1) := by decide +kernel
theorem dX10_pure_96 : decode cX10_pure 96 = .ok (.goto 4, 3) := by decide +kernel
theorem dX10_pure_99 : decode cX10_pure 99 = .ok (.iconst 0, 1) := by decide +kernel
theorem dX10_pure_100 : decode cX10_pure 100 = .ok (.ireturn, 1) := by decide +kernel
theorem dX10_changes_0 : decode cX10_changes 0 = .ok (.aload_n 0, 1) := by decide +kernel
theorem dX10_changes_1 : decode cX10_changes 1 = .ok (.invokevirtual 368, 3) := by decide +kernel
theorem dX10_changes_4 : decode cX10_changes 4 = .ok (.aload_n 0, 1) := by decide +kernel
theorem dX10_changes_5 : decode cX10_changes 5 = .ok (.invokevirtual 353, 3) := by decide +kernel
theorem dX10_changes_8 : decode cX10_changes 8 = .ok (.iconst 0, 1) := by decide +kernel
theorem dX10_changes_9 : decode cX10_changes 9 = .ok (.istore_n 1, 1) := by decide +kernel
theorem dX10_changes_10 : decode cX10_changes 10 = .ok (.iconst 0, 1) := by decide +kernel
theorem dX10_changes_11 : decode cX10_changes 11 = .ok (.istore_n 2, 1) := by decide +kernel
theorem dX10_changes_12 : decode cX10_changes 12 = .ok (.iload_n 2, 1) := by decide +kernel
theorem dX10_changes_13 : decode cX10_changes 13 = .ok (.aload_n 0, 1) := by decide +kernel
theorem dX10_changes_14 : decode cX10_changes 14 = .ok (.getfield 192, 3) := by decide +kernel
theorem dX10_changes_17 : decode cX10_changes 17 = .ok (.if_icmp .ge 47, 3) := by decide +kernel
theorem dX10_changes_20 : decode cX10_changes 20 = .ok (.aload_n 0, 1) := by decide +kernel
theorem dX10_changes_21 : decode cX10_changes 21 = .ok (.iload_n 2, 1) := by decide +kernel
theorem dX10_changes_22 : decode cX10_changes 22 = .ok (.invokevirtual 365, 3) := by decide +kernel
theorem dX10_changes_25 : decode cX10_changes 25 = .ok (.istore_n 3, 1) := by decide +kernel
theorem dX10_changes_26 : decode cX10_changes 26 = .ok (.aload_n 0, 1) := by decide +kernel
theorem dX10_changes_27 : decode cX10_changes 27 = .ok (.getfield 49, 3) := by decide +kernel
theorem dX10_changes_30 : decode cX10_changes 30 = .ok (.iload_n 2, 1) := by decide +kernel
theorem dX10_changes_31 : decode cX10_changes 31 = .ok (.aload_n 0, 1) := by decide +kernel
theorem dX10_changes_32 : decode cX10_changes 32 = .ok (.getfield 113, 3) := by decide +kernel
theorem dX10_changes_35 : decode cX10_changes 35 = .ok (.bipush 6, 2) := by decide +kernel
theorem dX10_changes_37 : decode cX10_changes 37 = .ok (.iload_n 2, 1) := by decide +kernel
theorem dX10_changes_38 : decode cX10_changes 38 = .ok (.iadd, 1) := by decide +kernel
theorem dX10_changes_39 : decode cX10_changes 39 = .ok (.iaload, 1) := by decide +kernel
theorem dX10_changes_40 : decode cX10_changes 40 = .ok (.iastore, 1) := by decide +kernel
theorem dX10_changes_41 : decode cX10_changes 41 = .ok (.iload_n 1, 1) := by decide +kernel
theorem dX10_changes_42 : decode cX10_changes 42 = .ok (.iload_n 3, 1) := by decide +kernel
theorem dX10_changes_43 : decode cX10_changes 43 = .ok (.aload_n 0, 1) := by decide +kernel
theorem dX10_changes_44 : decode cX10_changes 44 = .ok (.iload_n 2, 1) := by decide +kernel
theorem dX10_changes_45 : decode cX10_changes 45 = .ok (.invokevirtual 365, 3) := by decide +kernel
theorem dX10_changes_48 : decode cX10_changes 48 = .ok (.if_icmp .ne 7, 3) := by decide +kernel
theorem dX10_changes_51 : decode cX10_changes 51 = .ok (.iconst 0, 1) := by decide +kernel
theorem dX10_changes_52 : decode cX10_changes 52 = .ok (.goto 4, 3) := by decide +kernel
theorem dX10_changes_55 : decode cX10_changes 55 = .ok (.iconst 1, 1) := by decide +kernel
theorem dX10_changes_56 : decode cX10_changes 56 = .ok (.iadd, 1) := by decide +kernel
theorem dX10_changes_57 : decode cX10_changes 57 = .ok (.istore_n 1, 1) := by decide +kernel
theorem dX10_changes_58 : decode cX10_changes 58 = .ok (.iinc 2 1, 3) := by decide +kernel
theorem dX10_changes_61 : decode cX10_changes 61 = .ok (.goto (-49), 3) := by decide +kernel
theorem dX10_changes_64 : decode cX10_changes 64 = .ok (.aload_n 0, 1) := by decide +kernel
theorem dX10_changes_65 : decode cX10_changes 65 = .ok (.invokevirtual 371, 3) := by decide +kernel
theorem dX10_changes_68 : decode cX10_changes 68 = .ok (.iload_n 1, 1) := by decide +kernel
theorem dX10_changes_69 : decode cX10_changes 69 = .ok (.ireturn, 1) := by decide +kernel
theorem dX10_again_0 : decode cX10_again 0 = .ok (.iload_n 1, 1) := by decide +kernel
theorem dX10_again_1 : decode cX10_again 1 = .ok (.iconst 1, 1) := by decide +kernel
theorem dX10_again_2 : decode cX10_again 2 = .ok (.bipush 20, 2) := by decide +kernel
theorem dX10_again_4 : decode cX10_again 4 = .ok (.invokestatic 138, 3) := by decide +kernel
theorem dX10_again_7 : decode cX10_again 7 = .ok (.istore_n 3, 1) := by decide +kernel
theorem dX10_again_8 : decode cX10_again 8 = .ok (.iload_n 3, 1) := by decide +kernel
theorem dX10_again_9 : decode cX10_again 9 = .ok (.ifCond .ne 15, 3) := by decide +kernel
theorem dX10_again_12 : decode cX10_again 12 = .ok (.iload_n 2, 1) := by decide +kernel
theorem dX10_again_13 : decode cX10_again 13 = .ok (.iconst 0, 1) := by decide +kernel
theorem dX10_again_14 : decode cX10_again 14 = .ok (.iconst 1, 1) := by decide +kernel
theorem dX10_again_15 : decode cX10_again 15 = .ok (.invokestatic 134, 3) := by decide +kernel
theorem dX10_again_18 : decode cX10_again 18 = .ok (.ifCond .ne 6, 3) := by decide +kernel
theorem dX10_again_21 : decode cX10_again 21 = .ok (.bipush (-2), 2) := by decide +kernel
theorem dX10_again_23 : decode cX10_again 23 = .ok (.istore_n 3, 1) := by decide +kernel
theorem dX10_again_24 : decode cX10_again 24 = .ok (.iload_n 3, 1) := by decide +kernel
theorem dX10_again_25 : decode cX10_again 25 = .ok (.ifCond .eq 9, 3) := by decide +kernel
theorem dX10_again_28 : decode cX10_again 28 = .ok (.aload_n 0, 1) := by decide +kernel
theorem dX10_again_29 : decode cX10_again 29 = .ok (.iload_n 3, 1) := by decide +kernel
theorem dX10_again_30 : decode cX10_again 30 = .ok (.invokevirtual 359, 3) := by decide +kernel
theorem dX10_again_33 : decode cX10_again 33 = .ok (.ireturn, 1) := by decide +kernel
theorem dX10_again_34 : decode cX10_again 34 = .ok (.aload_n 0, 1) := by decide +kernel
theorem dX10_again_35 : decode cX10_again 35 = .ok (.invokevirtual 368, 3) := by decide +kernel
theorem dX10_again_38 : decode cX10_again 38 = .ok (.iconst 0, 1) := by decide +kernel
theorem dX10_again_39 : decode cX10_again 39 = .ok (.istore 4, 2) := by decide +kernel
theorem dX10_again_41 : decode cX10_again 41 = .ok (.iconst 0, 1) := by decide +kernel
theorem dX10_again_42 : decode cX10_again 42 = .ok (.istore 5, 2) := by decide +kernel
theorem dX10_again_44 : decode cX10_again 44 = .ok (.iload 5, 2) := by decide +kernel
theorem dX10_again_46 : decode cX10_again 46 = .ok (.iload_n 1, 1) := by decide +kernel
theorem dX10_again_47 : decode cX10_again 47 = .ok (.if_icmp .ge 31, 3) := by decide +kernel
theorem dX10_again_50 : decode cX10_again 50 = .ok (.aload_n 0, 1) := by decide +kernel
theorem dX10_again_51 : decode cX10_again 51 = .ok (.invokevirtual 353, 3) := by decide +kernel
theorem dX10_again_54 : decode cX10_again 54 = .ok (.iload 4, 2) := by decide +kernel
theorem dX10_again_56 : decode cX10_again 56 = .ok (.aload_n 0, 1) := by decide +kernel
theorem dX10_again_57 : decode cX10_again 57 = .ok (.invokevirtual 329, 3) := by decide +kernel
theorem dX10_again_60 : decode cX10_again 60 = .ok (.iconst 3, 1) := by decide +kernel
theorem dX10_again_61 : decode cX10_again 61 = .ok (.if_icmp .ne 7, 3) := by decide +kernel
theorem dX10_again_64 : decode cX10_again 64 = .ok (.iconst 1, 1) := by decide +kernel
theorem dX10_again_65 : decode cX10_again 65 = .ok (.goto 4, 3) := by decide +kernel
theorem dX10_again_68 : decode cX10_again 68 = .ok (.iconst 0, 1) := by decide +kernel
theorem dX10_again_69 : decode cX10_again 69 = .ok (.iadd, 1) := by decide +kernel
theorem dX10_again_70 : decode cX10_again 70 = .ok (.istore 4, 2) := by decide +kernel
theorem dX10_again_72 : decode cX10_again 72 = .ok (.iinc 5 1, 3) := by decide +kernel
theorem dX10_again_75 : decode cX10_again 75 = .ok (.goto (-31), 3) := by decide +kernel
theorem dX10_again_78 : decode cX10_again 78 = .ok (.iload_n 2, 1) := by decide +kernel
theorem dX10_again_79 : decode cX10_again 79 = .ok (.ifCond .ne 8, 3) := by decide +kernel
theorem dX10_again_82 : decode cX10_again 82 = .ok (.iload 4, 2) := by decide +kernel
theorem dX10_again_84 : decode cX10_again 84 = .ok (.goto 9, 3) := by decide +kernel
theorem dX10_again_87 : decode cX10_again 87 = .ok (.aload_n 0, 1) := by decide +kernel
theorem dX10_again_88 : decode cX10_again 88 = .ok (.getfield 46, 3) := by decide +kernel
theorem dX10_again_91 : decode cX10_again 91 = .ok (.iconst 0, 1) := by decide +kernel
theorem dX10_again_92 : decode cX10_again 92 = .ok (.iaload, 1) := by decide +kernel
theorem dX10_again_93 : decode cX10_again 93 = .ok (.istore 5, 2) := by decide +kernel
theorem dX10_again_95 : decode cX10_again 95 = .ok (.aload_n 0, 1) := by decide +kernel
theorem dX10_again_96 : decode cX10_again 96 = .ok (.invokevirtual 371, 3) := by decide +kernel
theorem dX10_again_99 : decode cX10_again 99 = .ok (.iload 5, 2) := by decide +kernel
theorem dX10_again_101 : decode cX10_again 101 = .ok (.ireturn, 1) := by decide +kernel
theorem dX10_divisor_0 : decode cX10_divisor 0 = .ok (.lload_n 0, 1) := by decide +kernel
theorem dX10_divisor_1 : decode cX10_divisor 1 = .ok (.lstore 4, 2) := by decide +kernel
theorem dX10_divisor_3 : decode cX10_divisor 3 = .ok (.lload_n 2, 1) := by decide +kernel
theorem dX10_divisor_4 : decode cX10_divisor 4 = .ok (.lstore 6, 2) := by decide +kernel
theorem dX10_divisor_6 : decode cX10_divisor 6 = .ok (.lload 6, 2) := by decide +kernel
theorem dX10_divisor_8 : decode cX10_divisor 8 = .ok (.lconst 0, 1) := by decide +kernel
theorem dX10_divisor_9 : decode cX10_divisor 9 = .ok (.lcmp, 1) := by decide +kernel
theorem dX10_divisor_10 : decode cX10_divisor 10 = .ok (.ifCond .eq 21, 3) := by decide +kernel
theorem dX10_divisor_13 : decode cX10_divisor 13 = .ok (.lload 4, 2) := by decide +kernel
theorem dX10_divisor_15 : decode cX10_divisor 15 = .ok (.lload 6, 2) := by decide +kernel
theorem dX10_divisor_17 : decode cX10_divisor 17 = .ok (.lrem, 1) := by decide +kernel
theorem dX10_divisor_18 : decode cX10_divisor 18 = .ok (.lstore 8, 2) := by decide +kernel
theorem dX10_divisor_20 : decode cX10_divisor 20 = .ok (.lload 6, 2) := by decide +kernel
theorem dX10_divisor_22 : decode cX10_divisor 22 = .ok (.lstore 4, 2) := by decide +kernel
theorem dX10_divisor_24 : decode cX10_divisor 24 = .ok (.lload 8, 2) := by decide +kernel
theorem dX10_divisor_26 : decode cX10_divisor 26 = .ok (.lstore 6, 2) := by decide +kernel
theorem dX10_divisor_28 : decode cX10_divisor 28 = .ok (.goto (-22), 3) := by decide +kernel
theorem dX10_divisor_31 : decode cX10_divisor 31 = .ok (.lload 4, 2) := by decide +kernel
theorem dX10_divisor_33 : decode cX10_divisor 33 = .ok (.lreturn, 1) := by decide +kernel
theorem dX10_partOf_0 : decode cX10_partOf 0 = .ok (.iload 4, 2) := by decide +kernel
theorem dX10_partOf_2 : decode cX10_partOf 2 = .ok (.ifCond .ne 7, 3) := by decide +kernel
theorem dX10_partOf_5 : decode cX10_partOf 5 = .ok (.lload_n 0, 1) := by decide +kernel
theorem dX10_partOf_6 : decode cX10_partOf 6 = .ok (.goto 4, 3) := by decide +kernel
theorem dX10_partOf_9 : decode cX10_partOf 9 = .ok (.lload_n 2, 1) := by decide +kernel
theorem dX10_partOf_10 : decode cX10_partOf 10 = .ok (.lload_n 0, 1) := by decide +kernel
theorem dX10_partOf_11 : decode cX10_partOf 11 = .ok (.lload_n 2, 1) := by decide +kernel
theorem dX10_partOf_12 : decode cX10_partOf 12 = .ok (.invokestatic 381, 3) := by decide +kernel
theorem dX10_partOf_15 : decode cX10_partOf 15 = .ok (.ldiv, 1) := by decide +kernel
theorem dX10_partOf_16 : decode cX10_partOf 16 = .ok (.lreturn, 1) := by decide +kernel
theorem dX10_likely_0 : decode cX10_likely 0 = .ok (.iload_n 1, 1) := by decide +kernel
theorem dX10_likely_1 : decode cX10_likely 1 = .ok (.iconst 2, 1) := by decide +kernel
theorem dX10_likely_2 : decode cX10_likely 2 = .ok (.bipush 20, 2) := by decide +kernel
theorem dX10_likely_4 : decode cX10_likely 4 = .ok (.invokestatic 138, 3) := by decide +kernel
theorem dX10_likely_7 : decode cX10_likely 7 = .ok (.istore_n 3, 1) := by decide +kernel
theorem dX10_likely_8 : decode cX10_likely 8 = .ok (.iload_n 3, 1) := by decide +kernel
theorem dX10_likely_9 : decode cX10_likely 9 = .ok (.ifCond .ne 15, 3) := by decide +kernel
theorem dX10_likely_12 : decode cX10_likely 12 = .ok (.iload_n 2, 1) := by decide +kernel
theorem dX10_likely_13 : decode cX10_likely 13 = .ok (.iconst 0, 1) := by decide +kernel
theorem dX10_likely_14 : decode cX10_likely 14 = .ok (.iconst 1, 1) := by decide +kernel
theorem dX10_likely_15 : decode cX10_likely 15 = .ok (.invokestatic 134, 3) := by decide +kernel
theorem dX10_likely_18 : decode cX10_likely 18 = .ok (.ifCond .ne 6, 3) := by decide +kernel
theorem dX10_likely_21 : decode cX10_likely 21 = .ok (.bipush (-2), 2) := by decide +kernel
theorem dX10_likely_23 : decode cX10_likely 23 = .ok (.istore_n 3, 1) := by decide +kernel
theorem dX10_likely_24 : decode cX10_likely 24 = .ok (.iload_n 3, 1) := by decide +kernel
theorem dX10_likely_25 : decode cX10_likely 25 = .ok (.ifCond .eq 9, 3) := by decide +kernel
theorem dX10_likely_28 : decode cX10_likely 28 = .ok (.aload_n 0, 1) := by decide +kernel
theorem dX10_likely_29 : decode cX10_likely 29 = .ok (.iload_n 3, 1) := by decide +kernel
theorem dX10_likely_30 : decode cX10_likely 30 = .ok (.invokevirtual 385, 3) := by decide +kernel
theorem dX10_likely_33 : decode cX10_likely 33 = .ok (.lreturn, 1) := by decide +kernel
theorem dX10_likely_34 : decode cX10_likely 34 = .ok (.lconst 0, 1) := by decide +kernel
theorem dX10_likely_35 : decode cX10_likely 35 = .ok (.lstore 4, 2) := by decide +kernel
theorem dX10_likely_37 : decode cX10_likely 37 = .ok (.iconst 0, 1) := by decide +kernel
theorem dX10_likely_38 : decode cX10_likely 38 = .ok (.istore 6, 2) := by decide +kernel
theorem dX10_likely_40 : decode cX10_likely 40 = .ok (.iload 6, 2) := by decide +kernel
theorem dX10_likely_42 : decode cX10_likely 42 = .ok (.bipush 8, 2) := by decide +kernel
theorem dX10_likely_44 : decode cX10_likely 44 = .ok (.if_icmp .ge 96, 3) := by decide +kernel
theorem dX10_likely_47 : decode cX10_likely 47 = .ok (.lconst 1, 1) := by decide +kernel
theorem dX10_likely_48 : decode cX10_likely 48 = .ok (.lstore 7, 2) := by decide +kernel
theorem dX10_likely_50 : decode cX10_likely 50 = .ok (.aload_n 0, 1) := by decide +kernel
theorem dX10_likely_51 : decode cX10_likely 51 = .ok (.invokevirtual 368, 3) := by decide +kernel
theorem dX10_likely_54 : decode cX10_likely 54 = .ok (.iconst 0, 1) := by decide +kernel
theorem dX10_likely_55 : decode cX10_likely 55 = .ok (.istore 9, 2) := by decide +kernel
theorem dX10_likely_57 : decode cX10_likely 57 = .ok (.iload 9, 2) := by decide +kernel
theorem dX10_likely_59 : decode cX10_likely 59 = .ok (.iconst 3, 1) := by decide +kernel
theorem dX10_likely_60 : decode cX10_likely 60 = .ok (.if_icmp .ge 47, 3) := by decide +kernel
theorem dX10_likely_63 : decode cX10_likely 63 = .ok (.aload_n 0, 1) := by decide +kernel
theorem dX10_likely_64 : decode cX10_likely 64 = .ok (.getfield 46, 3) := by decide +kernel
theorem dX10_likely_67 : decode cX10_likely 67 = .ok (.iload 9, 2) := by decide +kernel
theorem dX10_likely_69 : decode cX10_likely 69 = .ok (.iload 6, 2) := by decide +kernel
theorem dX10_likely_71 : decode cX10_likely 71 = .ok (.iload 9, 2) := by decide +kernel
theorem dX10_likely_73 : decode cX10_likely 73 = .ok (.ishr, 1) := by decide +kernel
theorem dX10_likely_74 : decode cX10_likely 74 = .ok (.iconst 1, 1) := by decide +kernel
theorem dX10_likely_75 : decode cX10_likely 75 = .ok (.iand, 1) := by decide +kernel
theorem dX10_likely_76 : decode cX10_likely 76 = .ok (.iastore, 1) := by decide +kernel
theorem dX10_likely_77 : decode cX10_likely 77 = .ok (.lload 7, 2) := by decide +kernel
theorem dX10_likely_79 : decode cX10_likely 79 = .ok (.aload_n 0, 1) := by decide +kernel
theorem dX10_likely_80 : decode cX10_likely 80 = .ok (.getfield 46, 3) := by decide +kernel
theorem dX10_likely_83 : decode cX10_likely 83 = .ok (.iload 9, 2) := by decide +kernel
theorem dX10_likely_85 : decode cX10_likely 85 = .ok (.iaload, 1) := by decide +kernel
theorem dX10_likely_86 : decode cX10_likely 86 = .ok (.iconst 1, 1) := by decide +kernel
theorem dX10_likely_87 : decode cX10_likely 87 = .ok (.if_icmp .ne 7, 3) := by decide +kernel
theorem dX10_likely_90 : decode cX10_likely 90 = .ok (.lconst 1, 1) := by decide +kernel
theorem dX10_likely_91 : decode cX10_likely 91 = .ok (.goto 7, 3) := by decide +kernel
theorem dX10_likely_94 : decode cX10_likely 94 = .ok (.iload_n 1, 1) := by decide +kernel
theorem dX10_likely_95 : decode cX10_likely 95 = .ok (.iconst 1, 1) := by decide +kernel
theorem dX10_likely_96 : decode cX10_likely 96 = .ok (.isub, 1) := by decide +kernel
theorem dX10_likely_97 : decode cX10_likely 97 = .ok (.i2l, 1) := by decide +kernel
theorem dX10_likely_98 : decode cX10_likely 98 = .ok (.lmul, 1) := by decide +kernel
theorem dX10_likely_99 : decode cX10_likely 99 = .ok (.lstore 7, 2) := by decide +kernel
theorem dX10_likely_101 : decode cX10_likely 101 = .ok (.iinc 9 1, 3) := by decide +kernel
theorem dX10_likely_104 : decode cX10_likely 104 = .ok (.goto (-47), 3) := by decide +kernel
theorem dX10_likely_107 : decode cX10_likely 107 = .ok (.aload_n 0, 1) := by decide +kernel
theorem dX10_likely_108 : decode cX10_likely 108 = .ok (.invokevirtual 353, 3) := by decide +kernel
theorem dX10_likely_111 : decode cX10_likely 111 = .ok (.lload 4, 2) := by decide +kernel
theorem dX10_likely_113 : decode cX10_likely 113 = .ok (.aload_n 0, 1) := by decide +kernel
theorem dX10_likely_114 : decode cX10_likely 114 = .ok (.invokevirtual 329, 3) := by decide +kernel
theorem dX10_likely_117 : decode cX10_likely 117 = .ok (.iconst 3, 1) := by decide +kernel
theorem dX10_likely_118 : decode cX10_likely 118 = .ok (.if_icmp .ne 7, 3) := by decide +kernel
theorem dX10_likely_121 : decode cX10_likely 121 = .ok (.lconst 0, 1) := by decide +kernel
theorem dX10_likely_122 : decode cX10_likely 122 = .ok (.goto 5, 3) := by decide +kernel
theorem dX10_likely_125 : decode cX10_likely 125 = .ok (.lload 7, 2) := by decide +kernel
theorem dX10_likely_127 : decode cX10_likely 127 = .ok (.ladd, 1) := by decide +kernel
theorem dX10_likely_128 : decode cX10_likely 128 = .ok (.lstore 4, 2) := by decide +kernel
theorem dX10_likely_130 : decode cX10_likely 130 = .ok (.aload_n 0, 1) := by decide +kernel
theorem dX10_likely_131 : decode cX10_likely 131 = .ok (.invokevirtual 371, 3) := by decide +kernel
theorem dX10_likely_134 : decode cX10_likely 134 = .ok (.iinc 6 1, 3) := by decide +kernel
theorem dX10_likely_137 : decode cX10_likely 137 = .ok (.goto (-97), 3) := by decide +kernel
theorem dX10_likely_140 : decode cX10_likely 140 = .ok (.lload 4, 2) := by decide +kernel
theorem dX10_likely_142 : decode cX10_likely 142 = .ok (.iload_n 1, 1) := by decide +kernel
theorem dX10_likely_143 : decode cX10_likely 143 = .ok (.i2l, 1) := by decide +kernel
theorem dX10_likely_144 : decode cX10_likely 144 = .ok (.iload_n 1, 1) := by decide +kernel
theorem dX10_likely_145 : decode cX10_likely 145 = .ok (.i2l, 1) := by decide +kernel
theorem dX10_likely_146 : decode cX10_likely 146 = .ok (.lmul, 1) := by decide +kernel
theorem dX10_likely_147 : decode cX10_likely 147 = .ok (.iload_n 1, 1) := by decide +kernel
theorem dX10_likely_148 : decode cX10_likely 148 = .ok (.i2l, 1) := by decide +kernel
theorem dX10_likely_149 : decode cX10_likely 149 = .ok (.lmul, 1) := by decide +kernel
theorem dX10_likely_150 : decode cX10_likely 150 = .ok (.iload_n 2, 1) := by decide +kernel
theorem dX10_likely_151 : decode cX10_likely 151 = .ok (.invokestatic 389, 3) := by decide +kernel
theorem dX10_likely_154 : decode cX10_likely 154 = .ok (.lreturn, 1) := by decide +kernel
theorem dX10_mean_0 : decode cX10_mean 0 = .ok (.iload_n 1, 1) := by decide +kernel
theorem dX10_mean_1 : decode cX10_mean 1 = .ok (.invokestatic 362, 3) := by decide +kernel
theorem dX10_mean_4 : decode cX10_mean 4 = .ok (.ifCond .ne 7, 3) := by decide +kernel
theorem dX10_mean_7 : decode cX10_mean 7 = .ok (.iconst (-1), 1) := by decide +kernel
theorem dX10_mean_8 : decode cX10_mean 8 = .ok (.goto 18, 3) := by decide +kernel
theorem dX10_mean_11 : decode cX10_mean 11 = .ok (.iload_n 2, 1) := by decide +kernel
theorem dX10_mean_12 : decode cX10_mean 12 = .ok (.iconst 0, 1) := by decide +kernel
theorem dX10_mean_13 : decode cX10_mean 13 = .ok (.iconst 1, 1) := by decide +kernel
theorem dX10_mean_14 : decode cX10_mean 14 = .ok (.invokestatic 134, 3) := by decide +kernel
theorem dX10_mean_17 : decode cX10_mean 17 = .ok (.ifCond .ne 8, 3) := by decide +kernel
theorem dX10_mean_20 : decode cX10_mean 20 = .ok (.bipush (-2), 2) := by decide +kernel
theorem dX10_mean_22 : decode cX10_mean 22 = .ok (.goto 4, 3) := by decide +kernel
theorem dX10_mean_25 : decode cX10_mean 25 = .ok (.iconst 0, 1) := by decide +kernel
theorem dX10_mean_26 : decode cX10_mean 26 = .ok (.istore_n 3, 1) := by decide +kernel
theorem dX10_mean_27 : decode cX10_mean 27 = .ok (.iload_n 3, 1) := by decide +kernel
theorem dX10_mean_28 : decode cX10_mean 28 = .ok (.ifCond .eq 9, 3) := by decide +kernel
theorem dX10_mean_31 : decode cX10_mean 31 = .ok (.aload_n 0, 1) := by decide +kernel
theorem dX10_mean_32 : decode cX10_mean 32 = .ok (.iload_n 3, 1) := by decide +kernel
theorem dX10_mean_33 : decode cX10_mean 33 = .ok (.invokevirtual 385, 3) := by decide +kernel
theorem dX10_mean_36 : decode cX10_mean 36 = .ok (.lreturn, 1) := by decide +kernel
theorem dX10_mean_37 : decode cX10_mean 37 = .ok (.iconst 0, 1) := by decide +kernel
theorem dX10_mean_38 : decode cX10_mean 38 = .ok (.istore 4, 2) := by decide +kernel
theorem dX10_mean_40 : decode cX10_mean 40 = .ok (.iconst 0, 1) := by decide +kernel
theorem dX10_mean_41 : decode cX10_mean 41 = .ok (.istore 5, 2) := by decide +kernel
theorem dX10_mean_43 : decode cX10_mean 43 = .ok (.iload 5, 2) := by decide +kernel
theorem dX10_mean_45 : decode cX10_mean 45 = .ok (.bipush 10, 2) := by decide +kernel
theorem dX10_mean_47 : decode cX10_mean 47 = .ok (.if_icmp .ge 25, 3) := by decide +kernel
theorem dX10_mean_50 : decode cX10_mean 50 = .ok (.aload_n 0, 1) := by decide +kernel
theorem dX10_mean_51 : decode cX10_mean 51 = .ok (.iload_n 1, 1) := by decide +kernel
theorem dX10_mean_52 : decode cX10_mean 52 = .ok (.iload 5, 2) := by decide +kernel
theorem dX10_mean_54 : decode cX10_mean 54 = .ok (.invokevirtual 374, 3) := by decide +kernel
theorem dX10_mean_57 : decode cX10_mean 57 = .ok (.iload 4, 2) := by decide +kernel
theorem dX10_mean_59 : decode cX10_mean 59 = .ok (.aload_n 0, 1) := by decide +kernel
theorem dX10_mean_60 : decode cX10_mean 60 = .ok (.getfield 256, 3) := by decide +kernel
theorem dX10_mean_63 : decode cX10_mean 63 = .ok (.iadd, 1) := by decide +kernel
theorem dX10_mean_64 : decode cX10_mean 64 = .ok (.istore 4, 2) := by decide +kernel
theorem dX10_mean_66 : decode cX10_mean 66 = .ok (.iinc 5 1, 3) := by decide +kernel
theorem dX10_mean_69 : decode cX10_mean 69 = .ok (.goto (-26), 3) := by decide +kernel
theorem dX10_mean_72 : decode cX10_mean 72 = .ok (.iload 4, 2) := by decide +kernel
theorem dX10_mean_74 : decode cX10_mean 74 = .ok (.i2l, 1) := by decide +kernel
theorem dX10_mean_75 : decode cX10_mean 75 = .ok (.ldc2_w 393, 3) := by decide +kernel
theorem dX10_mean_78 : decode cX10_mean 78 = .ok (.iload_n 2, 1) := by decide +kernel
theorem dX10_mean_79 : decode cX10_mean 79 = .ok (.invokestatic 389, 3) := by decide +kernel
theorem dX10_mean_82 : decode cX10_mean 82 = .ok (.lreturn, 1) := by decide +kernel
theorem dX10_endsSo_0 : decode cX10_endsSo 0 = .ok (.iconst 0, 1) := by decide +kernel
theorem dX10_endsSo_1 : decode cX10_endsSo 1 = .ok (.istore_n 3, 1) := by decide +kernel
theorem dX10_endsSo_2 : decode cX10_endsSo 2 = .ok (.iload_n 3, 1) := by decide +kernel
theorem dX10_endsSo_3 : decode cX10_endsSo 3 = .ok (.aload_n 0, 1) := by decide +kernel
theorem dX10_endsSo_4 : decode cX10_endsSo 4 = .ok (.getfield 395, 3) := by decide +kernel
theorem dX10_endsSo_7 : decode cX10_endsSo 7 = .ok (.if_icmp .ge 32, 3) := by decide +kernel
theorem dX10_endsSo_10 : decode cX10_endsSo 10 = .ok (.aload_n 0, 1) := by decide +kernel
theorem dX10_endsSo_11 : decode cX10_endsSo 11 = .ok (.iload_n 1, 1) := by decide +kernel
theorem dX10_endsSo_12 : decode cX10_endsSo 12 = .ok (.iload_n 2, 1) := by decide +kernel
theorem dX10_endsSo_13 : decode cX10_endsSo 13 = .ok (.iload_n 3, 1) := by decide +kernel
theorem dX10_endsSo_14 : decode cX10_endsSo 14 = .ok (.iadd, 1) := by decide +kernel
theorem dX10_endsSo_15 : decode cX10_endsSo 15 = .ok (.invokevirtual 374, 3) := by decide +kernel
theorem dX10_endsSo_18 : decode cX10_endsSo 18 = .ok (.aload_n 0, 1) := by decide +kernel
theorem dX10_endsSo_19 : decode cX10_endsSo 19 = .ok (.invokevirtual 329, 3) := by decide +kernel
theorem dX10_endsSo_22 : decode cX10_endsSo 22 = .ok (.aload_n 0, 1) := by decide +kernel
theorem dX10_endsSo_23 : decode cX10_endsSo 23 = .ok (.getfield 116, 3) := by decide +kernel
theorem dX10_endsSo_26 : decode cX10_endsSo 26 = .ok (.iload_n 3, 1) := by decide +kernel
theorem dX10_endsSo_27 : decode cX10_endsSo 27 = .ok (.iaload, 1) := by decide +kernel
theorem dX10_endsSo_28 : decode cX10_endsSo 28 = .ok (.if_icmp .eq 5, 3) := by decide +kernel
theorem dX10_endsSo_31 : decode cX10_endsSo 31 = .ok (.iconst 0, 1) := by decide +kernel
theorem dX10_endsSo_32 : decode cX10_endsSo 32 = .ok (.ireturn, 1) := by decide +kernel
theorem dX10_endsSo_33 : decode cX10_endsSo 33 = .ok (.iinc 3 1, 3) := by decide +kernel
theorem dX10_endsSo_36 : decode cX10_endsSo 36 = .ok (.goto (-34), 3) := by decide +kernel
theorem dX10_endsSo_39 : decode cX10_endsSo 39 = .ok (.iconst 1, 1) := by decide +kernel
theorem dX10_endsSo_40 : decode cX10_endsSo 40 = .ok (.ireturn, 1) := by decide +kernel
theorem dX10_whatIs_0 : decode cX10_whatIs 0 = .ok (.iload_n 1, 1) := by decide +kernel
theorem dX10_whatIs_1 : decode cX10_whatIs 1 = .ok (.invokestatic 362, 3) := by decide +kernel
theorem dX10_whatIs_4 : decode cX10_whatIs 4 = .ok (.ifCond .ne 9, 3) := by decide +kernel
theorem dX10_whatIs_7 : decode cX10_whatIs 7 = .ok (.aload_n 0, 1) := by decide +kernel
theorem dX10_whatIs_8 : decode cX10_whatIs 8 = .ok (.iconst (-1), 1) := by decide +kernel
theorem dX10_whatIs_9 : decode cX10_whatIs 9 = .ok (.invokevirtual 145, 3) := by decide +kernel
theorem dX10_whatIs_12 : decode cX10_whatIs 12 = .ok (.ireturn, 1) := by decide +kernel
theorem dX10_whatIs_13 : decode cX10_whatIs 13 = .ok (.iconst 0, 1) := by decide +kernel
theorem dX10_whatIs_14 : decode cX10_whatIs 14 = .ok (.istore_n 2, 1) := by decide +kernel
theorem dX10_whatIs_15 : decode cX10_whatIs 15 = .ok (.iconst 0, 1) := by decide +kernel
theorem dX10_whatIs_16 : decode cX10_whatIs 16 = .ok (.istore_n 3, 1) := by decide +kernel
theorem dX10_whatIs_17 : decode cX10_whatIs 17 = .ok (.iload_n 3, 1) := by decide +kernel
theorem dX10_whatIs_18 : decode cX10_whatIs 18 = .ok (.bipush 16, 2) := by decide +kernel
theorem dX10_whatIs_20 : decode cX10_whatIs 20 = .ok (.if_icmp .ge 28, 3) := by decide +kernel
theorem dX10_whatIs_23 : decode cX10_whatIs 23 = .ok (.iload_n 2, 1) := by decide +kernel
theorem dX10_whatIs_24 : decode cX10_whatIs 24 = .ok (.aload_n 0, 1) := by decide +kernel
theorem dX10_whatIs_25 : decode cX10_whatIs 25 = .ok (.iload_n 1, 1) := by decide +kernel
theorem dX10_whatIs_26 : decode cX10_whatIs 26 = .ok (.iload_n 3, 1) := by decide +kernel
theorem dX10_whatIs_27 : decode cX10_whatIs 27 = .ok (.invokevirtual 398, 3) := by decide +kernel
theorem dX10_whatIs_30 : decode cX10_whatIs 30 = .ok (.ifCond .eq 9, 3) := by decide +kernel
theorem dX10_whatIs_33 : decode cX10_whatIs 33 = .ok (.iconst 1, 1) := by decide +kernel
theorem dX10_whatIs_34 : decode cX10_whatIs 34 = .ok (.iload_n 3, 1) := by decide +kernel
theorem dX10_whatIs_35 : decode cX10_whatIs 35 = .ok (.ishl, 1) := by decide +kernel
theorem dX10_whatIs_36 : decode cX10_whatIs 36 = .ok (.goto 4, 3) := by decide +kernel
theorem dX10_whatIs_39 : decode cX10_whatIs 39 = .ok (.iconst 0, 1) := by decide +kernel
theorem dX10_whatIs_40 : decode cX10_whatIs 40 = .ok (.ior, 1) := by decide +kernel
theorem dX10_whatIs_41 : decode cX10_whatIs 41 = .ok (.istore_n 2, 1) := by decide +kernel
theorem dX10_whatIs_42 : decode cX10_whatIs 42 = .ok (.iinc 3 1, 3) := by decide +kernel
theorem dX10_whatIs_45 : decode cX10_whatIs 45 = .ok (.goto (-28), 3) := by decide +kernel
theorem dX10_whatIs_48 : decode cX10_whatIs 48 = .ok (.iload_n 2, 1) := by decide +kernel
theorem dX10_whatIs_49 : decode cX10_whatIs 49 = .ok (.ireturn, 1) := by decide +kernel
theorem dX10_row_0 : decode cX10_row 0 = .ok (.iload_n 1, 1) := by decide +kernel
theorem dX10_row_1 : decode cX10_row 1 = .ok (.iconst 0, 1) := by decide +kernel
theorem dX10_row_2 : decode cX10_row 2 = .ok (.bipush 99, 2) := by decide +kernel
theorem dX10_row_4 : decode cX10_row 4 = .ok (.invokestatic 138, 3) := by decide +kernel
theorem dX10_row_7 : decode cX10_row 7 = .ok (.istore_n 2, 1) := by decide +kernel
theorem dX10_row_8 : decode cX10_row 8 = .ok (.iload_n 2, 1) := by decide +kernel
theorem dX10_row_9 : decode cX10_row 9 = .ok (.ifCond .ne 15, 3) := by decide +kernel
theorem dX10_row_12 : decode cX10_row 12 = .ok (.aload_n 0, 1) := by decide +kernel
theorem dX10_row_13 : decode cX10_row 13 = .ok (.getfield 395, 3) := by decide +kernel
theorem dX10_row_16 : decode cX10_row 16 = .ok (.bipush 16, 2) := by decide +kernel
theorem dX10_row_18 : decode cX10_row 18 = .ok (.if_icmp .ne 6, 3) := by decide +kernel
theorem dX10_row_21 : decode cX10_row 21 = .ok (.bipush (-6), 2) := by decide +kernel
theorem dX10_row_23 : decode cX10_row 23 = .ok (.istore_n 2, 1) := by decide +kernel
theorem dX10_row_24 : decode cX10_row 24 = .ok (.iload_n 2, 1) := by decide +kernel
theorem dX10_row_25 : decode cX10_row 25 = .ok (.ifCond .eq 9, 3) := by decide +kernel
theorem dX10_row_28 : decode cX10_row 28 = .ok (.aload_n 0, 1) := by decide +kernel
theorem dX10_row_29 : decode cX10_row 29 = .ok (.iload_n 2, 1) := by decide +kernel
theorem dX10_row_30 : decode cX10_row 30 = .ok (.invokevirtual 145, 3) := by decide +kernel
theorem dX10_row_33 : decode cX10_row 33 = .ok (.ireturn, 1) := by decide +kernel
theorem dX10_row_34 : decode cX10_row 34 = .ok (.aload_n 0, 1) := by decide +kernel
theorem dX10_row_35 : decode cX10_row 35 = .ok (.getfield 116, 3) := by decide +kernel
theorem dX10_row_38 : decode cX10_row 38 = .ok (.aload_n 0, 1) := by decide +kernel
theorem dX10_row_39 : decode cX10_row 39 = .ok (.getfield 395, 3) := by decide +kernel
theorem dX10_row_42 : decode cX10_row 42 = .ok (.iload_n 1, 1) := by decide +kernel
theorem dX10_row_43 : decode cX10_row 43 = .ok (.iastore, 1) := by decide +kernel
theorem dX10_row_44 : decode cX10_row 44 = .ok (.aload_n 0, 1) := by decide +kernel
theorem dX10_row_45 : decode cX10_row 45 = .ok (.dup, 1) := by decide +kernel
theorem dX10_row_46 : decode cX10_row 46 = .ok (.getfield 395, 3) := by decide +kernel
theorem dX10_row_49 : decode cX10_row 49 = .ok (.iconst 1, 1) := by decide +kernel
theorem dX10_row_50 : decode cX10_row 50 = .ok (.iadd, 1) := by decide +kernel
theorem dX10_row_51 : decode cX10_row 51 = .ok (.putfield 395, 3) := by decide +kernel
theorem dX10_row_54 : decode cX10_row 54 = .ok (.aload_n 0, 1) := by decide +kernel
theorem dX10_row_55 : decode cX10_row 55 = .ok (.getfield 395, 3) := by decide +kernel
theorem dX10_row_58 : decode cX10_row 58 = .ok (.ireturn, 1) := by decide +kernel
theorem dX10_judge_0 : decode cX10_judge 0 = .ok (.aload_n 0, 1) := by decide +kernel
theorem dX10_judge_1 : decode cX10_judge 1 = .ok (.getfield 395, 3) := by decide +kernel
theorem dX10_judge_4 : decode cX10_judge 4 = .ok (.istore_n 1, 1) := by decide +kernel
theorem dX10_judge_5 : decode cX10_judge 5 = .ok (.aload_n 0, 1) := by decide +kernel
theorem dX10_judge_6 : decode cX10_judge 6 = .ok (.iconst 0, 1) := by decide +kernel
theorem dX10_judge_7 : decode cX10_judge 7 = .ok (.putfield 395, 3) := by decide +kernel
theorem dX10_judge_10 : decode cX10_judge 10 = .ok (.iconst 0, 1) := by decide +kernel
theorem dX10_judge_11 : decode cX10_judge 11 = .ok (.istore_n 2, 1) := by decide +kernel
theorem dX10_judge_12 : decode cX10_judge 12 = .ok (.iload_n 2, 1) := by decide +kernel
theorem dX10_judge_13 : decode cX10_judge 13 = .ok (.iload_n 1, 1) := by decide +kernel
theorem dX10_judge_14 : decode cX10_judge 14 = .ok (.if_icmp .ge 37, 3) := by decide +kernel
theorem dX10_judge_17 : decode cX10_judge 17 = .ok (.aload_n 0, 1) := by decide +kernel
theorem dX10_judge_18 : decode cX10_judge 18 = .ok (.iconst 0, 1) := by decide +kernel
theorem dX10_judge_19 : decode cX10_judge 19 = .ok (.iload_n 2, 1) := by decide +kernel
theorem dX10_judge_20 : decode cX10_judge 20 = .ok (.invokevirtual 374, 3) := by decide +kernel
theorem dX10_judge_23 : decode cX10_judge 23 = .ok (.aload_n 0, 1) := by decide +kernel
theorem dX10_judge_24 : decode cX10_judge 24 = .ok (.invokevirtual 329, 3) := by decide +kernel
theorem dX10_judge_27 : decode cX10_judge 27 = .ok (.ifCond .ne 16, 3) := by decide +kernel
theorem dX10_judge_30 : decode cX10_judge 30 = .ok (.aload_n 0, 1) := by decide +kernel
theorem dX10_judge_31 : decode cX10_judge 31 = .ok (.invokevirtual 332, 3) := by decide +kernel
theorem dX10_judge_34 : decode cX10_judge 34 = .ok (.aload_n 0, 1) := by decide +kernel
theorem dX10_judge_35 : decode cX10_judge 35 = .ok (.getfield 116, 3) := by decide +kernel
theorem dX10_judge_38 : decode cX10_judge 38 = .ok (.iload_n 2, 1) := by decide +kernel
theorem dX10_judge_39 : decode cX10_judge 39 = .ok (.iaload, 1) := by decide +kernel
theorem dX10_judge_40 : decode cX10_judge 40 = .ok (.if_icmp .eq 5, 3) := by decide +kernel
theorem dX10_judge_43 : decode cX10_judge 43 = .ok (.iload_n 2, 1) := by decide +kernel
theorem dX10_judge_44 : decode cX10_judge 44 = .ok (.ireturn, 1) := by decide +kernel
theorem dX10_judge_45 : decode cX10_judge 45 = .ok (.iinc 2 1, 3) := by decide +kernel
theorem dX10_judge_48 : decode cX10_judge 48 = .ok (.goto (-36), 3) := by decide +kernel
theorem dX10_judge_51 : decode cX10_judge 51 = .ok (.bipush (-9), 2) := by decide +kernel
theorem dX10_judge_53 : decode cX10_judge 53 = .ok (.ireturn, 1) := by decide +kernel
theorem dX10_clear_0 : decode cX10_clear 0 = .ok (.aload_n 0, 1) := by decide +kernel
theorem dX10_clear_1 : decode cX10_clear 1 = .ok (.getfield 395, 3) := by decide +kernel
theorem dX10_clear_4 : decode cX10_clear 4 = .ok (.istore_n 1, 1) := by decide +kernel
theorem dX10_clear_5 : decode cX10_clear 5 = .ok (.aload_n 0, 1) := by decide +kernel
theorem dX10_clear_6 : decode cX10_clear 6 = .ok (.iconst 0, 1) := by decide +kernel
theorem dX10_clear_7 : decode cX10_clear 7 = .ok (.putfield 395, 3) := by decide +kernel
theorem dX10_clear_10 : decode cX10_clear 10 = .ok (.iload_n 1, 1) := by decide +kernel
theorem dX10_clear_11 : decode cX10_clear 11 = .ok (.ireturn, 1) := by decide +kernel
theorem dX10_draw_0 : decode cX10_draw 0 = .ok (.aload_n 0, 1) := by decide +kernel
theorem dX10_draw_1 : decode cX10_draw 1 = .ok (.aload_n 0, 1) := by decide +kernel
theorem dX10_draw_2 : decode cX10_draw 2 = .ok (.getfield 401, 3) := by decide +kernel
theorem dX10_draw_5 : decode cX10_draw 5 = .ok (.ldc_w 404, 3) := by decide +kernel
theorem dX10_draw_8 : decode cX10_draw 8 = .ok (.imul, 1) := by decide +kernel
theorem dX10_draw_9 : decode cX10_draw 9 = .ok (.ldc_w 405, 3) := by decide +kernel
theorem dX10_draw_12 : decode cX10_draw 12 = .ok (.iadd, 1) := by decide +kernel
theorem dX10_draw_13 : decode cX10_draw 13 = .ok (.putfield 401, 3) := by decide +kernel
theorem dX10_draw_16 : decode cX10_draw 16 = .ok (.aload_n 0, 1) := by decide +kernel
theorem dX10_draw_17 : decode cX10_draw 17 = .ok (.getfield 401, 3) := by decide +kernel
theorem dX10_draw_20 : decode cX10_draw 20 = .ok (.ldc_w 406, 3) := by decide +kernel
theorem dX10_draw_23 : decode cX10_draw 23 = .ok (.iand, 1) := by decide +kernel
theorem dX10_draw_24 : decode cX10_draw 24 = .ok (.sipush 256, 3) := by decide +kernel
theorem dX10_draw_27 : decode cX10_draw 27 = .ok (.idiv, 1) := by decide +kernel
theorem dX10_draw_28 : decode cX10_draw 28 = .ok (.iload_n 1, 1) := by decide +kernel
theorem dX10_draw_29 : decode cX10_draw 29 = .ok (.irem, 1) := by decide +kernel
theorem dX10_draw_30 : decode cX10_draw 30 = .ok (.ireturn, 1) := by decide +kernel
theorem dX10_lots_0 : decode cX10_lots 0 = .ok (.iload_n 1, 1) := by decide +kernel
theorem dX10_lots_1 : decode cX10_lots 1 = .ok (.iconst 1, 1) := by decide +kernel
theorem dX10_lots_2 : decode cX10_lots 2 = .ok (.bipush 20, 2) := by decide +kernel
theorem dX10_lots_4 : decode cX10_lots 4 = .ok (.invokestatic 138, 3) := by decide +kernel
theorem dX10_lots_7 : decode cX10_lots 7 = .ok (.istore 4, 2) := by decide +kernel
theorem dX10_lots_9 : decode cX10_lots 9 = .ok (.iload 4, 2) := by decide +kernel
theorem dX10_lots_11 : decode cX10_lots 11 = .ok (.ifCond .ne 16, 3) := by decide +kernel
theorem dX10_lots_14 : decode cX10_lots 14 = .ok (.iload_n 3, 1) := by decide +kernel
theorem dX10_lots_15 : decode cX10_lots 15 = .ok (.iconst 0, 1) := by decide +kernel
theorem dX10_lots_16 : decode cX10_lots 16 = .ok (.iconst 1, 1) := by decide +kernel
theorem dX10_lots_17 : decode cX10_lots 17 = .ok (.invokestatic 134, 3) := by decide +kernel
theorem dX10_lots_20 : decode cX10_lots 20 = .ok (.ifCond .ne 7, 3) := by decide +kernel
theorem dX10_lots_23 : decode cX10_lots 23 = .ok (.bipush (-2), 2) := by decide +kernel
theorem dX10_lots_25 : decode cX10_lots 25 = .ok (.istore 4, 2) := by decide +kernel
theorem dX10_lots_27 : decode cX10_lots 27 = .ok (.iload 4, 2) := by decide +kernel
theorem dX10_lots_29 : decode cX10_lots 29 = .ok (.ifCond .eq 10, 3) := by decide +kernel
theorem dX10_lots_32 : decode cX10_lots 32 = .ok (.aload_n 0, 1) := by decide +kernel
theorem dX10_lots_33 : decode cX10_lots 33 = .ok (.iload 4, 2) := by decide +kernel
theorem dX10_lots_35 : decode cX10_lots 35 = .ok (.invokevirtual 359, 3) := by decide +kernel
theorem dX10_lots_38 : decode cX10_lots 38 = .ok (.ireturn, 1) := by decide +kernel
theorem dX10_lots_39 : decode cX10_lots 39 = .ok (.aload_n 0, 1) := by decide +kernel
theorem dX10_lots_40 : decode cX10_lots 40 = .ok (.iload_n 2, 1) := by decide +kernel
theorem dX10_lots_41 : decode cX10_lots 41 = .ok (.putfield 401, 3) := by decide +kernel
theorem dX10_lots_44 : decode cX10_lots 44 = .ok (.iconst 0, 1) := by decide +kernel
theorem dX10_lots_45 : decode cX10_lots 45 = .ok (.istore 5, 2) := by decide +kernel
theorem dX10_lots_47 : decode cX10_lots 47 = .ok (.iconst 0, 1) := by decide +kernel
theorem dX10_lots_48 : decode cX10_lots 48 = .ok (.istore 6, 2) := by decide +kernel
theorem dX10_lots_50 : decode cX10_lots 50 = .ok (.iload 6, 2) := by decide +kernel
theorem dX10_lots_52 : decode cX10_lots 52 = .ok (.iload_n 1, 1) := by decide +kernel
theorem dX10_lots_53 : decode cX10_lots 53 = .ok (.if_icmp .ge 96, 3) := by decide +kernel
theorem dX10_lots_56 : decode cX10_lots 56 = .ok (.aload_n 0, 1) := by decide +kernel
theorem dX10_lots_57 : decode cX10_lots 57 = .ok (.invokevirtual 368, 3) := by decide +kernel
theorem dX10_lots_60 : decode cX10_lots 60 = .ok (.iconst 0, 1) := by decide +kernel
theorem dX10_lots_61 : decode cX10_lots 61 = .ok (.istore 7, 2) := by decide +kernel
theorem dX10_lots_63 : decode cX10_lots 63 = .ok (.iload 7, 2) := by decide +kernel
theorem dX10_lots_65 : decode cX10_lots 65 = .ok (.bipush 6, 2) := by decide +kernel
theorem dX10_lots_67 : decode cX10_lots 67 = .ok (.if_icmp .ge 22, 3) := by decide +kernel
theorem dX10_lots_70 : decode cX10_lots 70 = .ok (.aload_n 0, 1) := by decide +kernel
theorem dX10_lots_71 : decode cX10_lots 71 = .ok (.getfield 46, 3) := by decide +kernel
theorem dX10_lots_74 : decode cX10_lots 74 = .ok (.iload 7, 2) := by decide +kernel
theorem dX10_lots_76 : decode cX10_lots 76 = .ok (.aload_n 0, 1) := by decide +kernel
theorem dX10_lots_77 : decode cX10_lots 77 = .ok (.bipush 10, 2) := by decide +kernel
theorem dX10_lots_79 : decode cX10_lots 79 = .ok (.invokevirtual 407, 3) := by decide +kernel
theorem dX10_lots_82 : decode cX10_lots 82 = .ok (.iastore, 1) := by decide +kernel
theorem dX10_lots_83 : decode cX10_lots 83 = .ok (.iinc 7 1, 3) := by decide +kernel
theorem dX10_lots_86 : decode cX10_lots 86 = .ok (.goto (-23), 3) := by decide +kernel
theorem dX10_lots_89 : decode cX10_lots 89 = .ok (.aload_n 0, 1) := by decide +kernel
theorem dX10_lots_90 : decode cX10_lots 90 = .ok (.invokevirtual 353, 3) := by decide +kernel
theorem dX10_lots_93 : decode cX10_lots 93 = .ok (.iload_n 3, 1) := by decide +kernel
theorem dX10_lots_94 : decode cX10_lots 94 = .ok (.iconst 1, 1) := by decide +kernel
theorem dX10_lots_95 : decode cX10_lots 95 = .ok (.if_icmp .ne 24, 3) := by decide +kernel
theorem dX10_lots_98 : decode cX10_lots 98 = .ok (.iload 5, 2) := by decide +kernel
theorem dX10_lots_100 : decode cX10_lots 100 = .ok (.aload_n 0, 1) := by decide +kernel
theorem dX10_lots_101 : decode cX10_lots 101 = .ok (.invokevirtual 329, 3) := by decide +kernel
theorem dX10_lots_104 : decode cX10_lots 104 = .ok (.iconst 3, 1) := by decide +kernel
theorem dX10_lots_105 : decode cX10_lots 105 = .ok (.if_icmp .ne 7, 3) := by decide +kernel
theorem dX10_lots_108 : decode cX10_lots 108 = .ok (.iconst 1, 1) := by decide +kernel
theorem dX10_lots_109 : decode cX10_lots 109 = .ok (.goto 4, 3) := by decide +kernel
theorem dX10_lots_112 : decode cX10_lots 112 = .ok (.iconst 0, 1) := by decide +kernel
theorem dX10_lots_113 : decode cX10_lots 113 = .ok (.iadd, 1) := by decide +kernel
theorem dX10_lots_114 : decode cX10_lots 114 = .ok (.istore 5, 2) := by decide +kernel
theorem dX10_lots_116 : decode cX10_lots 116 = .ok (.goto 23, 3) := by decide +kernel
theorem dX10_lots_119 : decode cX10_lots 119 = .ok (.iload 5, 2) := by decide +kernel
theorem dX10_lots_121 : decode cX10_lots 121 = .ok (.aload_n 0, 1) := by decide +kernel
theorem dX10_lots_122 : decode cX10_lots 122 = .ok (.invokevirtual 329, 3) := by decide +kernel
theorem dX10_lots_125 : decode cX10_lots 125 = .ok (.ifCond .ne 10, 3) := by decide +kernel
theorem dX10_lots_128 : decode cX10_lots 128 = .ok (.aload_n 0, 1) := by decide +kernel
theorem dX10_lots_129 : decode cX10_lots 129 = .ok (.invokevirtual 332, 3) := by decide +kernel
theorem dX10_lots_132 : decode cX10_lots 132 = .ok (.goto 4, 3) := by decide +kernel
theorem dX10_lots_135 : decode cX10_lots 135 = .ok (.iconst 0, 1) := by decide +kernel
theorem dX10_lots_136 : decode cX10_lots 136 = .ok (.iadd, 1) := by decide +kernel
theorem dX10_lots_137 : decode cX10_lots 137 = .ok (.istore 5, 2) := by decide +kernel
theorem dX10_lots_139 : decode cX10_lots 139 = .ok (.aload_n 0, 1) := by decide +kernel
theorem dX10_lots_140 : decode cX10_lots 140 = .ok (.invokevirtual 371, 3) := by decide +kernel
theorem dX10_lots_143 : decode cX10_lots 143 = .ok (.iinc 6 1, 3) := by decide +kernel
theorem dX10_lots_146 : decode cX10_lots 146 = .ok (.goto (-96), 3) := by decide +kernel
theorem dX10_lots_149 : decode cX10_lots 149 = .ok (.iload 5, 2) := by decide +kernel
theorem dX10_lots_151 : decode cX10_lots 151 = .ok (.ireturn, 1) := by decide +kernel
theorem dX10_passes_0 : decode cX10_passes 0 = .ok (.iconst 0, 1) := by decide +kernel
theorem dX10_passes_1 : decode cX10_passes 1 = .ok (.istore_n 2, 1) := by decide +kernel
theorem dX10_passes_2 : decode cX10_passes 2 = .ok (.iload_n 2, 1) := by decide +kernel
theorem dX10_passes_3 : decode cX10_passes 3 = .ok (.aload_n 1, 1) := by decide +kernel
theorem dX10_passes_4 : decode cX10_passes 4 = .ok (.arraylength, 1) := by decide +kernel
theorem dX10_passes_5 : decode cX10_passes 5 = .ok (.if_icmp .ge 53, 3) := by decide +kernel
theorem dX10_passes_8 : decode cX10_passes 8 = .ok (.aload_n 0, 1) := by decide +kernel
theorem dX10_passes_9 : decode cX10_passes 9 = .ok (.getfield 410, 3) := by decide +kernel
theorem dX10_passes_12 : decode cX10_passes 12 = .ok (.ifCond .eq 18, 3) := by decide +kernel
theorem dX10_passes_15 : decode cX10_passes 15 = .ok (.aload_n 0, 1) := by decide +kernel
theorem dX10_passes_16 : decode cX10_passes 16 = .ok (.getfield 119, 3) := by decide +kernel
theorem dX10_passes_19 : decode cX10_passes 19 = .ok (.aload_n 0, 1) := by decide +kernel
theorem dX10_passes_20 : decode cX10_passes 20 = .ok (.getfield 414, 3) := by decide +kernel
theorem dX10_passes_23 : decode cX10_passes 23 = .ok (.aload_n 1, 1) := by decide +kernel
theorem dX10_passes_24 : decode cX10_passes 24 = .ok (.iload_n 2, 1) := by decide +kernel
theorem dX10_passes_25 : decode cX10_passes 25 = .ok (.iaload, 1) := by decide +kernel
theorem dX10_passes_26 : decode cX10_passes 26 = .ok (.iastore, 1) := by decide +kernel
theorem dX10_passes_27 : decode cX10_passes 27 = .ok (.goto 15, 3) := by decide +kernel
theorem dX10_passes_30 : decode cX10_passes 30 = .ok (.aload_n 1, 1) := by decide +kernel
theorem dX10_passes_31 : decode cX10_passes 31 = .ok (.iload_n 2, 1) := by decide +kernel
theorem dX10_passes_32 : decode cX10_passes 32 = .ok (.aload_n 0, 1) := by decide +kernel
theorem dX10_passes_33 : decode cX10_passes 33 = .ok (.getfield 119, 3) := by decide +kernel
theorem dX10_passes_36 : decode cX10_passes 36 = .ok (.aload_n 0, 1) := by decide +kernel
theorem dX10_passes_37 : decode cX10_passes 37 = .ok (.getfield 414, 3) := by decide +kernel
theorem dX10_passes_40 : decode cX10_passes 40 = .ok (.iaload, 1) := by decide +kernel
theorem dX10_passes_41 : decode cX10_passes 41 = .ok (.iastore, 1) := by decide +kernel
theorem dX10_passes_42 : decode cX10_passes 42 = .ok (.aload_n 0, 1) := by decide +kernel
theorem dX10_passes_43 : decode cX10_passes 43 = .ok (.dup, 1) := by decide +kernel
theorem dX10_passes_44 : decode cX10_passes 44 = .ok (.getfield 414, 3) := by decide +kernel
theorem dX10_passes_47 : decode cX10_passes 47 = .ok (.iconst 1, 1) := by decide +kernel
theorem dX10_passes_48 : decode cX10_passes 48 = .ok (.iadd, 1) := by decide +kernel
theorem dX10_passes_49 : decode cX10_passes 49 = .ok (.putfield 414, 3) := by decide +kernel
theorem dX10_passes_52 : decode cX10_passes 52 = .ok (.iinc 2 1, 3) := by decide +kernel
theorem dX10_passes_55 : decode cX10_passes 55 = .ok (.goto (-53), 3) := by decide +kernel
theorem dX10_passes_58 : decode cX10_passes 58 = .ok (.return_, 1) := by decide +kernel
theorem dX10_passOne_0 : decode cX10_passOne 0 = .ok (.aload_n 0, 1) := by decide +kernel
theorem dX10_passOne_1 : decode cX10_passOne 1 = .ok (.getfield 410, 3) := by decide +kernel
theorem dX10_passOne_4 : decode cX10_passOne 4 = .ok (.ifCond .eq 7, 3) := by decide +kernel
theorem dX10_passOne_7 : decode cX10_passOne 7 = .ok (.iload_n 1, 1) := by decide +kernel
theorem dX10_passOne_8 : decode cX10_passOne 8 = .ok (.goto 12, 3) := by decide +kernel
theorem dX10_passOne_11 : decode cX10_passOne 11 = .ok (.aload_n 0, 1) := by decide +kernel
theorem dX10_passOne_12 : decode cX10_passOne 12 = .ok (.getfield 119, 3) := by decide +kernel
theorem dX10_passOne_15 : decode cX10_passOne 15 = .ok (.aload_n 0, 1) := by decide +kernel
theorem dX10_passOne_16 : decode cX10_passOne 16 = .ok (.getfield 414, 3) := by decide +kernel
theorem dX10_passOne_19 : decode cX10_passOne 19 = .ok (.iaload, 1) := by decide +kernel
theorem dX10_passOne_20 : decode cX10_passOne 20 = .ok (.istore_n 2, 1) := by decide +kernel
theorem dX10_passOne_21 : decode cX10_passOne 21 = .ok (.aload_n 0, 1) := by decide +kernel
theorem dX10_passOne_22 : decode cX10_passOne 22 = .ok (.getfield 410, 3) := by decide +kernel
theorem dX10_passOne_25 : decode cX10_passOne 25 = .ok (.ifCond .eq 13, 3) := by decide +kernel
theorem dX10_passOne_28 : decode cX10_passOne 28 = .ok (.aload_n 0, 1) := by decide +kernel
theorem dX10_passOne_29 : decode cX10_passOne 29 = .ok (.getfield 119, 3) := by decide +kernel
theorem dX10_passOne_32 : decode cX10_passOne 32 = .ok (.aload_n 0, 1) := by decide +kernel
theorem dX10_passOne_33 : decode cX10_passOne 33 = .ok (.getfield 414, 3) := by decide +kernel
theorem dX10_passOne_36 : decode cX10_passOne 36 = .ok (.iload_n 1, 1) := by decide +kernel
theorem dX10_passOne_37 : decode cX10_passOne 37 = .ok (.iastore, 1) := by decide +kernel
theorem dX10_passOne_38 : decode cX10_passOne 38 = .ok (.aload_n 0, 1) := by decide +kernel
theorem dX10_passOne_39 : decode cX10_passOne 39 = .ok (.dup, 1) := by decide +kernel
theorem dX10_passOne_40 : decode cX10_passOne 40 = .ok (.getfield 414, 3) := by decide +kernel
theorem dX10_passOne_43 : decode cX10_passOne 43 = .ok (.iconst 1, 1) := by decide +kernel
theorem dX10_passOne_44 : decode cX10_passOne 44 = .ok (.iadd, 1) := by decide +kernel
theorem dX10_passOne_45 : decode cX10_passOne 45 = .ok (.putfield 414, 3) := by decide +kernel
theorem dX10_passOne_48 : decode cX10_passOne 48 = .ok (.iload_n 2, 1) := by decide +kernel
theorem dX10_passOne_49 : decode cX10_passOne 49 = .ok (.ireturn, 1) := by decide +kernel
theorem dX10_passesAll_0 : decode cX10_passesAll 0 = .ok (.aload_n 0, 1) := by decide +kernel
theorem dX10_passesAll_1 : decode cX10_passesAll 1 = .ok (.iconst 0, 1) := by decide +kernel
theorem dX10_passesAll_2 : decode cX10_passesAll 2 = .ok (.putfield 414, 3) := by decide +kernel
theorem dX10_passesAll_5 : decode cX10_passesAll 5 = .ok (.aload_n 0, 1) := by decide +kernel
theorem dX10_passesAll_6 : decode cX10_passesAll 6 = .ok (.iload_n 1, 1) := by decide +kernel
theorem dX10_passesAll_7 : decode cX10_passesAll 7 = .ok (.putfield 410, 3) := by decide +kernel
theorem dX10_passesAll_10 : decode cX10_passesAll 10 = .ok (.aload_n 0, 1) := by decide +kernel
theorem dX10_passesAll_11 : decode cX10_passesAll 11 = .ok (.aload_n 0, 1) := by decide +kernel
theorem dX10_passesAll_12 : decode cX10_passesAll 12 = .ok (.getfield 31, 3) := by decide +kernel
theorem dX10_passesAll_15 : decode cX10_passesAll 15 = .ok (.invokevirtual 417, 3) := by decide +kernel
theorem dX10_passesAll_18 : decode cX10_passesAll 18 = .ok (.aload_n 0, 1) := by decide +kernel
theorem dX10_passesAll_19 : decode cX10_passesAll 19 = .ok (.aload_n 0, 1) := by decide +kernel
theorem dX10_passesAll_20 : decode cX10_passesAll 20 = .ok (.getfield 34, 3) := by decide +kernel
theorem dX10_passesAll_23 : decode cX10_passesAll 23 = .ok (.invokevirtual 417, 3) := by decide +kernel
theorem dX10_passesAll_26 : decode cX10_passesAll 26 = .ok (.aload_n 0, 1) := by decide +kernel
theorem dX10_passesAll_27 : decode cX10_passesAll 27 = .ok (.aload_n 0, 1) := by decide +kernel
theorem dX10_passesAll_28 : decode cX10_passesAll 28 = .ok (.getfield 46, 3) := by decide +kernel
theorem dX10_passesAll_31 : decode cX10_passesAll 31 = .ok (.invokevirtual 417, 3) := by decide +kernel
theorem dX10_passesAll_34 : decode cX10_passesAll 34 = .ok (.aload_n 0, 1) := by decide +kernel
theorem dX10_passesAll_35 : decode cX10_passesAll 35 = .ok (.aload_n 0, 1) := by decide +kernel
theorem dX10_passesAll_36 : decode cX10_passesAll 36 = .ok (.getfield 49, 3) := by decide +kernel
theorem dX10_passesAll_39 : decode cX10_passesAll 39 = .ok (.invokevirtual 417, 3) := by decide +kernel
theorem dX10_passesAll_42 : decode cX10_passesAll 42 = .ok (.aload_n 0, 1) := by decide +kernel
theorem dX10_passesAll_43 : decode cX10_passesAll 43 = .ok (.aload_n 0, 1) := by decide +kernel
theorem dX10_passesAll_44 : decode cX10_passesAll 44 = .ok (.getfield 52, 3) := by decide +kernel
theorem dX10_passesAll_47 : decode cX10_passesAll 47 = .ok (.invokevirtual 417, 3) := by decide +kernel
theorem dX10_passesAll_50 : decode cX10_passesAll 50 = .ok (.aload_n 0, 1) := by decide +kernel
theorem dX10_passesAll_51 : decode cX10_passesAll 51 = .ok (.aload_n 0, 1) := by decide +kernel
theorem dX10_passesAll_52 : decode cX10_passesAll 52 = .ok (.getfield 55, 3) := by decide +kernel
theorem dX10_passesAll_55 : decode cX10_passesAll 55 = .ok (.invokevirtual 417, 3) := by decide +kernel
theorem dX10_passesAll_58 : decode cX10_passesAll 58 = .ok (.aload_n 0, 1) := by decide +kernel
theorem dX10_passesAll_59 : decode cX10_passesAll 59 = .ok (.aload_n 0, 1) := by decide +kernel
theorem dX10_passesAll_60 : decode cX10_passesAll 60 = .ok (.getfield 58, 3) := by decide +kernel
theorem dX10_passesAll_63 : decode cX10_passesAll 63 = .ok (.invokevirtual 417, 3) := by decide +kernel
theorem dX10_passesAll_66 : decode cX10_passesAll 66 = .ok (.aload_n 0, 1) := by decide +kernel
theorem dX10_passesAll_67 : decode cX10_passesAll 67 = .ok (.aload_n 0, 1) := by decide +kernel
theorem dX10_passesAll_68 : decode cX10_passesAll 68 = .ok (.aload_n 0, 1) := by decide +kernel
theorem dX10_passesAll_69 : decode cX10_passesAll 69 = .ok (.getfield 122, 3) := by decide +kernel
theorem dX10_passesAll_72 : decode cX10_passesAll 72 = .ok (.invokevirtual 421, 3) := by decide +kernel
theorem dX10_passesAll_75 : decode cX10_passesAll 75 = .ok (.putfield 122, 3) := by decide +kernel
theorem dX10_passesAll_78 : decode cX10_passesAll 78 = .ok (.aload_n 0, 1) := by decide +kernel
theorem dX10_passesAll_79 : decode cX10_passesAll 79 = .ok (.aload_n 0, 1) := by decide +kernel
theorem dX10_passesAll_80 : decode cX10_passesAll 80 = .ok (.aload_n 0, 1) := by decide +kernel
theorem dX10_passesAll_81 : decode cX10_passesAll 81 = .ok (.getfield 125, 3) := by decide +kernel
theorem dX10_passesAll_84 : decode cX10_passesAll 84 = .ok (.invokevirtual 421, 3) := by decide +kernel
theorem dX10_passesAll_87 : decode cX10_passesAll 87 = .ok (.putfield 125, 3) := by decide +kernel
theorem dX10_passesAll_90 : decode cX10_passesAll 90 = .ok (.aload_n 0, 1) := by decide +kernel
theorem dX10_passesAll_91 : decode cX10_passesAll 91 = .ok (.aload_n 0, 1) := by decide +kernel
theorem dX10_passesAll_92 : decode cX10_passesAll 92 = .ok (.aload_n 0, 1) := by decide +kernel
theorem dX10_passesAll_93 : decode cX10_passesAll 93 = .ok (.getfield 192, 3) := by decide +kernel
theorem dX10_passesAll_96 : decode cX10_passesAll 96 = .ok (.invokevirtual 421, 3) := by decide +kernel
theorem dX10_passesAll_99 : decode cX10_passesAll 99 = .ok (.putfield 192, 3) := by decide +kernel
theorem dX10_passesAll_102 : decode cX10_passesAll 102 = .ok (.aload_n 0, 1) := by decide +kernel
theorem dX10_passesAll_103 : decode cX10_passesAll 103 = .ok (.aload_n 0, 1) := by decide +kernel
theorem dX10_passesAll_104 : decode cX10_passesAll 104 = .ok (.aload_n 0, 1) := by decide +kernel
theorem dX10_passesAll_105 : decode cX10_passesAll 105 = .ok (.getfield 61, 3) := by decide +kernel
theorem dX10_passesAll_108 : decode cX10_passesAll 108 = .ok (.invokevirtual 421, 3) := by decide +kernel
theorem dX10_passesAll_111 : decode cX10_passesAll 111 = .ok (.putfield 61, 3) := by decide +kernel
theorem dX10_passesAll_114 : decode cX10_passesAll 114 = .ok (.aload_n 0, 1) := by decide +kernel
theorem dX10_passesAll_115 : decode cX10_passesAll 115 = .ok (.aload_n 0, 1) := by decide +kernel
theorem dX10_passesAll_116 : decode cX10_passesAll 116 = .ok (.aload_n 0, 1) := by decide +kernel
theorem dX10_passesAll_117 : decode cX10_passesAll 117 = .ok (.getfield 338, 3) := by decide +kernel
theorem dX10_passesAll_120 : decode cX10_passesAll 120 = .ok (.invokevirtual 421, 3) := by decide +kernel
theorem dX10_passesAll_123 : decode cX10_passesAll 123 = .ok (.putfield 338, 3) := by decide +kernel
theorem dX10_passesAll_126 : decode cX10_passesAll 126 = .ok (.aload_n 0, 1) := by decide +kernel
theorem dX10_passesAll_127 : decode cX10_passesAll 127 = .ok (.aload_n 0, 1) := by decide +kernel
theorem dX10_passesAll_128 : decode cX10_passesAll 128 = .ok (.aload_n 0, 1) := by decide +kernel
theorem dX10_passesAll_129 : decode cX10_passesAll 129 = .ok (.getfield 341, 3) := by decide +kernel
theorem dX10_passesAll_132 : decode cX10_passesAll 132 = .ok (.invokevirtual 421, 3) := by decide +kernel
theorem dX10_passesAll_135 : decode cX10_passesAll 135 = .ok (.putfield 341, 3) := by decide +kernel
theorem dX10_passesAll_138 : decode cX10_passesAll 138 = .ok (.aload_n 0, 1) := by decide +kernel
theorem dX10_passesAll_139 : decode cX10_passesAll 139 = .ok (.aload_n 0, 1) := by decide +kernel
theorem dX10_passesAll_140 : decode cX10_passesAll 140 = .ok (.aload_n 0, 1) := by decide +kernel
theorem dX10_passesAll_141 : decode cX10_passesAll 141 = .ok (.getfield 344, 3) := by decide +kernel
theorem dX10_passesAll_144 : decode cX10_passesAll 144 = .ok (.invokevirtual 421, 3) := by decide +kernel
theorem dX10_passesAll_147 : decode cX10_passesAll 147 = .ok (.putfield 344, 3) := by decide +kernel
theorem dX10_passesAll_150 : decode cX10_passesAll 150 = .ok (.aload_n 0, 1) := by decide +kernel
theorem dX10_passesAll_151 : decode cX10_passesAll 151 = .ok (.aload_n 0, 1) := by decide +kernel
theorem dX10_passesAll_152 : decode cX10_passesAll 152 = .ok (.aload_n 0, 1) := by decide +kernel
theorem dX10_passesAll_153 : decode cX10_passesAll 153 = .ok (.getfield 347, 3) := by decide +kernel
theorem dX10_passesAll_156 : decode cX10_passesAll 156 = .ok (.invokevirtual 421, 3) := by decide +kernel
theorem dX10_passesAll_159 : decode cX10_passesAll 159 = .ok (.putfield 347, 3) := by decide +kernel
theorem dX10_passesAll_162 : decode cX10_passesAll 162 = .ok (.aload_n 0, 1) := by decide +kernel
theorem dX10_passesAll_163 : decode cX10_passesAll 163 = .ok (.aload_n 0, 1) := by decide +kernel
theorem dX10_passesAll_164 : decode cX10_passesAll 164 = .ok (.aload_n 0, 1) := by decide +kernel
theorem dX10_passesAll_165 : decode cX10_passesAll 165 = .ok (.getfield 350, 3) := by decide +kernel
theorem dX10_passesAll_168 : decode cX10_passesAll 168 = .ok (.invokevirtual 421, 3) := by decide +kernel
theorem dX10_passesAll_171 : decode cX10_passesAll 171 = .ok (.putfield 350, 3) := by decide +kernel
theorem dX10_passesAll_174 : decode cX10_passesAll 174 = .ok (.aload_n 0, 1) := by decide +kernel
theorem dX10_passesAll_175 : decode cX10_passesAll 175 = .ok (.aload_n 0, 1) := by decide +kernel
theorem dX10_passesAll_176 : decode cX10_passesAll 176 = .ok (.aload_n 0, 1) := by decide +kernel
theorem dX10_passesAll_177 : decode cX10_passesAll 177 = .ok (.getfield 206, 3) := by decide +kernel
theorem dX10_passesAll_180 : decode cX10_passesAll 180 = .ok (.invokevirtual 421, 3) := by decide +kernel
theorem dX10_passesAll_183 : decode cX10_passesAll 183 = .ok (.putfield 206, 3) := by decide +kernel
theorem dX10_passesAll_186 : decode cX10_passesAll 186 = .ok (.return_, 1) := by decide +kernel
theorem dX10_image_0 : decode cX10_image 0 = .ok (.aload_n 0, 1) := by decide +kernel
theorem dX10_image_1 : decode cX10_image 1 = .ok (.iconst 1, 1) := by decide +kernel
theorem dX10_image_2 : decode cX10_image 2 = .ok (.putfield 424, 3) := by decide +kernel
theorem dX10_image_5 : decode cX10_image 5 = .ok (.aload_n 0, 1) := by decide +kernel
theorem dX10_image_6 : decode cX10_image 6 = .ok (.iconst 1, 1) := by decide +kernel
theorem dX10_image_7 : decode cX10_image 7 = .ok (.invokevirtual 427, 3) := by decide +kernel
theorem dX10_image_10 : decode cX10_image 10 = .ok (.aload_n 0, 1) := by decide +kernel
theorem dX10_image_11 : decode cX10_image 11 = .ok (.getfield 125, 3) := by decide +kernel
theorem dX10_image_14 : decode cX10_image 14 = .ok (.ireturn, 1) := by decide +kernel
theorem dX10_on_0 : decode cX10_on 0 = .ok (.aload_n 0, 1) := by decide +kernel
theorem dX10_on_1 : decode cX10_on 1 = .ok (.getfield 424, 3) := by decide +kernel
theorem dX10_on_4 : decode cX10_on 4 = .ok (.ifCond .ne 10, 3) := by decide +kernel
theorem dX10_on_7 : decode cX10_on 7 = .ok (.aload_n 0, 1) := by decide +kernel
theorem dX10_on_8 : decode cX10_on 8 = .ok (.bipush (-3), 2) := by decide +kernel
theorem dX10_on_10 : decode cX10_on 10 = .ok (.invokevirtual 145, 3) := by decide +kernel
theorem dX10_on_13 : decode cX10_on 13 = .ok (.ireturn, 1) := by decide +kernel
theorem dX10_on_14 : decode cX10_on 14 = .ok (.aload_n 0, 1) := by decide +kernel
theorem dX10_on_15 : decode cX10_on 15 = .ok (.iconst 0, 1) := by decide +kernel
theorem dX10_on_16 : decode cX10_on 16 = .ok (.invokevirtual 427, 3) := by decide +kernel
theorem dX10_on_19 : decode cX10_on 19 = .ok (.aload_n 0, 1) := by decide +kernel
theorem dX10_on_20 : decode cX10_on 20 = .ok (.invokevirtual 128, 3) := by decide +kernel
theorem dX10_on_23 : decode cX10_on 23 = .ok (.aload_n 0, 1) := by decide +kernel
theorem dX10_on_24 : decode cX10_on 24 = .ok (.getfield 125, 3) := by decide +kernel
theorem dX10_on_27 : decode cX10_on 27 = .ok (.ireturn, 1) := by decide +kernel
theorem dX10_allOf_0 : decode cX10_allOf 0 = .ok (.iconst 0, 1) := by decide +kernel
theorem dX10_allOf_1 : decode cX10_allOf 1 = .ok (.istore_n 1, 1) := by decide +kernel
theorem dX10_allOf_2 : decode cX10_allOf 2 = .ok (.aload_n 0, 1) := by decide +kernel
theorem dX10_allOf_3 : decode cX10_allOf 3 = .ok (.astore_n 2, 1) := by decide +kernel
theorem dX10_allOf_4 : decode cX10_allOf 4 = .ok (.aload_n 2, 1) := by decide +kernel
theorem dX10_allOf_5 : decode cX10_allOf 5 = .ok (.arraylength, 1) := by decide +kernel
theorem dX10_allOf_6 : decode cX10_allOf 6 = .ok (.istore_n 3, 1) := by decide +kernel
theorem dX10_allOf_7 : decode cX10_allOf 7 = .ok (.iconst 0, 1) := by decide +kernel
theorem dX10_allOf_8 : decode cX10_allOf 8 = .ok (.istore 4, 2) := by decide +kernel
theorem dX10_allOf_10 : decode cX10_allOf 10 = .ok (.iload 4, 2) := by decide +kernel
theorem dX10_allOf_12 : decode cX10_allOf 12 = .ok (.iload_n 3, 1) := by decide +kernel
theorem dX10_allOf_13 : decode cX10_allOf 13 = .ok (.if_icmp .ge 20, 3) := by decide +kernel
theorem dX10_allOf_16 : decode cX10_allOf 16 = .ok (.aload_n 2, 1) := by decide +kernel
theorem dX10_allOf_17 : decode cX10_allOf 17 = .ok (.iload 4, 2) := by decide +kernel
theorem dX10_allOf_19 : decode cX10_allOf 19 = .ok (.iaload, 1) := by decide +kernel
theorem dX10_allOf_20 : decode cX10_allOf 20 = .ok (.istore 5, 2) := by decide +kernel
theorem dX10_allOf_22 : decode cX10_allOf 22 = .ok (.iload_n 1, 1) := by decide +kernel
theorem dX10_allOf_23 : decode cX10_allOf 23 = .ok (.iload 5, 2) := by decide +kernel
theorem dX10_allOf_25 : decode cX10_allOf 25 = .ok (.iadd, 1) := by decide +kernel
theorem dX10_allOf_26 : decode cX10_allOf 26 = .ok (.istore_n 1, 1) := by decide +kernel
theorem dX10_allOf_27 : decode cX10_allOf 27 = .ok (.iinc 4 1, 3) := by decide +kernel
theorem dX10_allOf_30 : decode cX10_allOf 30 = .ok (.goto (-20), 3) := by decide +kernel
theorem dX10_allOf_33 : decode cX10_allOf 33 = .ok (.iload_n 1, 1) := by decide +kernel
theorem dX10_allOf_34 : decode cX10_allOf 34 = .ok (.ireturn, 1) := by decide +kernel
theorem dX10_count_0 : decode cX10_count 0 = .ok (.iload_n 1, 1) := by decide +kernel
theorem dX10_count_1 : decode cX10_count 1 = .ok (.bipush 11, 2) := by decide +kernel
theorem dX10_count_3 : decode cX10_count 3 = .ok (.bipush 16, 2) := by decide +kernel
theorem dX10_count_5 : decode cX10_count 5 = .ok (.invokestatic 134, 3) := by decide +kernel
theorem dX10_count_8 : decode cX10_count 8 = .ok (.ifCond .eq 13, 3) := by decide +kernel
theorem dX10_count_11 : decode cX10_count 11 = .ok (.aload_n 0, 1) := by decide +kernel
theorem dX10_count_12 : decode cX10_count 12 = .ok (.getfield 7, 3) := by decide +kernel
theorem dX10_count_15 : decode cX10_count 15 = .ok (.iload_n 1, 1) := by decide +kernel
theorem dX10_count_16 : decode cX10_count 16 = .ok (.bipush 10, 2) := by decide +kernel
theorem dX10_count_18 : decode cX10_count 18 = .ok (.isub, 1) := by decide +kernel
theorem dX10_count_19 : decode cX10_count 19 = .ok (.iaload, 1) := by decide +kernel
theorem dX10_count_20 : decode cX10_count 20 = .ok (.ireturn, 1) := by decide +kernel
theorem dX10_count_21 : decode cX10_count 21 = .ok (.iload_n 1, 1) := by decide +kernel
theorem dX10_count_22 : decode cX10_count 22 = .ok (.tableswitch 100 0 7 #[46, 51, 56, 69, 77, 85, 90, 95], 46) := by decide +kernel
theorem dX10_count_68 : decode cX10_count 68 = .ok (.aload_n 0, 1) := by decide +kernel
theorem dX10_count_69 : decode cX10_count 69 = .ok (.getfield 125, 3) := by decide +kernel
theorem dX10_count_72 : decode cX10_count 72 = .ok (.ireturn, 1) := by decide +kernel
theorem dX10_count_73 : decode cX10_count 73 = .ok (.aload_n 0, 1) := by decide +kernel
theorem dX10_count_74 : decode cX10_count 74 = .ok (.getfield 192, 3) := by decide +kernel
theorem dX10_count_77 : decode cX10_count 77 = .ok (.ireturn, 1) := by decide +kernel
theorem dX10_count_78 : decode cX10_count 78 = .ok (.aload_n 0, 1) := by decide +kernel
theorem dX10_count_79 : decode cX10_count 79 = .ok (.getfield 61, 3) := by decide +kernel
theorem dX10_count_82 : decode cX10_count 82 = .ok (.ifCond .ge 7, 3) := by decide +kernel
theorem dX10_count_85 : decode cX10_count 85 = .ok (.iconst 0, 1) := by decide +kernel
theorem dX10_count_86 : decode cX10_count 86 = .ok (.goto 4, 3) := by decide +kernel
theorem dX10_count_89 : decode cX10_count 89 = .ok (.iconst 1, 1) := by decide +kernel
theorem dX10_count_90 : decode cX10_count 90 = .ok (.ireturn, 1) := by decide +kernel
theorem dX10_count_91 : decode cX10_count 91 = .ok (.aload_n 0, 1) := by decide +kernel
theorem dX10_count_92 : decode cX10_count 92 = .ok (.getfield 52, 3) := by decide +kernel
theorem dX10_count_95 : decode cX10_count 95 = .ok (.invokestatic 431, 3) := by decide +kernel
theorem dX10_count_98 : decode cX10_count 98 = .ok (.ireturn, 1) := by decide +kernel
theorem dX10_count_99 : decode cX10_count 99 = .ok (.aload_n 0, 1) := by decide +kernel
theorem dX10_count_100 : decode cX10_count 100 = .ok (.getfield 55, 3) := by decide +kernel
theorem dX10_count_103 : decode cX10_count 103 = .ok (.invokestatic 431, 3) := by decide +kernel
theorem dX10_count_106 : decode cX10_count 106 = .ok (.ireturn, 1) := by decide +kernel
theorem dX10_count_107 : decode cX10_count 107 = .ok (.aload_n 0, 1) := by decide +kernel
theorem dX10_count_108 : decode cX10_count 108 = .ok (.getfield 206, 3) := by decide +kernel
theorem dX10_count_111 : decode cX10_count 111 = .ok (.ireturn, 1) := by decide +kernel
theorem dX10_count_112 : decode cX10_count 112 = .ok (.aload_n 0, 1) := by decide +kernel
theorem dX10_count_113 : decode cX10_count 113 = .ok (.getfield 395, 3) := by decide +kernel
theorem dX10_count_116 : decode cX10_count 116 = .ok (.ireturn, 1) := by decide +kernel
theorem dX10_count_117 : decode cX10_count 117 = .ok (.aload_n 0, 1) := by decide +kernel
theorem dX10_count_118 : decode cX10_count 118 = .ok (.getfield 142, 3) := by decide +kernel
theorem dX10_count_121 : decode cX10_count 121 = .ok (.ireturn, 1) := by decide +kernel
theorem dX10_count_122 : decode cX10_count 122 = .ok (.bipush (-9), 2) := by decide +kernel
theorem dX10_count_124 : decode cX10_count 124 = .ok (.ireturn, 1) := by decide +kernel
theorem dJ6_bitCount_0f7a4_0 : decode cJ6_bitCount_0f7a4 0 = .ok (.iload_n 0, 1) := by decide +kernel
theorem dJ6_bitCount_0f7a4_1 : decode cJ6_bitCount_0f7a4 1 = .ok (.iload_n 0, 1) := by decide +kernel
theorem dJ6_bitCount_0f7a4_2 : decode cJ6_bitCount_0f7a4 2 = .ok (.iconst 1, 1) := by decide +kernel
theorem dJ6_bitCount_0f7a4_3 : decode cJ6_bitCount_0f7a4 3 = .ok (.iushr, 1) := by decide +kernel
theorem dJ6_bitCount_0f7a4_4 : decode cJ6_bitCount_0f7a4 4 = .ok (.ldc_w 265, 3) := by decide +kernel
theorem dJ6_bitCount_0f7a4_7 : decode cJ6_bitCount_0f7a4 7 = .ok (.iand, 1) := by decide +kernel
theorem dJ6_bitCount_0f7a4_8 : decode cJ6_bitCount_0f7a4 8 = .ok (.isub, 1) := by decide +kernel
theorem dJ6_bitCount_0f7a4_9 : decode cJ6_bitCount_0f7a4 9 = .ok (.istore_n 0, 1) := by decide +kernel
theorem dJ6_bitCount_0f7a4_10 : decode cJ6_bitCount_0f7a4 10 = .ok (.iload_n 0, 1) := by decide +kernel
theorem dJ6_bitCount_0f7a4_11 : decode cJ6_bitCount_0f7a4 11 = .ok (.ldc_w 266, 3) := by decide +kernel
theorem dJ6_bitCount_0f7a4_14 : decode cJ6_bitCount_0f7a4 14 = .ok (.iand, 1) := by decide +kernel
theorem dJ6_bitCount_0f7a4_15 : decode cJ6_bitCount_0f7a4 15 = .ok (.iload_n 0, 1) := by decide +kernel
theorem dJ6_bitCount_0f7a4_16 : decode cJ6_bitCount_0f7a4 16 = .ok (.iconst 2, 1) := by decide +kernel
theorem dJ6_bitCount_0f7a4_17 : decode cJ6_bitCount_0f7a4 17 = .ok (.iushr, 1) := by decide +kernel
theorem dJ6_bitCount_0f7a4_18 : decode cJ6_bitCount_0f7a4 18 = .ok (.ldc_w 266, 3) := by decide +kernel
theorem dJ6_bitCount_0f7a4_21 : decode cJ6_bitCount_0f7a4 21 = .ok (.iand, 1) := by decide +kernel
theorem dJ6_bitCount_0f7a4_22 : decode cJ6_bitCount_0f7a4 22 = .ok (.iadd, 1) := by decide +kernel
theorem dJ6_bitCount_0f7a4_23 : decode cJ6_bitCount_0f7a4 23 = .ok (.istore_n 0, 1) := by decide +kernel
theorem dJ6_bitCount_0f7a4_24 : decode cJ6_bitCount_0f7a4 24 = .ok (.iload_n 0, 1) := by decide +kernel
theorem dJ6_bitCount_0f7a4_25 : decode cJ6_bitCount_0f7a4 25 = .ok (.iload_n 0, 1) := by decide +kernel
theorem dJ6_bitCount_0f7a4_26 : decode cJ6_bitCount_0f7a4 26 = .ok (.iconst 4, 1) := by decide +kernel
theorem dJ6_bitCount_0f7a4_27 : decode cJ6_bitCount_0f7a4 27 = .ok (.iushr, 1) := by decide +kernel
theorem dJ6_bitCount_0f7a4_28 : decode cJ6_bitCount_0f7a4 28 = .ok (.iadd, 1) := by decide +kernel
theorem dJ6_bitCount_0f7a4_29 : decode cJ6_bitCount_0f7a4 29 = .ok (.ldc_w 267, 3) := by decide +kernel
theorem dJ6_bitCount_0f7a4_32 : decode cJ6_bitCount_0f7a4 32 = .ok (.iand, 1) := by decide +kernel
theorem dJ6_bitCount_0f7a4_33 : decode cJ6_bitCount_0f7a4 33 = .ok (.istore_n 0, 1) := by decide +kernel
theorem dJ6_bitCount_0f7a4_34 : decode cJ6_bitCount_0f7a4 34 = .ok (.iload_n 0, 1) := by decide +kernel
theorem dJ6_bitCount_0f7a4_35 : decode cJ6_bitCount_0f7a4 35 = .ok (.iload_n 0, 1) := by decide +kernel
theorem dJ6_bitCount_0f7a4_36 : decode cJ6_bitCount_0f7a4 36 = .ok (.bipush 8, 2) := by decide +kernel
theorem dJ6_bitCount_0f7a4_38 : decode cJ6_bitCount_0f7a4 38 = .ok (.iushr, 1) := by decide +kernel
theorem dJ6_bitCount_0f7a4_39 : decode cJ6_bitCount_0f7a4 39 = .ok (.iadd, 1) := by decide +kernel
theorem dJ6_bitCount_0f7a4_40 : decode cJ6_bitCount_0f7a4 40 = .ok (.istore_n 0, 1) := by decide +kernel
theorem dJ6_bitCount_0f7a4_41 : decode cJ6_bitCount_0f7a4 41 = .ok (.iload_n 0, 1) := by decide +kernel
theorem dJ6_bitCount_0f7a4_42 : decode cJ6_bitCount_0f7a4 42 = .ok (.iload_n 0, 1) := by decide +kernel
theorem dJ6_bitCount_0f7a4_43 : decode cJ6_bitCount_0f7a4 43 = .ok (.bipush 16, 2) := by decide +kernel
theorem dJ6_bitCount_0f7a4_45 : decode cJ6_bitCount_0f7a4 45 = .ok (.iushr, 1) := by decide +kernel
theorem dJ6_bitCount_0f7a4_46 : decode cJ6_bitCount_0f7a4 46 = .ok (.iadd, 1) := by decide +kernel
theorem dJ6_bitCount_0f7a4_47 : decode cJ6_bitCount_0f7a4 47 = .ok (.istore_n 0, 1) := by decide +kernel
theorem dJ6_bitCount_0f7a4_48 : decode cJ6_bitCount_0f7a4 48 = .ok (.iload_n 0, 1) := by decide +kernel
theorem dJ6_bitCount_0f7a4_49 : decode cJ6_bitCount_0f7a4 49 = .ok (.bipush 63, 2) := by decide +kernel
theorem dJ6_bitCount_0f7a4_51 : decode cJ6_bitCount_0f7a4 51 = .ok (.iand, 1) := by decide +kernel
theorem dJ6_bitCount_0f7a4_52 : decode cJ6_bitCount_0f7a4 52 = .ok (.ireturn, 1) := by decide +kernel
theorem dJ9_max_7cf53_0 : decode cJ9_max_7cf53 0 = .ok (.iload_n 0, 1) := by decide +kernel
theorem dJ9_max_7cf53_1 : decode cJ9_max_7cf53 1 = .ok (.iload_n 1, 1) := by decide +kernel
theorem dJ9_max_7cf53_2 : decode cJ9_max_7cf53 2 = .ok (.if_icmp .lt 7, 3) := by decide +kernel
theorem dJ9_max_7cf53_5 : decode cJ9_max_7cf53 5 = .ok (.iload_n 0, 1) := by decide +kernel
theorem dJ9_max_7cf53_6 : decode cJ9_max_7cf53 6 = .ok (.goto 4, 3) := by decide +kernel
theorem dJ9_max_7cf53_9 : decode cJ9_max_7cf53 9 = .ok (.iload_n 1, 1) := by decide +kernel
theorem dJ9_max_7cf53_10 : decode cJ9_max_7cf53 10 = .ok (.ireturn, 1) := by decide +kernel
theorem dJ9_min_7cf53_0 : decode cJ9_min_7cf53 0 = .ok (.iload_n 0, 1) := by decide +kernel
theorem dJ9_min_7cf53_1 : decode cJ9_min_7cf53 1 = .ok (.iload_n 1, 1) := by decide +kernel
theorem dJ9_min_7cf53_2 : decode cJ9_min_7cf53 2 = .ok (.if_icmp .gt 7, 3) := by decide +kernel
theorem dJ9_min_7cf53_5 : decode cJ9_min_7cf53 5 = .ok (.iload_n 0, 1) := by decide +kernel
theorem dJ9_min_7cf53_6 : decode cJ9_min_7cf53 6 = .ok (.goto 4, 3) := by decide +kernel
theorem dJ9_min_7cf53_9 : decode cJ9_min_7cf53 9 = .ok (.iload_n 1, 1) := by decide +kernel
theorem dJ9_min_7cf53_10 : decode cJ9_min_7cf53 10 = .ok (.ireturn, 1) := by decide +kernel
theorem dJ0_length_8abf5_0 : decode cJ0_length_8abf5 0 = .ok (.aload_n 0, 1) := by decide +kernel
theorem dJ0_length_8abf5_1 : decode cJ0_length_8abf5 1 = .ok (.getfield 9, 3) := by decide +kernel
theorem dJ0_length_8abf5_4 : decode cJ0_length_8abf5 4 = .ok (.arraylength, 1) := by decide +kernel
theorem dJ0_length_8abf5_5 : decode cJ0_length_8abf5 5 = .ok (.aload_n 0, 1) := by decide +kernel
theorem dJ0_length_8abf5_6 : decode cJ0_length_8abf5 6 = .ok (.invokevirtual 335, 3) := by decide +kernel
theorem dJ0_length_8abf5_9 : decode cJ0_length_8abf5 9 = .ok (.ishr, 1) := by decide +kernel
theorem dJ0_length_8abf5_10 : decode cJ0_length_8abf5 10 = .ok (.ireturn, 1) := by decide +kernel
theorem dJ0_isEmpty_aae02_0 : decode cJ0_isEmpty_aae02 0 = .ok (.aload_n 0, 1) := by decide +kernel
theorem dJ0_isEmpty_aae02_1 : decode cJ0_isEmpty_aae02 1 = .ok (.getfield 9, 3) := by decide +kernel
theorem dJ0_isEmpty_aae02_4 : decode cJ0_isEmpty_aae02 4 = .ok (.arraylength, 1) := by decide +kernel
theorem dJ0_isEmpty_aae02_5 : decode cJ0_isEmpty_aae02 5 = .ok (.ifCond .ne 7, 3) := by decide +kernel
theorem dJ0_isEmpty_aae02_8 : decode cJ0_isEmpty_aae02 8 = .ok (.iconst 1, 1) := by decide +kernel
theorem dJ0_isEmpty_aae02_9 : decode cJ0_isEmpty_aae02 9 = .ok (.goto 4, 3) := by decide +kernel
theorem dJ0_isEmpty_aae02_12 : decode cJ0_isEmpty_aae02 12 = .ok (.iconst 0, 1) := by decide +kernel
theorem dJ0_isEmpty_aae02_13 : decode cJ0_isEmpty_aae02 13 = .ok (.ireturn, 1) := by decide +kernel
theorem dJ0_charAt_5068e_0 : decode cJ0_charAt_5068e 0 = .ok (.aload_n 0, 1) := by decide +kernel
theorem dJ0_charAt_5068e_1 : decode cJ0_charAt_5068e 1 = .ok (.invokevirtual 492, 3) := by decide +kernel
theorem dJ0_charAt_5068e_4 : decode cJ0_charAt_5068e 4 = .ok (.ifCond .eq 12, 3) := by decide +kernel
theorem dJ0_charAt_5068e_7 : decode cJ0_charAt_5068e 7 = .ok (.aload_n 0, 1) := by decide +kernel
theorem dJ0_charAt_5068e_8 : decode cJ0_charAt_5068e 8 = .ok (.getfield 9, 3) := by decide +kernel
theorem dJ0_charAt_5068e_11 : decode cJ0_charAt_5068e 11 = .ok (.iload_n 1, 1) := by decide +kernel
theorem dJ0_charAt_5068e_12 : decode cJ0_charAt_5068e 12 = .ok (.invokestatic 495, 3) := by decide +kernel
theorem dJ0_charAt_5068e_15 : decode cJ0_charAt_5068e 15 = .ok (.ireturn, 1) := by decide +kernel
theorem dJ0_charAt_5068e_16 : decode cJ0_charAt_5068e 16 = .ok (.aload_n 0, 1) := by decide +kernel
theorem dJ0_charAt_5068e_17 : decode cJ0_charAt_5068e 17 = .ok (.getfield 9, 3) := by decide +kernel
theorem dJ0_charAt_5068e_20 : decode cJ0_charAt_5068e 20 = .ok (.iload_n 1, 1) := by decide +kernel
theorem dJ0_charAt_5068e_21 : decode cJ0_charAt_5068e 21 = .ok (.invokestatic 498, 3) := by decide +kernel
theorem dJ0_charAt_5068e_24 : decode cJ0_charAt_5068e 24 = .ok (.ireturn, 1) := by decide +kernel
theorem dJ0_coder_7d493_0 : decode cJ0_coder_7d493 0 = .ok (.getstatic 38, 3) := by decide +kernel
theorem dJ0_coder_7d493_3 : decode cJ0_coder_7d493 3 = .ok (.ifCond .eq 10, 3) := by decide +kernel
theorem dJ0_coder_7d493_6 : decode cJ0_coder_7d493 6 = .ok (.aload_n 0, 1) := by decide +kernel
theorem dJ0_coder_7d493_7 : decode cJ0_coder_7d493 7 = .ok (.getfield 15, 3) := by decide +kernel
theorem dJ0_coder_7d493_10 : decode cJ0_coder_7d493 10 = .ok (.goto 4, 3) := by decide +kernel
theorem dJ0_coder_7d493_13 : decode cJ0_coder_7d493 13 = .ok (.iconst 1, 1) := by decide +kernel
theorem dJ0_coder_7d493_14 : decode cJ0_coder_7d493 14 = .ok (.ireturn, 1) := by decide +kernel
theorem dJ0_isLatin1_aae02_0 : decode cJ0_isLatin1_aae02 0 = .ok (.getstatic 38, 3) := by decide +kernel
theorem dJ0_isLatin1_aae02_3 : decode cJ0_isLatin1_aae02 3 = .ok (.ifCond .eq 14, 3) := by decide +kernel
theorem dJ0_isLatin1_aae02_6 : decode cJ0_isLatin1_aae02 6 = .ok (.aload_n 0, 1) := by decide +kernel
theorem dJ0_isLatin1_aae02_7 : decode cJ0_isLatin1_aae02 7 = .ok (.getfield 15, 3) := by decide +kernel
theorem dJ0_isLatin1_aae02_10 : decode cJ0_isLatin1_aae02 10 = .ok (.ifCond .ne 7, 3) := by decide +kernel
theorem dJ0_isLatin1_aae02_13 : decode cJ0_isLatin1_aae02 13 = .ok (.iconst 1, 1) := by decide +kernel
theorem dJ0_isLatin1_aae02_14 : decode cJ0_isLatin1_aae02 14 = .ok (.goto 4, 3) := by decide +kernel
theorem dJ0_isLatin1_aae02_17 : decode cJ0_isLatin1_aae02 17 = .ok (.iconst 0, 1) := by decide +kernel
theorem dJ0_isLatin1_aae02_18 : decode cJ0_isLatin1_aae02 18 = .ok (.ireturn, 1) := by decide +kernel
theorem dJ0_checkIndex_df160_0 : decode cJ0_checkIndex_df160 0 = .ok (.iload_n 0, 1) := by decide +kernel
theorem dJ0_checkIndex_df160_1 : decode cJ0_checkIndex_df160 1 = .ok (.iload_n 1, 1) := by decide +kernel
theorem dJ0_checkIndex_df160_2 : decode cJ0_checkIndex_df160 2 = .ok (.getstatic 1053, 3) := by decide +kernel
theorem dJ0_checkIndex_df160_5 : decode cJ0_checkIndex_df160 5 = .ok (.invokestatic 1059, 3) := by decide +kernel
theorem dJ0_checkIndex_df160_8 : decode cJ0_checkIndex_df160 8 = .ok (.pop, 1) := by decide +kernel
theorem dJ0_checkIndex_df160_9 : decode cJ0_checkIndex_df160 9 = .ok (.return_, 1) := by decide +kernel
theorem dJ1_charAt_3b067_0 : decode cJ1_charAt_3b067 0 = .ok (.iload_n 1, 1) := by decide +kernel
theorem dJ1_charAt_3b067_1 : decode cJ1_charAt_3b067 1 = .ok (.aload_n 0, 1) := by decide +kernel
theorem dJ1_charAt_3b067_2 : decode cJ1_charAt_3b067 2 = .ok (.arraylength, 1) := by decide +kernel
theorem dJ1_charAt_3b067_3 : decode cJ1_charAt_3b067 3 = .ok (.invokestatic 9, 3) := by decide +kernel
theorem dJ1_charAt_3b067_6 : decode cJ1_charAt_3b067 6 = .ok (.aload_n 0, 1) := by decide +kernel
theorem dJ1_charAt_3b067_7 : decode cJ1_charAt_3b067 7 = .ok (.iload_n 1, 1) := by decide +kernel
theorem dJ1_charAt_3b067_8 : decode cJ1_charAt_3b067 8 = .ok (.baload, 1) := by decide +kernel
theorem dJ1_charAt_3b067_9 : decode cJ1_charAt_3b067 9 = .ok (.sipush 255, 3) := by decide +kernel
theorem dJ1_charAt_3b067_12 : decode cJ1_charAt_3b067 12 = .ok (.iand, 1) := by decide +kernel
theorem dJ1_charAt_3b067_13 : decode cJ1_charAt_3b067 13 = .ok (.i2c, 1) := by decide +kernel
theorem dJ1_charAt_3b067_14 : decode cJ1_charAt_3b067 14 = .ok (.ireturn, 1) := by decide +kernel
theorem dJ2_getChar_3b067_0 : decode cJ2_getChar_3b067 0 = .ok (.getstatic 44, 3) := by decide +kernel
theorem dJ2_getChar_3b067_3 : decode cJ2_getChar_3b067 3 = .ok (.ifCond .ne 25, 3) := by decide +kernel
theorem dJ2_getChar_3b067_6 : decode cJ2_getChar_3b067 6 = .ok (.iload_n 1, 1) := by decide +kernel
theorem dJ2_getChar_3b067_7 : decode cJ2_getChar_3b067 7 = .ok (.ifCond .lt 11, 3) := by decide +kernel
theorem dJ2_getChar_3b067_10 : decode cJ2_getChar_3b067 10 = .ok (.iload_n 1, 1) := by decide +kernel
theorem dJ2_getChar_3b067_11 : decode cJ2_getChar_3b067 11 = .ok (.aload_n 0, 1) := by decide +kernel
theorem dJ2_getChar_3b067_12 : decode cJ2_getChar_3b067 12 = .ok (.invokestatic 48, 3) := by decide +kernel
theorem dJ2_getChar_3b067_15 : decode cJ2_getChar_3b067 15 = .ok (.if_icmp .lt 13, 3) := by decide +kernel
theorem dJ2_getChar_3b067_18 : decode cJ2_getChar_3b067 18 = .ok (.new 52, 3) := by decide +kernel
theorem dJ2_getChar_3b067_21 : decode cJ2_getChar_3b067 21 = .ok (.dup, 1) := by decide +kernel
theorem dJ2_getChar_3b067_22 : decode cJ2_getChar_3b067 22 = .ok (.ldc 54, 2) := by decide +kernel
theorem dJ2_getChar_3b067_24 : decode cJ2_getChar_3b067 24 = .ok (.invokespecial 56, 3) := by decide +kernel
theorem dJ2_getChar_3b067_27 : decode cJ2_getChar_3b067 27 = .ok (.athrow, 1) := by decide +kernel
theorem dJ2_getChar_3b067_28 : decode cJ2_getChar_3b067 28 = .ok (.iload_n 1, 1) := by decide +kernel
theorem dJ2_getChar_3b067_29 : decode cJ2_getChar_3b067 29 = .ok (.iconst 1, 1) := by decide +kernel
theorem dJ2_getChar_3b067_30 : decode cJ2_getChar_3b067 30 = .ok (.ishl, 1) := by decide +kernel
theorem dJ2_getChar_3b067_31 : decode cJ2_getChar_3b067 31 = .ok (.istore_n 1, 1) := by decide +kernel
theorem dJ2_getChar_3b067_32 : decode cJ2_getChar_3b067 32 = .ok (.aload_n 0, 1) := by decide +kernel
theorem dJ2_getChar_3b067_33 : decode cJ2_getChar_3b067 33 = .ok (.iload_n 1, 1) := by decide +kernel
theorem dJ2_getChar_3b067_34 : decode cJ2_getChar_3b067 34 = .ok (.iinc 1 1, 3) := by decide +kernel
theorem dJ2_getChar_3b067_37 : decode cJ2_getChar_3b067 37 = .ok (.baload, 1) := by decide +kernel
theorem dJ2_getChar_3b067_38 : decode cJ2_getChar_3b067 38 = .ok (.sipush 255, 3) := by decide +kernel
theorem dJ2_getChar_3b067_41 : decode cJ2_getChar_3b067 41 = .ok (.iand, 1) := by decide +kernel
theorem dJ2_getChar_3b067_42 : decode cJ2_getChar_3b067 42 = .ok (.getstatic 59, 3) := by decide +kernel
theorem dJ2_getChar_3b067_45 : decode cJ2_getChar_3b067 45 = .ok (.ishl, 1) := by decide +kernel
theorem dJ2_getChar_3b067_46 : decode cJ2_getChar_3b067 46 = .ok (.aload_n 0, 1) := by decide +kernel
theorem dJ2_getChar_3b067_47 : decode cJ2_getChar_3b067 47 = .ok (.iload_n 1, 1) := by decide +kernel
theorem dJ2_getChar_3b067_48 : decode cJ2_getChar_3b067 48 = .ok (.baload, 1) := by decide +kernel
theorem dJ2_getChar_3b067_49 : decode cJ2_getChar_3b067 49 = .ok (.sipush 255, 3) := by decide +kernel
theorem dJ2_getChar_3b067_52 : decode cJ2_getChar_3b067 52 = .ok (.iand, 1) := by decide +kernel
theorem dJ2_getChar_3b067_53 : decode cJ2_getChar_3b067 53 = .ok (.getstatic 63, 3) := by decide +kernel
theorem dJ2_getChar_3b067_56 : decode cJ2_getChar_3b067 56 = .ok (.ishl, 1) := by decide +kernel
theorem dJ2_getChar_3b067_57 : decode cJ2_getChar_3b067 57 = .ok (.ior, 1) := by decide +kernel
theorem dJ2_getChar_3b067_58 : decode cJ2_getChar_3b067 58 = .ok (.i2c, 1) := by decide +kernel
theorem dJ2_getChar_3b067_59 : decode cJ2_getChar_3b067 59 = .ok (.ireturn, 1) := by decide +kernel
theorem dJ2_length_9d52b_0 : decode cJ2_length_9d52b 0 = .ok (.aload_n 0, 1) := by decide +kernel
theorem dJ2_length_9d52b_1 : decode cJ2_length_9d52b 1 = .ok (.arraylength, 1) := by decide +kernel
theorem dJ2_length_9d52b_2 : decode cJ2_length_9d52b 2 = .ok (.iconst 1, 1) := by decide +kernel
theorem dJ2_length_9d52b_3 : decode cJ2_length_9d52b 3 = .ok (.ishr, 1) := by decide +kernel
theorem dJ2_length_9d52b_4 : decode cJ2_length_9d52b 4 = .ok (.ireturn, 1) := by decide +kernel
theorem dJ2_charAt_3b067_0 : decode cJ2_charAt_3b067 0 = .ok (.iload_n 1, 1) := by decide +kernel
theorem dJ2_charAt_3b067_1 : decode cJ2_charAt_3b067 1 = .ok (.aload_n 0, 1) := by decide +kernel
theorem dJ2_charAt_3b067_2 : decode cJ2_charAt_3b067 2 = .ok (.invokestatic 67, 3) := by decide +kernel
theorem dJ2_charAt_3b067_5 : decode cJ2_charAt_3b067 5 = .ok (.aload_n 0, 1) := by decide +kernel
theorem dJ2_charAt_3b067_6 : decode cJ2_charAt_3b067 6 = .ok (.iload_n 1, 1) := by decide +kernel
theorem dJ2_charAt_3b067_7 : decode cJ2_charAt_3b067 7 = .ok (.invokestatic 71, 3) := by decide +kernel
theorem dJ2_charAt_3b067_10 : decode cJ2_charAt_3b067 10 = .ok (.ireturn, 1) := by decide +kernel
theorem dJ2_checkIndex_2214a_0 : decode cJ2_checkIndex_2214a 0 = .ok (.iload_n 0, 1) := by decide +kernel
theorem dJ2_checkIndex_2214a_1 : decode cJ2_checkIndex_2214a 1 = .ok (.aload_n 1, 1) := by decide +kernel
theorem dJ2_checkIndex_2214a_2 : decode cJ2_checkIndex_2214a 2 = .ok (.invokestatic 48, 3) := by decide +kernel
theorem dJ2_checkIndex_2214a_5 : decode cJ2_checkIndex_2214a 5 = .ok (.invokestatic 414, 3) := by decide +kernel
theorem dJ2_checkIndex_2214a_8 : decode cJ2_checkIndex_2214a 8 = .ok (.return_, 1) := by decide +kernel
theorem dJ3_checkIndex_8e157_0 : decode cJ3_checkIndex_8e157 0 = .ok (.iload_n 0, 1) := by decide +kernel
theorem dJ3_checkIndex_8e157_1 : decode cJ3_checkIndex_8e157 1 = .ok (.ifCond .lt 8, 3) := by decide +kernel
theorem dJ3_checkIndex_8e157_4 : decode cJ3_checkIndex_8e157 4 = .ok (.iload_n 0, 1) := by decide +kernel
theorem dJ3_checkIndex_8e157_5 : decode cJ3_checkIndex_8e157 5 = .ok (.iload_n 1, 1) := by decide +kernel
theorem dJ3_checkIndex_8e157_6 : decode cJ3_checkIndex_8e157 6 = .ok (.if_icmp .lt 10, 3) := by decide +kernel
theorem dJ3_checkIndex_8e157_9 : decode cJ3_checkIndex_8e157 9 = .ok (.aload_n 2, 1) := by decide +kernel
theorem dJ3_checkIndex_8e157_10 : decode cJ3_checkIndex_8e157 10 = .ok (.iload_n 0, 1) := by decide +kernel
theorem dJ3_checkIndex_8e157_11 : decode cJ3_checkIndex_8e157 11 = .ok (.iload_n 1, 1) := by decide +kernel
theorem dJ3_checkIndex_8e157_12 : decode cJ3_checkIndex_8e157 12 = .ok (.invokestatic 95, 3) := by decide +kernel
theorem dJ3_checkIndex_8e157_15 : decode cJ3_checkIndex_8e157 15 = .ok (.athrow, 1) := by decide +kernel
theorem dJ3_checkIndex_8e157_16 : decode cJ3_checkIndex_8e157 16 = .ok (.iload_n 0, 1) := by decide +kernel
theorem dJ3_checkIndex_8e157_17 : decode cJ3_checkIndex_8e157 17 = .ok (.ireturn, 1) := by decide +kernel
theorem dL_law_0 : decode cL_law 0 = .ok (.new 7, 3) := by decide +kernel
theorem dL_law_3 : decode cL_law 3 = .ok (.dup, 1) := by decide +kernel
theorem dL_law_4 : decode cL_law 4 = .ok (.invokespecial 9, 3) := by decide +kernel
theorem dL_law_7 : decode cL_law 7 = .ok (.astore_n 1, 1) := by decide +kernel
theorem dL_law_8 : decode cL_law 8 = .ok (.new 10, 3) := by decide +kernel
theorem dL_law_11 : decode cL_law 11 = .ok (.dup, 1) := by decide +kernel
theorem dL_law_12 : decode cL_law 12 = .ok (.invokespecial 12, 3) := by decide +kernel
theorem dL_law_15 : decode cL_law 15 = .ok (.astore_n 2, 1) := by decide +kernel
theorem dL_law_16 : decode cL_law 16 = .ok (.iconst 0, 1) := by decide +kernel
theorem dL_law_17 : decode cL_law 17 = .ok (.istore_n 3, 1) := by decide +kernel
theorem dL_law_18 : decode cL_law 18 = .ok (.iload_n 3, 1) := by decide +kernel
theorem dL_law_19 : decode cL_law 19 = .ok (.aload_n 0, 1) := by decide +kernel
theorem dL_law_20 : decode cL_law 20 = .ok (.arraylength, 1) := by decide +kernel
theorem dL_law_21 : decode cL_law 21 = .ok (.iconst 4, 1) := by decide +kernel
theorem dL_law_22 : decode cL_law 22 = .ok (.isub, 1) := by decide +kernel
theorem dL_law_23 : decode cL_law 23 = .ok (.if_icmp .gt 738, 3) := by decide +kernel
theorem dL_law_26 : decode cL_law 26 = .ok (.aload_n 0, 1) := by decide +kernel
theorem dL_law_27 : decode cL_law 27 = .ok (.iload_n 3, 1) := by decide +kernel
theorem dL_law_28 : decode cL_law 28 = .ok (.iaload, 1) := by decide +kernel
theorem dL_law_29 : decode cL_law 29 = .ok (.bipush 31, 2) := by decide +kernel
theorem dL_law_31 : decode cL_law 31 = .ok (.iand, 1) := by decide +kernel
theorem dL_law_32 : decode cL_law 32 = .ok (.tableswitch 723 0 24 #[116, 139, 152, 175, 208, 221, 244, 267, 300, 323, 366, 399, 432, 445, 458, 491, 525, 559, 582, 605, 618, 631, 674, 687, 700], 116) := by decide +kernel
theorem dL_law_148 : decode cL_law 148 = .ok (.aload_n 1, 1) := by decide +kernel
theorem dL_law_149 : decode cL_law 149 = .ok (.aload_n 0, 1) := by decide +kernel
theorem dL_law_150 : decode cL_law 150 = .ok (.iload_n 3, 1) := by decide +kernel
theorem dL_law_151 : decode cL_law 151 = .ok (.iconst 1, 1) := by decide +kernel
theorem dL_law_152 : decode cL_law 152 = .ok (.iadd, 1) := by decide +kernel
theorem dL_law_153 : decode cL_law 153 = .ok (.iaload, 1) := by decide +kernel
theorem dL_law_154 : decode cL_law 154 = .ok (.invokevirtual 13, 3) := by decide +kernel
theorem dL_law_157 : decode cL_law 157 = .ok (.aload_n 2, 1) := by decide +kernel
theorem dL_law_158 : decode cL_law 158 = .ok (.aload_n 0, 1) := by decide +kernel
theorem dL_law_159 : decode cL_law 159 = .ok (.iload_n 3, 1) := by decide +kernel
theorem dL_law_160 : decode cL_law 160 = .ok (.iconst 1, 1) := by decide +kernel
theorem dL_law_161 : decode cL_law 161 = .ok (.iadd, 1) := by decide +kernel
theorem dL_law_162 : decode cL_law 162 = .ok (.iaload, 1) := by decide +kernel
theorem dL_law_163 : decode cL_law 163 = .ok (.invokevirtual 17, 3) := by decide +kernel
theorem dL_law_166 : decode cL_law 166 = .ok (.if_icmp .eq 589, 3) := by decide +kernel
theorem dL_law_169 : decode cL_law 169 = .ok (.iconst 0, 1) := by decide +kernel
theorem dL_law_170 : decode cL_law 170 = .ok (.ireturn, 1) := by decide +kernel
theorem dL_law_171 : decode cL_law 171 = .ok (.aload_n 1, 1) := by decide +kernel
theorem dL_law_172 : decode cL_law 172 = .ok (.invokevirtual 18, 3) := by decide +kernel
theorem dL_law_175 : decode cL_law 175 = .ok (.aload_n 2, 1) := by decide +kernel
theorem dL_law_176 : decode cL_law 176 = .ok (.invokevirtual 22, 3) := by decide +kernel
theorem dL_law_179 : decode cL_law 179 = .ok (.if_icmp .eq 576, 3) := by decide +kernel
theorem dL_law_182 : decode cL_law 182 = .ok (.iconst 0, 1) := by decide +kernel
theorem dL_law_183 : decode cL_law 183 = .ok (.ireturn, 1) := by decide +kernel
theorem dL_law_184 : decode cL_law 184 = .ok (.aload_n 1, 1) := by decide +kernel
theorem dL_law_185 : decode cL_law 185 = .ok (.aload_n 0, 1) := by decide +kernel
theorem dL_law_186 : decode cL_law 186 = .ok (.iload_n 3, 1) := by decide +kernel
theorem dL_law_187 : decode cL_law 187 = .ok (.iconst 1, 1) := by decide +kernel
theorem dL_law_188 : decode cL_law 188 = .ok (.iadd, 1) := by decide +kernel
theorem dL_law_189 : decode cL_law 189 = .ok (.iaload, 1) := by decide +kernel
theorem dL_law_190 : decode cL_law 190 = .ok (.invokevirtual 23, 3) := by decide +kernel
theorem dL_law_193 : decode cL_law 193 = .ok (.aload_n 2, 1) := by decide +kernel
theorem dL_law_194 : decode cL_law 194 = .ok (.aload_n 0, 1) := by decide +kernel
theorem dL_law_195 : decode cL_law 195 = .ok (.iload_n 3, 1) := by decide +kernel
theorem dL_law_196 : decode cL_law 196 = .ok (.iconst 1, 1) := by decide +kernel
theorem dL_law_197 : decode cL_law 197 = .ok (.iadd, 1) := by decide +kernel
theorem dL_law_198 : decode cL_law 198 = .ok (.iaload, 1) := by decide +kernel
theorem dL_law_199 : decode cL_law 199 = .ok (.invokevirtual 26, 3) := by decide +kernel
theorem dL_law_202 : decode cL_law 202 = .ok (.if_icmp .eq 553, 3) := by decide +kernel
theorem dL_law_205 : decode cL_law 205 = .ok (.iconst 0, 1) := by decide +kernel
theorem dL_law_206 : decode cL_law 206 = .ok (.ireturn, 1) := by decide +kernel
theorem dL_law_207 : decode cL_law 207 = .ok (.aload_n 1, 1) := by decide +kernel
theorem dL_law_208 : decode cL_law 208 = .ok (.aload_n 0, 1) := by decide +kernel
theorem dL_law_209 : decode cL_law 209 = .ok (.iload_n 3, 1) := by decide +kernel
theorem dL_law_210 : decode cL_law 210 = .ok (.iconst 1, 1) := by decide +kernel
theorem dL_law_211 : decode cL_law 211 = .ok (.iadd, 1) := by decide +kernel
theorem dL_law_212 : decode cL_law 212 = .ok (.iaload, 1) := by decide +kernel
theorem dL_law_213 : decode cL_law 213 = .ok (.aload_n 0, 1) := by decide +kernel
theorem dL_law_214 : decode cL_law 214 = .ok (.iload_n 3, 1) := by decide +kernel
theorem dL_law_215 : decode cL_law 215 = .ok (.iconst 2, 1) := by decide +kernel
theorem dL_law_216 : decode cL_law 216 = .ok (.iadd, 1) := by decide +kernel
theorem dL_law_217 : decode cL_law 217 = .ok (.iaload, 1) := by decide +kernel
theorem dL_law_218 : decode cL_law 218 = .ok (.invokevirtual 27, 3) := by decide +kernel
theorem dL_law_221 : decode cL_law 221 = .ok (.aload_n 2, 1) := by decide +kernel
theorem dL_law_222 : decode cL_law 222 = .ok (.aload_n 0, 1) := by decide +kernel
theorem dL_law_223 : decode cL_law 223 = .ok (.iload_n 3, 1) := by decide +kernel
theorem dL_law_224 : decode cL_law 224 = .ok (.iconst 1, 1) := by decide +kernel
theorem dL_law_225 : decode cL_law 225 = .ok (.iadd, 1) := by decide +kernel
theorem dL_law_226 : decode cL_law 226 = .ok (.iaload, 1) := by decide +kernel
theorem dL_law_227 : decode cL_law 227 = .ok (.aload_n 0, 1) := by decide +kernel
theorem dL_law_228 : decode cL_law 228 = .ok (.iload_n 3, 1) := by decide +kernel
theorem dL_law_229 : decode cL_law 229 = .ok (.iconst 2, 1) := by decide +kernel
theorem dL_law_230 : decode cL_law 230 = .ok (.iadd, 1) := by decide +kernel
theorem dL_law_231 : decode cL_law 231 = .ok (.iaload, 1) := by decide +kernel
theorem dL_law_232 : decode cL_law 232 = .ok (.invokevirtual 31, 3) := by decide +kernel
theorem dL_law_235 : decode cL_law 235 = .ok (.if_icmp .eq 520, 3) := by decide +kernel
theorem dL_law_238 : decode cL_law 238 = .ok (.iconst 0, 1) := by decide +kernel
theorem dL_law_239 : decode cL_law 239 = .ok (.ireturn, 1) := by decide +kernel
theorem dL_law_240 : decode cL_law 240 = .ok (.aload_n 1, 1) := by decide +kernel
theorem dL_law_241 : decode cL_law 241 = .ok (.invokevirtual 32, 3) := by decide +kernel
theorem dL_law_244 : decode cL_law 244 = .ok (.aload_n 2, 1) := by decide +kernel
theorem dL_law_245 : decode cL_law 245 = .ok (.invokevirtual 35, 3) := by decide +kernel
theorem dL_law_248 : decode cL_law 248 = .ok (.if_icmp .eq 507, 3) := by decide +kernel
theorem dL_law_251 : decode cL_law 251 = .ok (.iconst 0, 1) := by decide +kernel
theorem dL_law_252 : decode cL_law 252 = .ok (.ireturn, 1) := by decide +kernel
theorem dL_law_253 : decode cL_law 253 = .ok (.aload_n 1, 1) := by decide +kernel
theorem dL_law_254 : decode cL_law 254 = .ok (.aload_n 0, 1) := by decide +kernel
theorem dL_law_255 : decode cL_law 255 = .ok (.iload_n 3, 1) := by decide +kernel
theorem dL_law_256 : decode cL_law 256 = .ok (.iconst 1, 1) := by decide +kernel
theorem dL_law_257 : decode cL_law 257 = .ok (.iadd, 1) := by decide +kernel
theorem dL_law_258 : decode cL_law 258 = .ok (.iaload, 1) := by decide +kernel
theorem dL_law_259 : decode cL_law 259 = .ok (.invokevirtual 36, 3) := by decide +kernel
theorem dL_law_262 : decode cL_law 262 = .ok (.aload_n 2, 1) := by decide +kernel
theorem dL_law_263 : decode cL_law 263 = .ok (.aload_n 0, 1) := by decide +kernel
theorem dL_law_264 : decode cL_law 264 = .ok (.iload_n 3, 1) := by decide +kernel
theorem dL_law_265 : decode cL_law 265 = .ok (.iconst 1, 1) := by decide +kernel
theorem dL_law_266 : decode cL_law 266 = .ok (.iadd, 1) := by decide +kernel
theorem dL_law_267 : decode cL_law 267 = .ok (.iaload, 1) := by decide +kernel
theorem dL_law_268 : decode cL_law 268 = .ok (.invokevirtual 39, 3) := by decide +kernel
theorem dL_law_271 : decode cL_law 271 = .ok (.if_icmp .eq 484, 3) := by decide +kernel
theorem dL_law_274 : decode cL_law 274 = .ok (.iconst 0, 1) := by decide +kernel
theorem dL_law_275 : decode cL_law 275 = .ok (.ireturn, 1) := by decide +kernel
theorem dL_law_276 : decode cL_law 276 = .ok (.aload_n 1, 1) := by decide +kernel
theorem dL_law_277 : decode cL_law 277 = .ok (.aload_n 0, 1) := by decide +kernel
theorem dL_law_278 : decode cL_law 278 = .ok (.iload_n 3, 1) := by decide +kernel
theorem dL_law_279 : decode cL_law 279 = .ok (.iconst 1, 1) := by decide +kernel
theorem dL_law_280 : decode cL_law 280 = .ok (.iadd, 1) := by decide +kernel
theorem dL_law_281 : decode cL_law 281 = .ok (.iaload, 1) := by decide +kernel
theorem dL_law_282 : decode cL_law 282 = .ok (.invokevirtual 40, 3) := by decide +kernel
theorem dL_law_285 : decode cL_law 285 = .ok (.aload_n 2, 1) := by decide +kernel
theorem dL_law_286 : decode cL_law 286 = .ok (.aload_n 0, 1) := by decide +kernel
theorem dL_law_287 : decode cL_law 287 = .ok (.iload_n 3, 1) := by decide +kernel
theorem dL_law_288 : decode cL_law 288 = .ok (.iconst 1, 1) := by decide +kernel
theorem dL_law_289 : decode cL_law 289 = .ok (.iadd, 1) := by decide +kernel
theorem dL_law_290 : decode cL_law 290 = .ok (.iaload, 1) := by decide +kernel
theorem dL_law_291 : decode cL_law 291 = .ok (.invokevirtual 43, 3) := by decide +kernel
theorem dL_law_294 : decode cL_law 294 = .ok (.if_icmp .eq 461, 3) := by decide +kernel
theorem dL_law_297 : decode cL_law 297 = .ok (.iconst 0, 1) := by decide +kernel
theorem dL_law_298 : decode cL_law 298 = .ok (.ireturn, 1) := by decide +kernel
theorem dL_law_299 : decode cL_law 299 = .ok (.aload_n 1, 1) := by decide +kernel
theorem dL_law_300 : decode cL_law 300 = .ok (.aload_n 0, 1) := by decide +kernel
theorem dL_law_301 : decode cL_law 301 = .ok (.iload_n 3, 1) := by decide +kernel
theorem dL_law_302 : decode cL_law 302 = .ok (.iconst 1, 1) := by decide +kernel
theorem dL_law_303 : decode cL_law 303 = .ok (.iadd, 1) := by decide +kernel
theorem dL_law_304 : decode cL_law 304 = .ok (.iaload, 1) := by decide +kernel
theorem dL_law_305 : decode cL_law 305 = .ok (.aload_n 0, 1) := by decide +kernel
theorem dL_law_306 : decode cL_law 306 = .ok (.iload_n 3, 1) := by decide +kernel
theorem dL_law_307 : decode cL_law 307 = .ok (.iconst 2, 1) := by decide +kernel
theorem dL_law_308 : decode cL_law 308 = .ok (.iadd, 1) := by decide +kernel
theorem dL_law_309 : decode cL_law 309 = .ok (.iaload, 1) := by decide +kernel
theorem dL_law_310 : decode cL_law 310 = .ok (.invokevirtual 44, 3) := by decide +kernel
theorem dL_law_313 : decode cL_law 313 = .ok (.aload_n 2, 1) := by decide +kernel
theorem dL_law_314 : decode cL_law 314 = .ok (.aload_n 0, 1) := by decide +kernel
theorem dL_law_315 : decode cL_law 315 = .ok (.iload_n 3, 1) := by decide +kernel
theorem dL_law_316 : decode cL_law 316 = .ok (.iconst 1, 1) := by decide +kernel
theorem dL_law_317 : decode cL_law 317 = .ok (.iadd, 1) := by decide +kernel
theorem dL_law_318 : decode cL_law 318 = .ok (.iaload, 1) := by decide +kernel
theorem dL_law_319 : decode cL_law 319 = .ok (.aload_n 0, 1) := by decide +kernel
theorem dL_law_320 : decode cL_law 320 = .ok (.iload_n 3, 1) := by decide +kernel
theorem dL_law_321 : decode cL_law 321 = .ok (.iconst 2, 1) := by decide +kernel
theorem dL_law_322 : decode cL_law 322 = .ok (.iadd, 1) := by decide +kernel
theorem dL_law_323 : decode cL_law 323 = .ok (.iaload, 1) := by decide +kernel
theorem dL_law_324 : decode cL_law 324 = .ok (.invokevirtual 47, 3) := by decide +kernel
theorem dL_law_327 : decode cL_law 327 = .ok (.if_icmp .eq 428, 3) := by decide +kernel
theorem dL_law_330 : decode cL_law 330 = .ok (.iconst 0, 1) := by decide +kernel
theorem dL_law_331 : decode cL_law 331 = .ok (.ireturn, 1) := by decide +kernel
theorem dL_law_332 : decode cL_law 332 = .ok (.aload_n 1, 1) := by decide +kernel
theorem dL_law_333 : decode cL_law 333 = .ok (.aload_n 0, 1) := by decide +kernel
theorem dL_law_334 : decode cL_law 334 = .ok (.iload_n 3, 1) := by decide +kernel
theorem dL_law_335 : decode cL_law 335 = .ok (.iconst 1, 1) := by decide +kernel
theorem dL_law_336 : decode cL_law 336 = .ok (.iadd, 1) := by decide +kernel
theorem dL_law_337 : decode cL_law 337 = .ok (.iaload, 1) := by decide +kernel
theorem dL_law_338 : decode cL_law 338 = .ok (.invokevirtual 48, 3) := by decide +kernel
theorem dL_law_341 : decode cL_law 341 = .ok (.aload_n 2, 1) := by decide +kernel
theorem dL_law_342 : decode cL_law 342 = .ok (.aload_n 0, 1) := by decide +kernel
theorem dL_law_343 : decode cL_law 343 = .ok (.iload_n 3, 1) := by decide +kernel
theorem dL_law_344 : decode cL_law 344 = .ok (.iconst 1, 1) := by decide +kernel
theorem dL_law_345 : decode cL_law 345 = .ok (.iadd, 1) := by decide +kernel
theorem dL_law_346 : decode cL_law 346 = .ok (.iaload, 1) := by decide +kernel
theorem dL_law_347 : decode cL_law 347 = .ok (.invokevirtual 51, 3) := by decide +kernel
theorem dL_law_350 : decode cL_law 350 = .ok (.if_icmp .eq 405, 3) := by decide +kernel
theorem dL_law_353 : decode cL_law 353 = .ok (.iconst 0, 1) := by decide +kernel
theorem dL_law_354 : decode cL_law 354 = .ok (.ireturn, 1) := by decide +kernel
theorem dL_law_355 : decode cL_law 355 = .ok (.aload_n 1, 1) := by decide +kernel
theorem dL_law_356 : decode cL_law 356 = .ok (.aload_n 0, 1) := by decide +kernel
theorem dL_law_357 : decode cL_law 357 = .ok (.iload_n 3, 1) := by decide +kernel
theorem dL_law_358 : decode cL_law 358 = .ok (.iconst 1, 1) := by decide +kernel
theorem dL_law_359 : decode cL_law 359 = .ok (.iadd, 1) := by decide +kernel
theorem dL_law_360 : decode cL_law 360 = .ok (.iaload, 1) := by decide +kernel
theorem dL_law_361 : decode cL_law 361 = .ok (.aload_n 0, 1) := by decide +kernel
theorem dL_law_362 : decode cL_law 362 = .ok (.iload_n 3, 1) := by decide +kernel
theorem dL_law_363 : decode cL_law 363 = .ok (.iconst 2, 1) := by decide +kernel
theorem dL_law_364 : decode cL_law 364 = .ok (.iadd, 1) := by decide +kernel
theorem dL_law_365 : decode cL_law 365 = .ok (.iaload, 1) := by decide +kernel
theorem dL_law_366 : decode cL_law 366 = .ok (.aload_n 0, 1) := by decide +kernel
theorem dL_law_367 : decode cL_law 367 = .ok (.iload_n 3, 1) := by decide +kernel
theorem dL_law_368 : decode cL_law 368 = .ok (.iconst 3, 1) := by decide +kernel
theorem dL_law_369 : decode cL_law 369 = .ok (.iadd, 1) := by decide +kernel
theorem dL_law_370 : decode cL_law 370 = .ok (.iaload, 1) := by decide +kernel
theorem dL_law_371 : decode cL_law 371 = .ok (.invokevirtual 52, 3) := by decide +kernel
theorem dL_law_374 : decode cL_law 374 = .ok (.aload_n 2, 1) := by decide +kernel
theorem dL_law_375 : decode cL_law 375 = .ok (.aload_n 0, 1) := by decide +kernel
theorem dL_law_376 : decode cL_law 376 = .ok (.iload_n 3, 1) := by decide +kernel
theorem dL_law_377 : decode cL_law 377 = .ok (.iconst 1, 1) := by decide +kernel
theorem dL_law_378 : decode cL_law 378 = .ok (.iadd, 1) := by decide +kernel
theorem dL_law_379 : decode cL_law 379 = .ok (.iaload, 1) := by decide +kernel
theorem dL_law_380 : decode cL_law 380 = .ok (.aload_n 0, 1) := by decide +kernel
theorem dL_law_381 : decode cL_law 381 = .ok (.iload_n 3, 1) := by decide +kernel
theorem dL_law_382 : decode cL_law 382 = .ok (.iconst 2, 1) := by decide +kernel
theorem dL_law_383 : decode cL_law 383 = .ok (.iadd, 1) := by decide +kernel
theorem dL_law_384 : decode cL_law 384 = .ok (.iaload, 1) := by decide +kernel
theorem dL_law_385 : decode cL_law 385 = .ok (.aload_n 0, 1) := by decide +kernel
theorem dL_law_386 : decode cL_law 386 = .ok (.iload_n 3, 1) := by decide +kernel
theorem dL_law_387 : decode cL_law 387 = .ok (.iconst 3, 1) := by decide +kernel
theorem dL_law_388 : decode cL_law 388 = .ok (.iadd, 1) := by decide +kernel
theorem dL_law_389 : decode cL_law 389 = .ok (.iaload, 1) := by decide +kernel
theorem dL_law_390 : decode cL_law 390 = .ok (.invokevirtual 56, 3) := by decide +kernel
theorem dL_law_393 : decode cL_law 393 = .ok (.if_icmp .eq 362, 3) := by decide +kernel
theorem dL_law_396 : decode cL_law 396 = .ok (.iconst 0, 1) := by decide +kernel
theorem dL_law_397 : decode cL_law 397 = .ok (.ireturn, 1) := by decide +kernel
theorem dL_law_398 : decode cL_law 398 = .ok (.aload_n 1, 1) := by decide +kernel
theorem dL_law_399 : decode cL_law 399 = .ok (.aload_n 0, 1) := by decide +kernel
theorem dL_law_400 : decode cL_law 400 = .ok (.iload_n 3, 1) := by decide +kernel
theorem dL_law_401 : decode cL_law 401 = .ok (.iconst 1, 1) := by decide +kernel
theorem dL_law_402 : decode cL_law 402 = .ok (.iadd, 1) := by decide +kernel
theorem dL_law_403 : decode cL_law 403 = .ok (.iaload, 1) := by decide +kernel
theorem dL_law_404 : decode cL_law 404 = .ok (.aload_n 0, 1) := by decide +kernel
theorem dL_law_405 : decode cL_law 405 = .ok (.iload_n 3, 1) := by decide +kernel
theorem dL_law_406 : decode cL_law 406 = .ok (.iconst 2, 1) := by decide +kernel
theorem dL_law_407 : decode cL_law 407 = .ok (.iadd, 1) := by decide +kernel
theorem dL_law_408 : decode cL_law 408 = .ok (.iaload, 1) := by decide +kernel
theorem dL_law_409 : decode cL_law 409 = .ok (.invokevirtual 57, 3) := by decide +kernel
theorem dL_law_412 : decode cL_law 412 = .ok (.aload_n 2, 1) := by decide +kernel
theorem dL_law_413 : decode cL_law 413 = .ok (.aload_n 0, 1) := by decide +kernel
theorem dL_law_414 : decode cL_law 414 = .ok (.iload_n 3, 1) := by decide +kernel
theorem dL_law_415 : decode cL_law 415 = .ok (.iconst 1, 1) := by decide +kernel
theorem dL_law_416 : decode cL_law 416 = .ok (.iadd, 1) := by decide +kernel
theorem dL_law_417 : decode cL_law 417 = .ok (.iaload, 1) := by decide +kernel
theorem dL_law_418 : decode cL_law 418 = .ok (.aload_n 0, 1) := by decide +kernel
theorem dL_law_419 : decode cL_law 419 = .ok (.iload_n 3, 1) := by decide +kernel
theorem dL_law_420 : decode cL_law 420 = .ok (.iconst 2, 1) := by decide +kernel
theorem dL_law_421 : decode cL_law 421 = .ok (.iadd, 1) := by decide +kernel
theorem dL_law_422 : decode cL_law 422 = .ok (.iaload, 1) := by decide +kernel
theorem dL_law_423 : decode cL_law 423 = .ok (.invokevirtual 60, 3) := by decide +kernel
theorem dL_law_426 : decode cL_law 426 = .ok (.if_icmp .eq 329, 3) := by decide +kernel
theorem dL_law_429 : decode cL_law 429 = .ok (.iconst 0, 1) := by decide +kernel
theorem dL_law_430 : decode cL_law 430 = .ok (.ireturn, 1) := by decide +kernel
theorem dL_law_431 : decode cL_law 431 = .ok (.aload_n 1, 1) := by decide +kernel
theorem dL_law_432 : decode cL_law 432 = .ok (.aload_n 0, 1) := by decide +kernel
theorem dL_law_433 : decode cL_law 433 = .ok (.iload_n 3, 1) := by decide +kernel
theorem dL_law_434 : decode cL_law 434 = .ok (.iconst 1, 1) := by decide +kernel
theorem dL_law_435 : decode cL_law 435 = .ok (.iadd, 1) := by decide +kernel
theorem dL_law_436 : decode cL_law 436 = .ok (.iaload, 1) := by decide +kernel
theorem dL_law_437 : decode cL_law 437 = .ok (.aload_n 0, 1) := by decide +kernel
theorem dL_law_438 : decode cL_law 438 = .ok (.iload_n 3, 1) := by decide +kernel
theorem dL_law_439 : decode cL_law 439 = .ok (.iconst 2, 1) := by decide +kernel
theorem dL_law_440 : decode cL_law 440 = .ok (.iadd, 1) := by decide +kernel
theorem dL_law_441 : decode cL_law 441 = .ok (.iaload, 1) := by decide +kernel
theorem dL_law_442 : decode cL_law 442 = .ok (.invokevirtual 61, 3) := by decide +kernel
theorem dL_law_445 : decode cL_law 445 = .ok (.aload_n 2, 1) := by decide +kernel
theorem dL_law_446 : decode cL_law 446 = .ok (.aload_n 0, 1) := by decide +kernel
theorem dL_law_447 : decode cL_law 447 = .ok (.iload_n 3, 1) := by decide +kernel
theorem dL_law_448 : decode cL_law 448 = .ok (.iconst 1, 1) := by decide +kernel
theorem dL_law_449 : decode cL_law 449 = .ok (.iadd, 1) := by decide +kernel
theorem dL_law_450 : decode cL_law 450 = .ok (.iaload, 1) := by decide +kernel
theorem dL_law_451 : decode cL_law 451 = .ok (.aload_n 0, 1) := by decide +kernel
theorem dL_law_452 : decode cL_law 452 = .ok (.iload_n 3, 1) := by decide +kernel
theorem dL_law_453 : decode cL_law 453 = .ok (.iconst 2, 1) := by decide +kernel
theorem dL_law_454 : decode cL_law 454 = .ok (.iadd, 1) := by decide +kernel
theorem dL_law_455 : decode cL_law 455 = .ok (.iaload, 1) := by decide +kernel
theorem dL_law_456 : decode cL_law 456 = .ok (.invokevirtual 64, 3) := by decide +kernel
theorem dL_law_459 : decode cL_law 459 = .ok (.if_icmp .eq 296, 3) := by decide +kernel
theorem dL_law_462 : decode cL_law 462 = .ok (.iconst 0, 1) := by decide +kernel
theorem dL_law_463 : decode cL_law 463 = .ok (.ireturn, 1) := by decide +kernel
theorem dL_law_464 : decode cL_law 464 = .ok (.aload_n 1, 1) := by decide +kernel
theorem dL_law_465 : decode cL_law 465 = .ok (.invokevirtual 65, 3) := by decide +kernel
theorem dL_law_468 : decode cL_law 468 = .ok (.aload_n 2, 1) := by decide +kernel
theorem dL_law_469 : decode cL_law 469 = .ok (.invokevirtual 68, 3) := by decide +kernel
theorem dL_law_472 : decode cL_law 472 = .ok (.if_icmp .eq 283, 3) := by decide +kernel
theorem dL_law_475 : decode cL_law 475 = .ok (.iconst 0, 1) := by decide +kernel
theorem dL_law_476 : decode cL_law 476 = .ok (.ireturn, 1) := by decide +kernel
theorem dL_law_477 : decode cL_law 477 = .ok (.aload_n 1, 1) := by decide +kernel
theorem dL_law_478 : decode cL_law 478 = .ok (.invokevirtual 69, 3) := by decide +kernel
theorem dL_law_481 : decode cL_law 481 = .ok (.aload_n 2, 1) := by decide +kernel
theorem dL_law_482 : decode cL_law 482 = .ok (.invokevirtual 72, 3) := by decide +kernel
theorem dL_law_485 : decode cL_law 485 = .ok (.if_icmp .eq 270, 3) := by decide +kernel
theorem dL_law_488 : decode cL_law 488 = .ok (.iconst 0, 1) := by decide +kernel
theorem dL_law_489 : decode cL_law 489 = .ok (.ireturn, 1) := by decide +kernel
theorem dL_law_490 : decode cL_law 490 = .ok (.aload_n 1, 1) := by decide +kernel
theorem dL_law_491 : decode cL_law 491 = .ok (.aload_n 0, 1) := by decide +kernel
theorem dL_law_492 : decode cL_law 492 = .ok (.iload_n 3, 1) := by decide +kernel
theorem dL_law_493 : decode cL_law 493 = .ok (.iconst 1, 1) := by decide +kernel
theorem dL_law_494 : decode cL_law 494 = .ok (.iadd, 1) := by decide +kernel
theorem dL_law_495 : decode cL_law 495 = .ok (.iaload, 1) := by decide +kernel
theorem dL_law_496 : decode cL_law 496 = .ok (.aload_n 0, 1) := by decide +kernel
theorem dL_law_497 : decode cL_law 497 = .ok (.iload_n 3, 1) := by decide +kernel
theorem dL_law_498 : decode cL_law 498 = .ok (.iconst 2, 1) := by decide +kernel
theorem dL_law_499 : decode cL_law 499 = .ok (.iadd, 1) := by decide +kernel
theorem dL_law_500 : decode cL_law 500 = .ok (.iaload, 1) := by decide +kernel
theorem dL_law_501 : decode cL_law 501 = .ok (.invokevirtual 73, 3) := by decide +kernel
theorem dL_law_504 : decode cL_law 504 = .ok (.aload_n 2, 1) := by decide +kernel
theorem dL_law_505 : decode cL_law 505 = .ok (.aload_n 0, 1) := by decide +kernel
theorem dL_law_506 : decode cL_law 506 = .ok (.iload_n 3, 1) := by decide +kernel
theorem dL_law_507 : decode cL_law 507 = .ok (.iconst 1, 1) := by decide +kernel
theorem dL_law_508 : decode cL_law 508 = .ok (.iadd, 1) := by decide +kernel
theorem dL_law_509 : decode cL_law 509 = .ok (.iaload, 1) := by decide +kernel
theorem dL_law_510 : decode cL_law 510 = .ok (.aload_n 0, 1) := by decide +kernel
theorem dL_law_511 : decode cL_law 511 = .ok (.iload_n 3, 1) := by decide +kernel
theorem dL_law_512 : decode cL_law 512 = .ok (.iconst 2, 1) := by decide +kernel
theorem dL_law_513 : decode cL_law 513 = .ok (.iadd, 1) := by decide +kernel
theorem dL_law_514 : decode cL_law 514 = .ok (.iaload, 1) := by decide +kernel
theorem dL_law_515 : decode cL_law 515 = .ok (.invokevirtual 76, 3) := by decide +kernel
theorem dL_law_518 : decode cL_law 518 = .ok (.if_icmp .eq 237, 3) := by decide +kernel
theorem dL_law_521 : decode cL_law 521 = .ok (.iconst 0, 1) := by decide +kernel
theorem dL_law_522 : decode cL_law 522 = .ok (.ireturn, 1) := by decide +kernel
theorem dL_law_523 : decode cL_law 523 = .ok (.aload_n 1, 1) := by decide +kernel
theorem dL_law_524 : decode cL_law 524 = .ok (.aload_n 0, 1) := by decide +kernel
theorem dL_law_525 : decode cL_law 525 = .ok (.iload_n 3, 1) := by decide +kernel
theorem dL_law_526 : decode cL_law 526 = .ok (.iconst 1, 1) := by decide +kernel
theorem dL_law_527 : decode cL_law 527 = .ok (.iadd, 1) := by decide +kernel
theorem dL_law_528 : decode cL_law 528 = .ok (.iaload, 1) := by decide +kernel
theorem dL_law_529 : decode cL_law 529 = .ok (.aload_n 0, 1) := by decide +kernel
theorem dL_law_530 : decode cL_law 530 = .ok (.iload_n 3, 1) := by decide +kernel
theorem dL_law_531 : decode cL_law 531 = .ok (.iconst 2, 1) := by decide +kernel
theorem dL_law_532 : decode cL_law 532 = .ok (.iadd, 1) := by decide +kernel
theorem dL_law_533 : decode cL_law 533 = .ok (.iaload, 1) := by decide +kernel
theorem dL_law_534 : decode cL_law 534 = .ok (.invokevirtual 77, 3) := by decide +kernel
theorem dL_law_537 : decode cL_law 537 = .ok (.aload_n 2, 1) := by decide +kernel
theorem dL_law_538 : decode cL_law 538 = .ok (.aload_n 0, 1) := by decide +kernel
theorem dL_law_539 : decode cL_law 539 = .ok (.iload_n 3, 1) := by decide +kernel
theorem dL_law_540 : decode cL_law 540 = .ok (.iconst 1, 1) := by decide +kernel
theorem dL_law_541 : decode cL_law 541 = .ok (.iadd, 1) := by decide +kernel
theorem dL_law_542 : decode cL_law 542 = .ok (.iaload, 1) := by decide +kernel
theorem dL_law_543 : decode cL_law 543 = .ok (.aload_n 0, 1) := by decide +kernel
theorem dL_law_544 : decode cL_law 544 = .ok (.iload_n 3, 1) := by decide +kernel
theorem dL_law_545 : decode cL_law 545 = .ok (.iconst 2, 1) := by decide +kernel
theorem dL_law_546 : decode cL_law 546 = .ok (.iadd, 1) := by decide +kernel
theorem dL_law_547 : decode cL_law 547 = .ok (.iaload, 1) := by decide +kernel
theorem dL_law_548 : decode cL_law 548 = .ok (.invokevirtual 81, 3) := by decide +kernel
theorem dL_law_551 : decode cL_law 551 = .ok (.lcmp, 1) := by decide +kernel
theorem dL_law_552 : decode cL_law 552 = .ok (.ifCond .eq 203, 3) := by decide +kernel
theorem dL_law_555 : decode cL_law 555 = .ok (.iconst 0, 1) := by decide +kernel
theorem dL_law_556 : decode cL_law 556 = .ok (.ireturn, 1) := by decide +kernel
theorem dL_law_557 : decode cL_law 557 = .ok (.aload_n 1, 1) := by decide +kernel
theorem dL_law_558 : decode cL_law 558 = .ok (.aload_n 0, 1) := by decide +kernel
theorem dL_law_559 : decode cL_law 559 = .ok (.iload_n 3, 1) := by decide +kernel
theorem dL_law_560 : decode cL_law 560 = .ok (.iconst 1, 1) := by decide +kernel
theorem dL_law_561 : decode cL_law 561 = .ok (.iadd, 1) := by decide +kernel
theorem dL_law_562 : decode cL_law 562 = .ok (.iaload, 1) := by decide +kernel
theorem dL_law_563 : decode cL_law 563 = .ok (.aload_n 0, 1) := by decide +kernel
theorem dL_law_564 : decode cL_law 564 = .ok (.iload_n 3, 1) := by decide +kernel
theorem dL_law_565 : decode cL_law 565 = .ok (.iconst 2, 1) := by decide +kernel
theorem dL_law_566 : decode cL_law 566 = .ok (.iadd, 1) := by decide +kernel
theorem dL_law_567 : decode cL_law 567 = .ok (.iaload, 1) := by decide +kernel
theorem dL_law_568 : decode cL_law 568 = .ok (.invokevirtual 82, 3) := by decide +kernel
theorem dL_law_571 : decode cL_law 571 = .ok (.aload_n 2, 1) := by decide +kernel
theorem dL_law_572 : decode cL_law 572 = .ok (.aload_n 0, 1) := by decide +kernel
theorem dL_law_573 : decode cL_law 573 = .ok (.iload_n 3, 1) := by decide +kernel
theorem dL_law_574 : decode cL_law 574 = .ok (.iconst 1, 1) := by decide +kernel
theorem dL_law_575 : decode cL_law 575 = .ok (.iadd, 1) := by decide +kernel
theorem dL_law_576 : decode cL_law 576 = .ok (.iaload, 1) := by decide +kernel
theorem dL_law_577 : decode cL_law 577 = .ok (.aload_n 0, 1) := by decide +kernel
theorem dL_law_578 : decode cL_law 578 = .ok (.iload_n 3, 1) := by decide +kernel
theorem dL_law_579 : decode cL_law 579 = .ok (.iconst 2, 1) := by decide +kernel
theorem dL_law_580 : decode cL_law 580 = .ok (.iadd, 1) := by decide +kernel
theorem dL_law_581 : decode cL_law 581 = .ok (.iaload, 1) := by decide +kernel
theorem dL_law_582 : decode cL_law 582 = .ok (.invokevirtual 85, 3) := by decide +kernel
theorem dL_law_585 : decode cL_law 585 = .ok (.lcmp, 1) := by decide +kernel
theorem dL_law_586 : decode cL_law 586 = .ok (.ifCond .eq 169, 3) := by decide +kernel
theorem dL_law_589 : decode cL_law 589 = .ok (.iconst 0, 1) := by decide +kernel
theorem dL_law_590 : decode cL_law 590 = .ok (.ireturn, 1) := by decide +kernel
theorem dL_law_591 : decode cL_law 591 = .ok (.aload_n 1, 1) := by decide +kernel
theorem dL_law_592 : decode cL_law 592 = .ok (.aload_n 0, 1) := by decide +kernel
theorem dL_law_593 : decode cL_law 593 = .ok (.iload_n 3, 1) := by decide +kernel
theorem dL_law_594 : decode cL_law 594 = .ok (.iconst 1, 1) := by decide +kernel
theorem dL_law_595 : decode cL_law 595 = .ok (.iadd, 1) := by decide +kernel
theorem dL_law_596 : decode cL_law 596 = .ok (.iaload, 1) := by decide +kernel
theorem dL_law_597 : decode cL_law 597 = .ok (.invokevirtual 86, 3) := by decide +kernel
theorem dL_law_600 : decode cL_law 600 = .ok (.aload_n 2, 1) := by decide +kernel
theorem dL_law_601 : decode cL_law 601 = .ok (.aload_n 0, 1) := by decide +kernel
theorem dL_law_602 : decode cL_law 602 = .ok (.iload_n 3, 1) := by decide +kernel
theorem dL_law_603 : decode cL_law 603 = .ok (.iconst 1, 1) := by decide +kernel
theorem dL_law_604 : decode cL_law 604 = .ok (.iadd, 1) := by decide +kernel
theorem dL_law_605 : decode cL_law 605 = .ok (.iaload, 1) := by decide +kernel
theorem dL_law_606 : decode cL_law 606 = .ok (.invokevirtual 89, 3) := by decide +kernel
theorem dL_law_609 : decode cL_law 609 = .ok (.if_icmp .eq 146, 3) := by decide +kernel
theorem dL_law_612 : decode cL_law 612 = .ok (.iconst 0, 1) := by decide +kernel
theorem dL_law_613 : decode cL_law 613 = .ok (.ireturn, 1) := by decide +kernel
theorem dL_law_614 : decode cL_law 614 = .ok (.aload_n 1, 1) := by decide +kernel
theorem dL_law_615 : decode cL_law 615 = .ok (.aload_n 0, 1) := by decide +kernel
theorem dL_law_616 : decode cL_law 616 = .ok (.iload_n 3, 1) := by decide +kernel
theorem dL_law_617 : decode cL_law 617 = .ok (.iconst 1, 1) := by decide +kernel
theorem dL_law_618 : decode cL_law 618 = .ok (.iadd, 1) := by decide +kernel
theorem dL_law_619 : decode cL_law 619 = .ok (.iaload, 1) := by decide +kernel
theorem dL_law_620 : decode cL_law 620 = .ok (.invokevirtual 90, 3) := by decide +kernel
theorem dL_law_623 : decode cL_law 623 = .ok (.aload_n 2, 1) := by decide +kernel
theorem dL_law_624 : decode cL_law 624 = .ok (.aload_n 0, 1) := by decide +kernel
theorem dL_law_625 : decode cL_law 625 = .ok (.iload_n 3, 1) := by decide +kernel
theorem dL_law_626 : decode cL_law 626 = .ok (.iconst 1, 1) := by decide +kernel
theorem dL_law_627 : decode cL_law 627 = .ok (.iadd, 1) := by decide +kernel
theorem dL_law_628 : decode cL_law 628 = .ok (.iaload, 1) := by decide +kernel
theorem dL_law_629 : decode cL_law 629 = .ok (.invokevirtual 93, 3) := by decide +kernel
theorem dL_law_632 : decode cL_law 632 = .ok (.if_icmp .eq 123, 3) := by decide +kernel
theorem dL_law_635 : decode cL_law 635 = .ok (.iconst 0, 1) := by decide +kernel
theorem dL_law_636 : decode cL_law 636 = .ok (.ireturn, 1) := by decide +kernel
theorem dL_law_637 : decode cL_law 637 = .ok (.aload_n 1, 1) := by decide +kernel
theorem dL_law_638 : decode cL_law 638 = .ok (.invokevirtual 94, 3) := by decide +kernel
theorem dL_law_641 : decode cL_law 641 = .ok (.aload_n 2, 1) := by decide +kernel
theorem dL_law_642 : decode cL_law 642 = .ok (.invokevirtual 97, 3) := by decide +kernel
theorem dL_law_645 : decode cL_law 645 = .ok (.if_icmp .eq 110, 3) := by decide +kernel
theorem dL_law_648 : decode cL_law 648 = .ok (.iconst 0, 1) := by decide +kernel
theorem dL_law_649 : decode cL_law 649 = .ok (.ireturn, 1) := by decide +kernel
theorem dL_law_650 : decode cL_law 650 = .ok (.aload_n 1, 1) := by decide +kernel
theorem dL_law_651 : decode cL_law 651 = .ok (.invokevirtual 98, 3) := by decide +kernel
theorem dL_law_654 : decode cL_law 654 = .ok (.aload_n 2, 1) := by decide +kernel
theorem dL_law_655 : decode cL_law 655 = .ok (.invokevirtual 101, 3) := by decide +kernel
theorem dL_law_658 : decode cL_law 658 = .ok (.if_icmp .eq 97, 3) := by decide +kernel
theorem dL_law_661 : decode cL_law 661 = .ok (.iconst 0, 1) := by decide +kernel
theorem dL_law_662 : decode cL_law 662 = .ok (.ireturn, 1) := by decide +kernel
theorem dL_law_663 : decode cL_law 663 = .ok (.aload_n 1, 1) := by decide +kernel
theorem dL_law_664 : decode cL_law 664 = .ok (.aload_n 0, 1) := by decide +kernel
theorem dL_law_665 : decode cL_law 665 = .ok (.iload_n 3, 1) := by decide +kernel
theorem dL_law_666 : decode cL_law 666 = .ok (.iconst 1, 1) := by decide +kernel
theorem dL_law_667 : decode cL_law 667 = .ok (.iadd, 1) := by decide +kernel
theorem dL_law_668 : decode cL_law 668 = .ok (.iaload, 1) := by decide +kernel
theorem dL_law_669 : decode cL_law 669 = .ok (.aload_n 0, 1) := by decide +kernel
theorem dL_law_670 : decode cL_law 670 = .ok (.iload_n 3, 1) := by decide +kernel
theorem dL_law_671 : decode cL_law 671 = .ok (.iconst 2, 1) := by decide +kernel
theorem dL_law_672 : decode cL_law 672 = .ok (.iadd, 1) := by decide +kernel
theorem dL_law_673 : decode cL_law 673 = .ok (.iaload, 1) := by decide +kernel
theorem dL_law_674 : decode cL_law 674 = .ok (.aload_n 0, 1) := by decide +kernel
theorem dL_law_675 : decode cL_law 675 = .ok (.iload_n 3, 1) := by decide +kernel
theorem dL_law_676 : decode cL_law 676 = .ok (.iconst 3, 1) := by decide +kernel
theorem dL_law_677 : decode cL_law 677 = .ok (.iadd, 1) := by decide +kernel
theorem dL_law_678 : decode cL_law 678 = .ok (.iaload, 1) := by decide +kernel
theorem dL_law_679 : decode cL_law 679 = .ok (.invokevirtual 102, 3) := by decide +kernel
theorem dL_law_682 : decode cL_law 682 = .ok (.aload_n 2, 1) := by decide +kernel
theorem dL_law_683 : decode cL_law 683 = .ok (.aload_n 0, 1) := by decide +kernel
theorem dL_law_684 : decode cL_law 684 = .ok (.iload_n 3, 1) := by decide +kernel
theorem dL_law_685 : decode cL_law 685 = .ok (.iconst 1, 1) := by decide +kernel
theorem dL_law_686 : decode cL_law 686 = .ok (.iadd, 1) := by decide +kernel
theorem dL_law_687 : decode cL_law 687 = .ok (.iaload, 1) := by decide +kernel
theorem dL_law_688 : decode cL_law 688 = .ok (.aload_n 0, 1) := by decide +kernel
theorem dL_law_689 : decode cL_law 689 = .ok (.iload_n 3, 1) := by decide +kernel
theorem dL_law_690 : decode cL_law 690 = .ok (.iconst 2, 1) := by decide +kernel
theorem dL_law_691 : decode cL_law 691 = .ok (.iadd, 1) := by decide +kernel
theorem dL_law_692 : decode cL_law 692 = .ok (.iaload, 1) := by decide +kernel
theorem dL_law_693 : decode cL_law 693 = .ok (.aload_n 0, 1) := by decide +kernel
theorem dL_law_694 : decode cL_law 694 = .ok (.iload_n 3, 1) := by decide +kernel
theorem dL_law_695 : decode cL_law 695 = .ok (.iconst 3, 1) := by decide +kernel
theorem dL_law_696 : decode cL_law 696 = .ok (.iadd, 1) := by decide +kernel
theorem dL_law_697 : decode cL_law 697 = .ok (.iaload, 1) := by decide +kernel
theorem dL_law_698 : decode cL_law 698 = .ok (.invokevirtual 105, 3) := by decide +kernel
theorem dL_law_701 : decode cL_law 701 = .ok (.if_icmp .eq 54, 3) := by decide +kernel
theorem dL_law_704 : decode cL_law 704 = .ok (.iconst 0, 1) := by decide +kernel
theorem dL_law_705 : decode cL_law 705 = .ok (.ireturn, 1) := by decide +kernel
theorem dL_law_706 : decode cL_law 706 = .ok (.aload_n 1, 1) := by decide +kernel
theorem dL_law_707 : decode cL_law 707 = .ok (.invokevirtual 106, 3) := by decide +kernel
theorem dL_law_710 : decode cL_law 710 = .ok (.aload_n 2, 1) := by decide +kernel
theorem dL_law_711 : decode cL_law 711 = .ok (.invokevirtual 109, 3) := by decide +kernel
theorem dL_law_714 : decode cL_law 714 = .ok (.if_icmp .eq 41, 3) := by decide +kernel
theorem dL_law_717 : decode cL_law 717 = .ok (.iconst 0, 1) := by decide +kernel
theorem dL_law_718 : decode cL_law 718 = .ok (.ireturn, 1) := by decide +kernel
theorem dL_law_719 : decode cL_law 719 = .ok (.aload_n 1, 1) := by decide +kernel
theorem dL_law_720 : decode cL_law 720 = .ok (.invokevirtual 110, 3) := by decide +kernel
theorem dL_law_723 : decode cL_law 723 = .ok (.aload_n 2, 1) := by decide +kernel
theorem dL_law_724 : decode cL_law 724 = .ok (.invokevirtual 113, 3) := by decide +kernel
theorem dL_law_727 : decode cL_law 727 = .ok (.if_icmp .eq 28, 3) := by decide +kernel
theorem dL_law_730 : decode cL_law 730 = .ok (.iconst 0, 1) := by decide +kernel
theorem dL_law_731 : decode cL_law 731 = .ok (.ireturn, 1) := by decide +kernel
theorem dL_law_732 : decode cL_law 732 = .ok (.aload_n 1, 1) := by decide +kernel
theorem dL_law_733 : decode cL_law 733 = .ok (.aload_n 0, 1) := by decide +kernel
theorem dL_law_734 : decode cL_law 734 = .ok (.iload_n 3, 1) := by decide +kernel
theorem dL_law_735 : decode cL_law 735 = .ok (.iconst 1, 1) := by decide +kernel
theorem dL_law_736 : decode cL_law 736 = .ok (.iadd, 1) := by decide +kernel
theorem dL_law_737 : decode cL_law 737 = .ok (.iaload, 1) := by decide +kernel
theorem dL_law_738 : decode cL_law 738 = .ok (.invokevirtual 114, 3) := by decide +kernel
theorem dL_law_741 : decode cL_law 741 = .ok (.aload_n 2, 1) := by decide +kernel
theorem dL_law_742 : decode cL_law 742 = .ok (.aload_n 0, 1) := by decide +kernel
theorem dL_law_743 : decode cL_law 743 = .ok (.iload_n 3, 1) := by decide +kernel
theorem dL_law_744 : decode cL_law 744 = .ok (.iconst 1, 1) := by decide +kernel
theorem dL_law_745 : decode cL_law 745 = .ok (.iadd, 1) := by decide +kernel
theorem dL_law_746 : decode cL_law 746 = .ok (.iaload, 1) := by decide +kernel
theorem dL_law_747 : decode cL_law 747 = .ok (.invokevirtual 117, 3) := by decide +kernel
theorem dL_law_750 : decode cL_law 750 = .ok (.if_icmp .eq 5, 3) := by decide +kernel
theorem dL_law_753 : decode cL_law 753 = .ok (.iconst 0, 1) := by decide +kernel
theorem dL_law_754 : decode cL_law 754 = .ok (.ireturn, 1) := by decide +kernel
theorem dL_law_755 : decode cL_law 755 = .ok (.iinc 3 4, 3) := by decide +kernel
theorem dL_law_758 : decode cL_law 758 = .ok (.goto (-740), 3) := by decide +kernel
theorem dL_law_761 : decode cL_law 761 = .ok (.iconst 1, 1) := by decide +kernel
theorem dL_law_762 : decode cL_law 762 = .ok (.ireturn, 1) := by decide +kernel
