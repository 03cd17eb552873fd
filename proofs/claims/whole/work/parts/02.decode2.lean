theorem dX10_readsOne_43 : decode cX10_readsOne 43 = .ok (.iconst 0, 1) := by decide +kernel
theorem dX10_readsOne_44 : decode cX10_readsOne 44 = .ok (.ireturn, 1) := by decide +kernel
theorem dX10_readsOne_45 : decode cX10_readsOne 45 = .ok (.aload_n 0, 1) := by decide +kernel
theorem dX10_readsOne_46 : decode cX10_readsOne 46 = .ok (.getfield 166, 3) := by decide +kernel
theorem dX10_readsOne_49 : decode cX10_readsOne 49 = .ok (.ifCond .ge 36, 3) := by decide +kernel
theorem dX10_readsOne_52 : decode cX10_readsOne 52 = .ok (.aload_n 0, 1) := by decide +kernel
theorem dX10_readsOne_53 : decode cX10_readsOne 53 = .ok (.getfield 169, 3) := by decide +kernel
theorem dX10_readsOne_56 : decode cX10_readsOne 56 = .ok (.bipush 40, 2) := by decide +kernel
theorem dX10_readsOne_58 : decode cX10_readsOne 58 = .ok (.if_icmp .eq 19, 3) := by decide +kernel
theorem dX10_readsOne_61 : decode cX10_readsOne 61 = .ok (.iload_n 1, 1) := by decide +kernel
theorem dX10_readsOne_62 : decode cX10_readsOne 62 = .ok (.invokestatic 172, 3) := by decide +kernel
theorem dX10_readsOne_65 : decode cX10_readsOne 65 = .ok (.ifCond .eq 20, 3) := by decide +kernel
theorem dX10_readsOne_68 : decode cX10_readsOne 68 = .ok (.aload_n 0, 1) := by decide +kernel
theorem dX10_readsOne_69 : decode cX10_readsOne 69 = .ok (.getfield 175, 3) := by decide +kernel
theorem dX10_readsOne_72 : decode cX10_readsOne 72 = .ok (.bipush 10, 2) := by decide +kernel
theorem dX10_readsOne_74 : decode cX10_readsOne 74 = .ok (.if_icmp .ne 11, 3) := by decide +kernel
theorem dX10_readsOne_77 : decode cX10_readsOne 77 = .ok (.aload_n 0, 1) := by decide +kernel
theorem dX10_readsOne_78 : decode cX10_readsOne 78 = .ok (.aload_n 0, 1) := by decide +kernel
theorem dX10_readsOne_79 : decode cX10_readsOne 79 = .ok (.getfield 159, 3) := by decide +kernel
theorem dX10_readsOne_82 : decode cX10_readsOne 82 = .ok (.putfield 166, 3) := by decide +kernel
theorem dX10_readsOne_85 : decode cX10_readsOne 85 = .ok (.aload_n 0, 1) := by decide +kernel
theorem dX10_readsOne_86 : decode cX10_readsOne 86 = .ok (.dup, 1) := by decide +kernel
theorem dX10_readsOne_87 : decode cX10_readsOne 87 = .ok (.getfield 169, 3) := by decide +kernel
theorem dX10_readsOne_90 : decode cX10_readsOne 90 = .ok (.iconst 1, 1) := by decide +kernel
theorem dX10_readsOne_91 : decode cX10_readsOne 91 = .ok (.iadd, 1) := by decide +kernel
theorem dX10_readsOne_92 : decode cX10_readsOne 92 = .ok (.putfield 169, 3) := by decide +kernel
theorem dX10_readsOne_95 : decode cX10_readsOne 95 = .ok (.aload_n 0, 1) := by decide +kernel
theorem dX10_readsOne_96 : decode cX10_readsOne 96 = .ok (.dup, 1) := by decide +kernel
theorem dX10_readsOne_97 : decode cX10_readsOne 97 = .ok (.getfield 175, 3) := by decide +kernel
theorem dX10_readsOne_100 : decode cX10_readsOne 100 = .ok (.iload_n 1, 1) := by decide +kernel
theorem dX10_readsOne_101 : decode cX10_readsOne 101 = .ok (.invokestatic 172, 3) := by decide +kernel
theorem dX10_readsOne_104 : decode cX10_readsOne 104 = .ok (.ifCond .eq 7, 3) := by decide +kernel
theorem dX10_readsOne_107 : decode cX10_readsOne 107 = .ok (.iconst 1, 1) := by decide +kernel
theorem dX10_readsOne_108 : decode cX10_readsOne 108 = .ok (.goto 4, 3) := by decide +kernel
theorem dX10_readsOne_111 : decode cX10_readsOne 111 = .ok (.iconst 0, 1) := by decide +kernel
theorem dX10_readsOne_112 : decode cX10_readsOne 112 = .ok (.iadd, 1) := by decide +kernel
theorem dX10_readsOne_113 : decode cX10_readsOne 113 = .ok (.putfield 175, 3) := by decide +kernel
theorem dX10_readsOne_116 : decode cX10_readsOne 116 = .ok (.iconst 1, 1) := by decide +kernel
theorem dX10_readsOne_117 : decode cX10_readsOne 117 = .ok (.ireturn, 1) := by decide +kernel
theorem dX10_reads_0 : decode cX10_reads 0 = .ok (.aload_n 0, 1) := by decide +kernel
theorem dX10_reads_1 : decode cX10_reads 1 = .ok (.iconst 0, 1) := by decide +kernel
theorem dX10_reads_2 : decode cX10_reads 2 = .ok (.putfield 159, 3) := by decide +kernel
theorem dX10_reads_5 : decode cX10_reads 5 = .ok (.aload_n 0, 1) := by decide +kernel
theorem dX10_reads_6 : decode cX10_reads 6 = .ok (.iconst (-1), 1) := by decide +kernel
theorem dX10_reads_7 : decode cX10_reads 7 = .ok (.putfield 166, 3) := by decide +kernel
theorem dX10_reads_10 : decode cX10_reads 10 = .ok (.aload_n 0, 1) := by decide +kernel
theorem dX10_reads_11 : decode cX10_reads 11 = .ok (.iconst 0, 1) := by decide +kernel
theorem dX10_reads_12 : decode cX10_reads 12 = .ok (.putfield 149, 3) := by decide +kernel
theorem dX10_reads_15 : decode cX10_reads 15 = .ok (.aload_n 0, 1) := by decide +kernel
theorem dX10_reads_16 : decode cX10_reads 16 = .ok (.iconst 0, 1) := by decide +kernel
theorem dX10_reads_17 : decode cX10_reads 17 = .ok (.putfield 169, 3) := by decide +kernel
theorem dX10_reads_20 : decode cX10_reads 20 = .ok (.aload_n 0, 1) := by decide +kernel
theorem dX10_reads_21 : decode cX10_reads 21 = .ok (.iconst 0, 1) := by decide +kernel
theorem dX10_reads_22 : decode cX10_reads 22 = .ok (.putfield 175, 3) := by decide +kernel
theorem dX10_reads_25 : decode cX10_reads 25 = .ok (.aload_n 0, 1) := by decide +kernel
theorem dX10_reads_26 : decode cX10_reads 26 = .ok (.bipush 101, 2) := by decide +kernel
theorem dX10_reads_28 : decode cX10_reads 28 = .ok (.invokevirtual 152, 3) := by decide +kernel
theorem dX10_reads_31 : decode cX10_reads 31 = .ok (.aload_n 0, 1) := by decide +kernel
theorem dX10_reads_32 : decode cX10_reads 32 = .ok (.getfield 149, 3) := by decide +kernel
theorem dX10_reads_35 : decode cX10_reads 35 = .ok (.ifCond .le 64, 3) := by decide +kernel
theorem dX10_reads_38 : decode cX10_reads 38 = .ok (.aload_n 0, 1) := by decide +kernel
theorem dX10_reads_39 : decode cX10_reads 39 = .ok (.dup, 1) := by decide +kernel
theorem dX10_reads_40 : decode cX10_reads 40 = .ok (.getfield 149, 3) := by decide +kernel
theorem dX10_reads_43 : decode cX10_reads 43 = .ok (.iconst 1, 1) := by decide +kernel
theorem dX10_reads_44 : decode cX10_reads 44 = .ok (.isub, 1) := by decide +kernel
theorem dX10_reads_45 : decode cX10_reads 45 = .ok (.putfield 149, 3) := by decide +kernel
theorem dX10_reads_48 : decode cX10_reads 48 = .ok (.aload_n 0, 1) := by decide +kernel
theorem dX10_reads_49 : decode cX10_reads 49 = .ok (.getfield 159, 3) := by decide +kernel
theorem dX10_reads_52 : decode cX10_reads 52 = .ok (.aload_n 0, 1) := by decide +kernel
theorem dX10_reads_53 : decode cX10_reads 53 = .ok (.getfield 142, 3) := by decide +kernel
theorem dX10_reads_56 : decode cX10_reads 56 = .ok (.if_icmp .eq 28, 3) := by decide +kernel
theorem dX10_reads_59 : decode cX10_reads 59 = .ok (.aload_n 0, 1) := by decide +kernel
theorem dX10_reads_60 : decode cX10_reads 60 = .ok (.aload_n 0, 1) := by decide +kernel
theorem dX10_reads_61 : decode cX10_reads 61 = .ok (.getfield 28, 3) := by decide +kernel
theorem dX10_reads_64 : decode cX10_reads 64 = .ok (.aload_n 0, 1) := by decide +kernel
theorem dX10_reads_65 : decode cX10_reads 65 = .ok (.getfield 159, 3) := by decide +kernel
theorem dX10_reads_68 : decode cX10_reads 68 = .ok (.iaload, 1) := by decide +kernel
theorem dX10_reads_69 : decode cX10_reads 69 = .ok (.aload_n 0, 1) := by decide +kernel
theorem dX10_reads_70 : decode cX10_reads 70 = .ok (.getfield 40, 3) := by decide +kernel
theorem dX10_reads_73 : decode cX10_reads 73 = .ok (.aload_n 0, 1) := by decide +kernel
theorem dX10_reads_74 : decode cX10_reads 74 = .ok (.getfield 149, 3) := by decide +kernel
theorem dX10_reads_77 : decode cX10_reads 77 = .ok (.iaload, 1) := by decide +kernel
theorem dX10_reads_78 : decode cX10_reads 78 = .ok (.invokevirtual 178, 3) := by decide +kernel
theorem dX10_reads_81 : decode cX10_reads 81 = .ok (.ifCond .ne 5, 3) := by decide +kernel
theorem dX10_reads_84 : decode cX10_reads 84 = .ok (.iconst 0, 1) := by decide +kernel
theorem dX10_reads_85 : decode cX10_reads 85 = .ok (.ireturn, 1) := by decide +kernel
theorem dX10_reads_86 : decode cX10_reads 86 = .ok (.aload_n 0, 1) := by decide +kernel
theorem dX10_reads_87 : decode cX10_reads 87 = .ok (.dup, 1) := by decide +kernel
theorem dX10_reads_88 : decode cX10_reads 88 = .ok (.getfield 159, 3) := by decide +kernel
theorem dX10_reads_91 : decode cX10_reads 91 = .ok (.iconst 1, 1) := by decide +kernel
theorem dX10_reads_92 : decode cX10_reads 92 = .ok (.iadd, 1) := by decide +kernel
theorem dX10_reads_93 : decode cX10_reads 93 = .ok (.putfield 159, 3) := by decide +kernel
theorem dX10_reads_96 : decode cX10_reads 96 = .ok (.goto (-65), 3) := by decide +kernel
theorem dX10_reads_99 : decode cX10_reads 99 = .ok (.aload_n 0, 1) := by decide +kernel
theorem dX10_reads_100 : decode cX10_reads 100 = .ok (.getfield 159, 3) := by decide +kernel
theorem dX10_reads_103 : decode cX10_reads 103 = .ok (.aload_n 0, 1) := by decide +kernel
theorem dX10_reads_104 : decode cX10_reads 104 = .ok (.getfield 142, 3) := by decide +kernel
theorem dX10_reads_107 : decode cX10_reads 107 = .ok (.if_icmp .ne 7, 3) := by decide +kernel
theorem dX10_reads_110 : decode cX10_reads 110 = .ok (.iconst 1, 1) := by decide +kernel
theorem dX10_reads_111 : decode cX10_reads 111 = .ok (.goto 4, 3) := by decide +kernel
theorem dX10_reads_114 : decode cX10_reads 114 = .ok (.iconst 0, 1) := by decide +kernel
theorem dX10_reads_115 : decode cX10_reads 115 = .ok (.ireturn, 1) := by decide +kernel
theorem dX10_pops_0 : decode cX10_pops 0 = .ok (.aload_n 0, 1) := by decide +kernel
theorem dX10_pops_1 : decode cX10_pops 1 = .ok (.dup, 1) := by decide +kernel
theorem dX10_pops_2 : decode cX10_pops 2 = .ok (.getfield 182, 3) := by decide +kernel
theorem dX10_pops_5 : decode cX10_pops 5 = .ok (.iconst 1, 1) := by decide +kernel
theorem dX10_pops_6 : decode cX10_pops 6 = .ok (.isub, 1) := by decide +kernel
theorem dX10_pops_7 : decode cX10_pops 7 = .ok (.putfield 182, 3) := by decide +kernel
theorem dX10_pops_10 : decode cX10_pops 10 = .ok (.aload_n 0, 1) := by decide +kernel
theorem dX10_pops_11 : decode cX10_pops 11 = .ok (.getfield 43, 3) := by decide +kernel
theorem dX10_pops_14 : decode cX10_pops 14 = .ok (.aload_n 0, 1) := by decide +kernel
theorem dX10_pops_15 : decode cX10_pops 15 = .ok (.getfield 182, 3) := by decide +kernel
theorem dX10_pops_18 : decode cX10_pops 18 = .ok (.iaload, 1) := by decide +kernel
theorem dX10_pops_19 : decode cX10_pops 19 = .ok (.ireturn, 1) := by decide +kernel
theorem dX10_buildsOne_0 : decode cX10_buildsOne 0 = .ok (.aload_n 0, 1) := by decide +kernel
theorem dX10_buildsOne_1 : decode cX10_buildsOne 1 = .ok (.getfield 13, 3) := by decide +kernel
theorem dX10_buildsOne_4 : decode cX10_buildsOne 4 = .ok (.iload_n 2, 1) := by decide +kernel
theorem dX10_buildsOne_5 : decode cX10_buildsOne 5 = .ok (.iload_n 1, 1) := by decide +kernel
theorem dX10_buildsOne_6 : decode cX10_buildsOne 6 = .ok (.iastore, 1) := by decide +kernel
theorem dX10_buildsOne_7 : decode cX10_buildsOne 7 = .ok (.iload_n 1, 1) := by decide +kernel
theorem dX10_buildsOne_8 : decode cX10_buildsOne 8 = .ok (.bipush 76, 2) := by decide +kernel
theorem dX10_buildsOne_10 : decode cX10_buildsOne 10 = .ok (.if_icmp .eq 15, 3) := by decide +kernel
theorem dX10_buildsOne_13 : decode cX10_buildsOne 13 = .ok (.iload_n 1, 1) := by decide +kernel
theorem dX10_buildsOne_14 : decode cX10_buildsOne 14 = .ok (.bipush 83, 2) := by decide +kernel
theorem dX10_buildsOne_16 : decode cX10_buildsOne 16 = .ok (.if_icmp .eq 9, 3) := by decide +kernel
theorem dX10_buildsOne_19 : decode cX10_buildsOne 19 = .ok (.iload_n 1, 1) := by decide +kernel
theorem dX10_buildsOne_20 : decode cX10_buildsOne 20 = .ok (.bipush 70, 2) := by decide +kernel
theorem dX10_buildsOne_22 : decode cX10_buildsOne 22 = .ok (.if_icmp .ne 13, 3) := by decide +kernel
theorem dX10_buildsOne_25 : decode cX10_buildsOne 25 = .ok (.aload_n 0, 1) := by decide +kernel
theorem dX10_buildsOne_26 : decode cX10_buildsOne 26 = .ok (.getfield 25, 3) := by decide +kernel
theorem dX10_buildsOne_29 : decode cX10_buildsOne 29 = .ok (.iload_n 2, 1) := by decide +kernel
theorem dX10_buildsOne_30 : decode cX10_buildsOne 30 = .ok (.aload_n 0, 1) := by decide +kernel
theorem dX10_buildsOne_31 : decode cX10_buildsOne 31 = .ok (.invokevirtual 185, 3) := by decide +kernel
theorem dX10_buildsOne_34 : decode cX10_buildsOne 34 = .ok (.iastore, 1) := by decide +kernel
theorem dX10_buildsOne_35 : decode cX10_buildsOne 35 = .ok (.iload_n 1, 1) := by decide +kernel
theorem dX10_buildsOne_36 : decode cX10_buildsOne 36 = .ok (.bipush 48, 2) := by decide +kernel
theorem dX10_buildsOne_38 : decode cX10_buildsOne 38 = .ok (.bipush 57, 2) := by decide +kernel
theorem dX10_buildsOne_40 : decode cX10_buildsOne 40 = .ok (.invokestatic 134, 3) := by decide +kernel
theorem dX10_buildsOne_43 : decode cX10_buildsOne 43 = .ok (.ifCond .ne 14, 3) := by decide +kernel
theorem dX10_buildsOne_46 : decode cX10_buildsOne 46 = .ok (.iload_n 1, 1) := by decide +kernel
theorem dX10_buildsOne_47 : decode cX10_buildsOne 47 = .ok (.bipush 97, 2) := by decide +kernel
theorem dX10_buildsOne_49 : decode cX10_buildsOne 49 = .ok (.bipush 102, 2) := by decide +kernel
theorem dX10_buildsOne_51 : decode cX10_buildsOne 51 = .ok (.invokestatic 134, 3) := by decide +kernel
theorem dX10_buildsOne_54 : decode cX10_buildsOne 54 = .ok (.ifCond .eq 4, 3) := by decide +kernel
theorem dX10_buildsOne_57 : decode cX10_buildsOne 57 = .ok (.return_, 1) := by decide +kernel
theorem dX10_buildsOne_58 : decode cX10_buildsOne 58 = .ok (.aload_n 0, 1) := by decide +kernel
theorem dX10_buildsOne_59 : decode cX10_buildsOne 59 = .ok (.getfield 16, 3) := by decide +kernel
theorem dX10_buildsOne_62 : decode cX10_buildsOne 62 = .ok (.iload_n 2, 1) := by decide +kernel
theorem dX10_buildsOne_63 : decode cX10_buildsOne 63 = .ok (.aload_n 0, 1) := by decide +kernel
theorem dX10_buildsOne_64 : decode cX10_buildsOne 64 = .ok (.invokevirtual 185, 3) := by decide +kernel
theorem dX10_buildsOne_67 : decode cX10_buildsOne 67 = .ok (.iastore, 1) := by decide +kernel
theorem dX10_buildsOne_68 : decode cX10_buildsOne 68 = .ok (.iload_n 1, 1) := by decide +kernel
theorem dX10_buildsOne_69 : decode cX10_buildsOne 69 = .ok (.bipush 89, 2) := by decide +kernel
theorem dX10_buildsOne_71 : decode cX10_buildsOne 71 = .ok (.if_icmp .ne 13, 3) := by decide +kernel
theorem dX10_buildsOne_74 : decode cX10_buildsOne 74 = .ok (.aload_n 0, 1) := by decide +kernel
theorem dX10_buildsOne_75 : decode cX10_buildsOne 75 = .ok (.getfield 25, 3) := by decide +kernel
theorem dX10_buildsOne_78 : decode cX10_buildsOne 78 = .ok (.iload_n 2, 1) := by decide +kernel
theorem dX10_buildsOne_79 : decode cX10_buildsOne 79 = .ok (.aload_n 0, 1) := by decide +kernel
theorem dX10_buildsOne_80 : decode cX10_buildsOne 80 = .ok (.invokevirtual 185, 3) := by decide +kernel
theorem dX10_buildsOne_83 : decode cX10_buildsOne 83 = .ok (.iastore, 1) := by decide +kernel
theorem dX10_buildsOne_84 : decode cX10_buildsOne 84 = .ok (.iload_n 1, 1) := by decide +kernel
theorem dX10_buildsOne_85 : decode cX10_buildsOne 85 = .ok (.bipush 76, 2) := by decide +kernel
theorem dX10_buildsOne_87 : decode cX10_buildsOne 87 = .ok (.if_icmp .eq 17, 3) := by decide +kernel
theorem dX10_buildsOne_90 : decode cX10_buildsOne 90 = .ok (.iload_n 1, 1) := by decide +kernel
theorem dX10_buildsOne_91 : decode cX10_buildsOne 91 = .ok (.bipush 89, 2) := by decide +kernel
theorem dX10_buildsOne_93 : decode cX10_buildsOne 93 = .ok (.if_icmp .eq 11, 3) := by decide +kernel
theorem dX10_buildsOne_96 : decode cX10_buildsOne 96 = .ok (.iload_n 1, 1) := by decide +kernel
theorem dX10_buildsOne_97 : decode cX10_buildsOne 97 = .ok (.invokestatic 156, 3) := by decide +kernel
theorem dX10_buildsOne_100 : decode cX10_buildsOne 100 = .ok (.iconst 1, 1) := by decide +kernel
theorem dX10_buildsOne_101 : decode cX10_buildsOne 101 = .ok (.if_icmp .le 13, 3) := by decide +kernel
theorem dX10_buildsOne_104 : decode cX10_buildsOne 104 = .ok (.aload_n 0, 1) := by decide +kernel
theorem dX10_buildsOne_105 : decode cX10_buildsOne 105 = .ok (.getfield 19, 3) := by decide +kernel
theorem dX10_buildsOne_108 : decode cX10_buildsOne 108 = .ok (.iload_n 2, 1) := by decide +kernel
theorem dX10_buildsOne_109 : decode cX10_buildsOne 109 = .ok (.aload_n 0, 1) := by decide +kernel
theorem dX10_buildsOne_110 : decode cX10_buildsOne 110 = .ok (.invokevirtual 185, 3) := by decide +kernel
theorem dX10_buildsOne_113 : decode cX10_buildsOne 113 = .ok (.iastore, 1) := by decide +kernel
theorem dX10_buildsOne_114 : decode cX10_buildsOne 114 = .ok (.iload_n 1, 1) := by decide +kernel
theorem dX10_buildsOne_115 : decode cX10_buildsOne 115 = .ok (.bipush 63, 2) := by decide +kernel
theorem dX10_buildsOne_117 : decode cX10_buildsOne 117 = .ok (.if_icmp .ne 13, 3) := by decide +kernel
theorem dX10_buildsOne_120 : decode cX10_buildsOne 120 = .ok (.aload_n 0, 1) := by decide +kernel
theorem dX10_buildsOne_121 : decode cX10_buildsOne 121 = .ok (.getfield 22, 3) := by decide +kernel
theorem dX10_buildsOne_124 : decode cX10_buildsOne 124 = .ok (.iload_n 2, 1) := by decide +kernel
theorem dX10_buildsOne_125 : decode cX10_buildsOne 125 = .ok (.aload_n 0, 1) := by decide +kernel
theorem dX10_buildsOne_126 : decode cX10_buildsOne 126 = .ok (.invokevirtual 185, 3) := by decide +kernel
theorem dX10_buildsOne_129 : decode cX10_buildsOne 129 = .ok (.iastore, 1) := by decide +kernel
theorem dX10_buildsOne_130 : decode cX10_buildsOne 130 = .ok (.iload_n 1, 1) := by decide +kernel
theorem dX10_buildsOne_131 : decode cX10_buildsOne 131 = .ok (.invokestatic 172, 3) := by decide +kernel
theorem dX10_buildsOne_134 : decode cX10_buildsOne 134 = .ok (.ifCond .ne 4, 3) := by decide +kernel
theorem dX10_buildsOne_137 : decode cX10_buildsOne 137 = .ok (.return_, 1) := by decide +kernel
theorem dX10_buildsOne_138 : decode cX10_buildsOne 138 = .ok (.aload_n 0, 1) := by decide +kernel
theorem dX10_buildsOne_139 : decode cX10_buildsOne 139 = .ok (.dup, 1) := by decide +kernel
theorem dX10_buildsOne_140 : decode cX10_buildsOne 140 = .ok (.getfield 189, 3) := by decide +kernel
theorem dX10_buildsOne_143 : decode cX10_buildsOne 143 = .ok (.iconst 1, 1) := by decide +kernel
theorem dX10_buildsOne_144 : decode cX10_buildsOne 144 = .ok (.isub, 1) := by decide +kernel
theorem dX10_buildsOne_145 : decode cX10_buildsOne 145 = .ok (.putfield 189, 3) := by decide +kernel
theorem dX10_buildsOne_148 : decode cX10_buildsOne 148 = .ok (.aload_n 0, 1) := by decide +kernel
theorem dX10_buildsOne_149 : decode cX10_buildsOne 149 = .ok (.getfield 25, 3) := by decide +kernel
theorem dX10_buildsOne_152 : decode cX10_buildsOne 152 = .ok (.iload_n 2, 1) := by decide +kernel
theorem dX10_buildsOne_153 : decode cX10_buildsOne 153 = .ok (.aload_n 0, 1) := by decide +kernel
theorem dX10_buildsOne_154 : decode cX10_buildsOne 154 = .ok (.getfield 189, 3) := by decide +kernel
theorem dX10_buildsOne_157 : decode cX10_buildsOne 157 = .ok (.iastore, 1) := by decide +kernel
theorem dX10_buildsOne_158 : decode cX10_buildsOne 158 = .ok (.return_, 1) := by decide +kernel
theorem dX10_builds_0 : decode cX10_builds 0 = .ok (.aload_n 0, 1) := by decide +kernel
theorem dX10_builds_1 : decode cX10_builds 1 = .ok (.aload_n 0, 1) := by decide +kernel
theorem dX10_builds_2 : decode cX10_builds 2 = .ok (.getfield 192, 3) := by decide +kernel
theorem dX10_builds_5 : decode cX10_builds 5 = .ok (.putfield 189, 3) := by decide +kernel
theorem dX10_builds_8 : decode cX10_builds 8 = .ok (.aload_n 0, 1) := by decide +kernel
theorem dX10_builds_9 : decode cX10_builds 9 = .ok (.iconst 0, 1) := by decide +kernel
theorem dX10_builds_10 : decode cX10_builds 10 = .ok (.putfield 182, 3) := by decide +kernel
theorem dX10_builds_13 : decode cX10_builds 13 = .ok (.iconst 0, 1) := by decide +kernel
theorem dX10_builds_14 : decode cX10_builds 14 = .ok (.istore_n 1, 1) := by decide +kernel
theorem dX10_builds_15 : decode cX10_builds 15 = .ok (.aload_n 0, 1) := by decide +kernel
theorem dX10_builds_16 : decode cX10_builds 16 = .ok (.getfield 122, 3) := by decide +kernel
theorem dX10_builds_19 : decode cX10_builds 19 = .ok (.iconst 1, 1) := by decide +kernel
theorem dX10_builds_20 : decode cX10_builds 20 = .ok (.isub, 1) := by decide +kernel
theorem dX10_builds_21 : decode cX10_builds 21 = .ok (.istore_n 2, 1) := by decide +kernel
theorem dX10_builds_22 : decode cX10_builds 22 = .ok (.iload_n 2, 1) := by decide +kernel
theorem dX10_builds_23 : decode cX10_builds 23 = .ok (.ifCond .lt 71, 3) := by decide +kernel
theorem dX10_builds_26 : decode cX10_builds 26 = .ok (.aload_n 0, 1) := by decide +kernel
theorem dX10_builds_27 : decode cX10_builds 27 = .ok (.getfield 31, 3) := by decide +kernel
theorem dX10_builds_30 : decode cX10_builds 30 = .ok (.iload_n 2, 1) := by decide +kernel
theorem dX10_builds_31 : decode cX10_builds 31 = .ok (.iaload, 1) := by decide +kernel
theorem dX10_builds_32 : decode cX10_builds 32 = .ok (.istore_n 3, 1) := by decide +kernel
theorem dX10_builds_33 : decode cX10_builds 33 = .ok (.aload_n 0, 1) := by decide +kernel
theorem dX10_builds_34 : decode cX10_builds 34 = .ok (.getfield 34, 3) := by decide +kernel
theorem dX10_builds_37 : decode cX10_builds 37 = .ok (.iload_n 2, 1) := by decide +kernel
theorem dX10_builds_38 : decode cX10_builds 38 = .ok (.iaload, 1) := by decide +kernel
theorem dX10_builds_39 : decode cX10_builds 39 = .ok (.iconst 1, 1) := by decide +kernel
theorem dX10_builds_40 : decode cX10_builds 40 = .ok (.if_icmp .ne 19, 3) := by decide +kernel
theorem dX10_builds_43 : decode cX10_builds 43 = .ok (.aload_n 0, 1) := by decide +kernel
theorem dX10_builds_44 : decode cX10_builds 44 = .ok (.getfield 43, 3) := by decide +kernel
theorem dX10_builds_47 : decode cX10_builds 47 = .ok (.aload_n 0, 1) := by decide +kernel
theorem dX10_builds_48 : decode cX10_builds 48 = .ok (.getfield 182, 3) := by decide +kernel
theorem dX10_builds_51 : decode cX10_builds 51 = .ok (.iload_n 3, 1) := by decide +kernel
theorem dX10_builds_52 : decode cX10_builds 52 = .ok (.bipush 97, 2) := by decide +kernel
theorem dX10_builds_54 : decode cX10_builds 54 = .ok (.isub, 1) := by decide +kernel
theorem dX10_builds_55 : decode cX10_builds 55 = .ok (.iastore, 1) := by decide +kernel
theorem dX10_builds_56 : decode cX10_builds 56 = .ok (.goto 22, 3) := by decide +kernel
theorem dX10_builds_59 : decode cX10_builds 59 = .ok (.aload_n 0, 1) := by decide +kernel
theorem dX10_builds_60 : decode cX10_builds 60 = .ok (.iload_n 3, 1) := by decide +kernel
theorem dX10_builds_61 : decode cX10_builds 61 = .ok (.iload_n 1, 1) := by decide +kernel
theorem dX10_builds_62 : decode cX10_builds 62 = .ok (.invokevirtual 195, 3) := by decide +kernel
theorem dX10_builds_65 : decode cX10_builds 65 = .ok (.aload_n 0, 1) := by decide +kernel
theorem dX10_builds_66 : decode cX10_builds 66 = .ok (.getfield 43, 3) := by decide +kernel
theorem dX10_builds_69 : decode cX10_builds 69 = .ok (.aload_n 0, 1) := by decide +kernel
theorem dX10_builds_70 : decode cX10_builds 70 = .ok (.getfield 182, 3) := by decide +kernel
theorem dX10_builds_73 : decode cX10_builds 73 = .ok (.iload_n 1, 1) := by decide +kernel
theorem dX10_builds_74 : decode cX10_builds 74 = .ok (.iastore, 1) := by decide +kernel
theorem dX10_builds_75 : decode cX10_builds 75 = .ok (.iinc 1 1, 3) := by decide +kernel
theorem dX10_builds_78 : decode cX10_builds 78 = .ok (.aload_n 0, 1) := by decide +kernel
theorem dX10_builds_79 : decode cX10_builds 79 = .ok (.dup, 1) := by decide +kernel
theorem dX10_builds_80 : decode cX10_builds 80 = .ok (.getfield 182, 3) := by decide +kernel
theorem dX10_builds_83 : decode cX10_builds 83 = .ok (.iconst 1, 1) := by decide +kernel
theorem dX10_builds_84 : decode cX10_builds 84 = .ok (.iadd, 1) := by decide +kernel
theorem dX10_builds_85 : decode cX10_builds 85 = .ok (.putfield 182, 3) := by decide +kernel
theorem dX10_builds_88 : decode cX10_builds 88 = .ok (.iinc 2 (-1), 3) := by decide +kernel
theorem dX10_builds_91 : decode cX10_builds 91 = .ok (.goto (-69), 3) := by decide +kernel
theorem dX10_builds_94 : decode cX10_builds 94 = .ok (.aload_n 0, 1) := by decide +kernel
theorem dX10_builds_95 : decode cX10_builds 95 = .ok (.aload_n 0, 1) := by decide +kernel
theorem dX10_builds_96 : decode cX10_builds 96 = .ok (.invokevirtual 185, 3) := by decide +kernel
theorem dX10_builds_99 : decode cX10_builds 99 = .ok (.putfield 199, 3) := by decide +kernel
theorem dX10_builds_102 : decode cX10_builds 102 = .ok (.return_, 1) := by decide +kernel
theorem dX10_program_0 : decode cX10_program 0 = .ok (.aload_n 0, 1) := by decide +kernel
theorem dX10_program_1 : decode cX10_program 1 = .ok (.invokevirtual 202, 3) := by decide +kernel
theorem dX10_program_4 : decode cX10_program 4 = .ok (.istore_n 1, 1) := by decide +kernel
theorem dX10_program_5 : decode cX10_program 5 = .ok (.aload_n 0, 1) := by decide +kernel
theorem dX10_program_6 : decode cX10_program 6 = .ok (.getfield 142, 3) := by decide +kernel
theorem dX10_program_9 : decode cX10_program 9 = .ok (.istore_n 2, 1) := by decide +kernel
theorem dX10_program_10 : decode cX10_program 10 = .ok (.aload_n 0, 1) := by decide +kernel
theorem dX10_program_11 : decode cX10_program 11 = .ok (.iconst 0, 1) := by decide +kernel
theorem dX10_program_12 : decode cX10_program 12 = .ok (.putfield 142, 3) := by decide +kernel
theorem dX10_program_15 : decode cX10_program 15 = .ok (.iload_n 1, 1) := by decide +kernel
theorem dX10_program_16 : decode cX10_program 16 = .ok (.ifCond .ne 12, 3) := by decide +kernel
theorem dX10_program_19 : decode cX10_program 19 = .ok (.sipush (-1000), 3) := by decide +kernel
theorem dX10_program_22 : decode cX10_program 22 = .ok (.aload_n 0, 1) := by decide +kernel
theorem dX10_program_23 : decode cX10_program 23 = .ok (.getfield 159, 3) := by decide +kernel
theorem dX10_program_26 : decode cX10_program 26 = .ok (.isub, 1) := by decide +kernel
theorem dX10_program_27 : decode cX10_program 27 = .ok (.ireturn, 1) := by decide +kernel
theorem dX10_program_28 : decode cX10_program 28 = .ok (.aload_n 0, 1) := by decide +kernel
theorem dX10_program_29 : decode cX10_program 29 = .ok (.getfield 166, 3) := by decide +kernel
theorem dX10_program_32 : decode cX10_program 32 = .ok (.ifCond .lt 12, 3) := by decide +kernel
theorem dX10_program_35 : decode cX10_program 35 = .ok (.sipush (-2000), 3) := by decide +kernel
theorem dX10_program_38 : decode cX10_program 38 = .ok (.aload_n 0, 1) := by decide +kernel
theorem dX10_program_39 : decode cX10_program 39 = .ok (.getfield 166, 3) := by decide +kernel
theorem dX10_program_42 : decode cX10_program 42 = .ok (.isub, 1) := by decide +kernel
theorem dX10_program_43 : decode cX10_program 43 = .ok (.ireturn, 1) := by decide +kernel
theorem dX10_program_44 : decode cX10_program 44 = .ok (.iconst 0, 1) := by decide +kernel
theorem dX10_program_45 : decode cX10_program 45 = .ok (.istore_n 3, 1) := by decide +kernel
theorem dX10_program_46 : decode cX10_program 46 = .ok (.iload_n 3, 1) := by decide +kernel
theorem dX10_program_47 : decode cX10_program 47 = .ok (.iload_n 2, 1) := by decide +kernel
theorem dX10_program_48 : decode cX10_program 48 = .ok (.if_icmp .ge 33, 3) := by decide +kernel
theorem dX10_program_51 : decode cX10_program 51 = .ok (.aload_n 0, 1) := by decide +kernel
theorem dX10_program_52 : decode cX10_program 52 = .ok (.getfield 31, 3) := by decide +kernel
theorem dX10_program_55 : decode cX10_program 55 = .ok (.iload_n 3, 1) := by decide +kernel
theorem dX10_program_56 : decode cX10_program 56 = .ok (.aload_n 0, 1) := by decide +kernel
theorem dX10_program_57 : decode cX10_program 57 = .ok (.getfield 28, 3) := by decide +kernel
theorem dX10_program_60 : decode cX10_program 60 = .ok (.iload_n 3, 1) := by decide +kernel
theorem dX10_program_61 : decode cX10_program 61 = .ok (.iaload, 1) := by decide +kernel
theorem dX10_program_62 : decode cX10_program 62 = .ok (.iastore, 1) := by decide +kernel
theorem dX10_program_63 : decode cX10_program 63 = .ok (.aload_n 0, 1) := by decide +kernel
theorem dX10_program_64 : decode cX10_program 64 = .ok (.getfield 34, 3) := by decide +kernel
theorem dX10_program_67 : decode cX10_program 67 = .ok (.iload_n 3, 1) := by decide +kernel
theorem dX10_program_68 : decode cX10_program 68 = .ok (.aload_n 0, 1) := by decide +kernel
theorem dX10_program_69 : decode cX10_program 69 = .ok (.getfield 37, 3) := by decide +kernel
theorem dX10_program_72 : decode cX10_program 72 = .ok (.iload_n 3, 1) := by decide +kernel
theorem dX10_program_73 : decode cX10_program 73 = .ok (.iaload, 1) := by decide +kernel
theorem dX10_program_74 : decode cX10_program 74 = .ok (.iastore, 1) := by decide +kernel
theorem dX10_program_75 : decode cX10_program 75 = .ok (.iinc 3 1, 3) := by decide +kernel
theorem dX10_program_78 : decode cX10_program 78 = .ok (.goto (-32), 3) := by decide +kernel
theorem dX10_program_81 : decode cX10_program 81 = .ok (.aload_n 0, 1) := by decide +kernel
theorem dX10_program_82 : decode cX10_program 82 = .ok (.iload_n 2, 1) := by decide +kernel
theorem dX10_program_83 : decode cX10_program 83 = .ok (.putfield 122, 3) := by decide +kernel
theorem dX10_program_86 : decode cX10_program 86 = .ok (.aload_n 0, 1) := by decide +kernel
theorem dX10_program_87 : decode cX10_program 87 = .ok (.aload_n 0, 1) := by decide +kernel
theorem dX10_program_88 : decode cX10_program 88 = .ok (.getfield 169, 3) := by decide +kernel
theorem dX10_program_91 : decode cX10_program 91 = .ok (.putfield 125, 3) := by decide +kernel
theorem dX10_program_94 : decode cX10_program 94 = .ok (.aload_n 0, 1) := by decide +kernel
theorem dX10_program_95 : decode cX10_program 95 = .ok (.aload_n 0, 1) := by decide +kernel
theorem dX10_program_96 : decode cX10_program 96 = .ok (.getfield 175, 3) := by decide +kernel
theorem dX10_program_99 : decode cX10_program 99 = .ok (.putfield 192, 3) := by decide +kernel
theorem dX10_program_102 : decode cX10_program 102 = .ok (.aload_n 0, 1) := by decide +kernel
theorem dX10_program_103 : decode cX10_program 103 = .ok (.invokevirtual 128, 3) := by decide +kernel
theorem dX10_program_106 : decode cX10_program 106 = .ok (.iconst 0, 1) := by decide +kernel
theorem dX10_program_107 : decode cX10_program 107 = .ok (.istore_n 3, 1) := by decide +kernel
theorem dX10_program_108 : decode cX10_program 108 = .ok (.iload_n 3, 1) := by decide +kernel
theorem dX10_program_109 : decode cX10_program 109 = .ok (.bipush 10, 2) := by decide +kernel
theorem dX10_program_111 : decode cX10_program 111 = .ok (.if_icmp .ge 30, 3) := by decide +kernel
theorem dX10_program_114 : decode cX10_program 114 = .ok (.aload_n 0, 1) := by decide +kernel
theorem dX10_program_115 : decode cX10_program 115 = .ok (.getfield 49, 3) := by decide +kernel
theorem dX10_program_118 : decode cX10_program 118 = .ok (.iload_n 3, 1) := by decide +kernel
theorem dX10_program_119 : decode cX10_program 119 = .ok (.iconst 0, 1) := by decide +kernel
theorem dX10_program_120 : decode cX10_program 120 = .ok (.iastore, 1) := by decide +kernel
theorem dX10_program_121 : decode cX10_program 121 = .ok (.aload_n 0, 1) := by decide +kernel
theorem dX10_program_122 : decode cX10_program 122 = .ok (.getfield 52, 3) := by decide +kernel
theorem dX10_program_125 : decode cX10_program 125 = .ok (.iload_n 3, 1) := by decide +kernel
theorem dX10_program_126 : decode cX10_program 126 = .ok (.iconst 0, 1) := by decide +kernel
theorem dX10_program_127 : decode cX10_program 127 = .ok (.iastore, 1) := by decide +kernel
theorem dX10_program_128 : decode cX10_program 128 = .ok (.aload_n 0, 1) := by decide +kernel
theorem dX10_program_129 : decode cX10_program 129 = .ok (.getfield 55, 3) := by decide +kernel
theorem dX10_program_132 : decode cX10_program 132 = .ok (.iload_n 3, 1) := by decide +kernel
theorem dX10_program_133 : decode cX10_program 133 = .ok (.iconst 0, 1) := by decide +kernel
theorem dX10_program_134 : decode cX10_program 134 = .ok (.iastore, 1) := by decide +kernel
theorem dX10_program_135 : decode cX10_program 135 = .ok (.iinc 3 1, 3) := by decide +kernel
theorem dX10_program_138 : decode cX10_program 138 = .ok (.goto (-30), 3) := by decide +kernel
theorem dX10_program_141 : decode cX10_program 141 = .ok (.aload_n 0, 1) := by decide +kernel
theorem dX10_program_142 : decode cX10_program 142 = .ok (.bipush (-9), 2) := by decide +kernel
theorem dX10_program_144 : decode cX10_program 144 = .ok (.putfield 61, 3) := by decide +kernel
theorem dX10_program_147 : decode cX10_program 147 = .ok (.aload_n 0, 1) := by decide +kernel
theorem dX10_program_148 : decode cX10_program 148 = .ok (.iconst 0, 1) := by decide +kernel
theorem dX10_program_149 : decode cX10_program 149 = .ok (.putfield 206, 3) := by decide +kernel
theorem dX10_program_152 : decode cX10_program 152 = .ok (.aload_n 0, 1) := by decide +kernel
theorem dX10_program_153 : decode cX10_program 153 = .ok (.getfield 125, 3) := by decide +kernel
theorem dX10_program_156 : decode cX10_program 156 = .ok (.ireturn, 1) := by decide +kernel
theorem dX10_valueOf_0 : decode cX10_valueOf 0 = .ok (.aload_n 0, 1) := by decide +kernel
theorem dX10_valueOf_1 : decode cX10_valueOf 1 = .ok (.getfield 65, 3) := by decide +kernel
theorem dX10_valueOf_4 : decode cX10_valueOf 4 = .ok (.aload_n 0, 1) := by decide +kernel
theorem dX10_valueOf_5 : decode cX10_valueOf 5 = .ok (.getfield 209, 3) := by decide +kernel
theorem dX10_valueOf_8 : decode cX10_valueOf 8 = .ok (.iload_n 1, 1) := by decide +kernel
theorem dX10_valueOf_9 : decode cX10_valueOf 9 = .ok (.iastore, 1) := by decide +kernel
theorem dX10_valueOf_10 : decode cX10_valueOf 10 = .ok (.aload_n 0, 1) := by decide +kernel
theorem dX10_valueOf_11 : decode cX10_valueOf 11 = .ok (.getfield 68, 3) := by decide +kernel
theorem dX10_valueOf_14 : decode cX10_valueOf 14 = .ok (.aload_n 0, 1) := by decide +kernel
theorem dX10_valueOf_15 : decode cX10_valueOf 15 = .ok (.getfield 209, 3) := by decide +kernel
theorem dX10_valueOf_18 : decode cX10_valueOf 18 = .ok (.iload_n 2, 1) := by decide +kernel
theorem dX10_valueOf_19 : decode cX10_valueOf 19 = .ok (.iastore, 1) := by decide +kernel
theorem dX10_valueOf_20 : decode cX10_valueOf 20 = .ok (.aload_n 0, 1) := by decide +kernel
theorem dX10_valueOf_21 : decode cX10_valueOf 21 = .ok (.getfield 71, 3) := by decide +kernel
theorem dX10_valueOf_24 : decode cX10_valueOf 24 = .ok (.aload_n 0, 1) := by decide +kernel
theorem dX10_valueOf_25 : decode cX10_valueOf 25 = .ok (.getfield 209, 3) := by decide +kernel
theorem dX10_valueOf_28 : decode cX10_valueOf 28 = .ok (.iload_n 3, 1) := by decide +kernel
theorem dX10_valueOf_29 : decode cX10_valueOf 29 = .ok (.iastore, 1) := by decide +kernel
theorem dX10_valueOf_30 : decode cX10_valueOf 30 = .ok (.aload_n 0, 1) := by decide +kernel
theorem dX10_valueOf_31 : decode cX10_valueOf 31 = .ok (.getfield 74, 3) := by decide +kernel
theorem dX10_valueOf_34 : decode cX10_valueOf 34 = .ok (.aload_n 0, 1) := by decide +kernel
theorem dX10_valueOf_35 : decode cX10_valueOf 35 = .ok (.getfield 209, 3) := by decide +kernel
theorem dX10_valueOf_38 : decode cX10_valueOf 38 = .ok (.iload 4, 2) := by decide +kernel
theorem dX10_valueOf_40 : decode cX10_valueOf 40 = .ok (.iastore, 1) := by decide +kernel
theorem dX10_valueOf_41 : decode cX10_valueOf 41 = .ok (.aload_n 0, 1) := by decide +kernel
theorem dX10_valueOf_42 : decode cX10_valueOf 42 = .ok (.dup, 1) := by decide +kernel
theorem dX10_valueOf_43 : decode cX10_valueOf 43 = .ok (.getfield 209, 3) := by decide +kernel
theorem dX10_valueOf_46 : decode cX10_valueOf 46 = .ok (.iconst 1, 1) := by decide +kernel
theorem dX10_valueOf_47 : decode cX10_valueOf 47 = .ok (.iadd, 1) := by decide +kernel
theorem dX10_valueOf_48 : decode cX10_valueOf 48 = .ok (.putfield 209, 3) := by decide +kernel
theorem dX10_valueOf_51 : decode cX10_valueOf 51 = .ok (.aload_n 0, 1) := by decide +kernel
theorem dX10_valueOf_52 : decode cX10_valueOf 52 = .ok (.getfield 209, 3) := by decide +kernel
theorem dX10_valueOf_55 : decode cX10_valueOf 55 = .ok (.iconst 1, 1) := by decide +kernel
theorem dX10_valueOf_56 : decode cX10_valueOf 56 = .ok (.isub, 1) := by decide +kernel
theorem dX10_valueOf_57 : decode cX10_valueOf 57 = .ok (.ireturn, 1) := by decide +kernel
theorem dX10_frameWith_0 : decode cX10_frameWith 0 = .ok (.aload_n 0, 1) := by decide +kernel
theorem dX10_frameWith_1 : decode cX10_frameWith 1 = .ok (.getfield 77, 3) := by decide +kernel
theorem dX10_frameWith_4 : decode cX10_frameWith 4 = .ok (.aload_n 0, 1) := by decide +kernel
theorem dX10_frameWith_5 : decode cX10_frameWith 5 = .ok (.getfield 212, 3) := by decide +kernel
theorem dX10_frameWith_8 : decode cX10_frameWith 8 = .ok (.iload_n 2, 1) := by decide +kernel
theorem dX10_frameWith_9 : decode cX10_frameWith 9 = .ok (.iastore, 1) := by decide +kernel
theorem dX10_frameWith_10 : decode cX10_frameWith 10 = .ok (.aload_n 0, 1) := by decide +kernel
theorem dX10_frameWith_11 : decode cX10_frameWith 11 = .ok (.getfield 80, 3) := by decide +kernel
theorem dX10_frameWith_14 : decode cX10_frameWith 14 = .ok (.aload_n 0, 1) := by decide +kernel
theorem dX10_frameWith_15 : decode cX10_frameWith 15 = .ok (.getfield 215, 3) := by decide +kernel
theorem dX10_frameWith_18 : decode cX10_frameWith 18 = .ok (.iload_n 1, 1) := by decide +kernel
theorem dX10_frameWith_19 : decode cX10_frameWith 19 = .ok (.iastore, 1) := by decide +kernel
theorem dX10_frameWith_20 : decode cX10_frameWith 20 = .ok (.aload_n 0, 1) := by decide +kernel
theorem dX10_frameWith_21 : decode cX10_frameWith 21 = .ok (.getfield 83, 3) := by decide +kernel
theorem dX10_frameWith_24 : decode cX10_frameWith 24 = .ok (.aload_n 0, 1) := by decide +kernel
theorem dX10_frameWith_25 : decode cX10_frameWith 25 = .ok (.getfield 215, 3) := by decide +kernel
theorem dX10_frameWith_28 : decode cX10_frameWith 28 = .ok (.aload_n 0, 1) := by decide +kernel
theorem dX10_frameWith_29 : decode cX10_frameWith 29 = .ok (.getfield 212, 3) := by decide +kernel
theorem dX10_frameWith_32 : decode cX10_frameWith 32 = .ok (.iastore, 1) := by decide +kernel
theorem dX10_frameWith_33 : decode cX10_frameWith 33 = .ok (.aload_n 0, 1) := by decide +kernel
theorem dX10_frameWith_34 : decode cX10_frameWith 34 = .ok (.getfield 86, 3) := by decide +kernel
theorem dX10_frameWith_37 : decode cX10_frameWith 37 = .ok (.aload_n 0, 1) := by decide +kernel
theorem dX10_frameWith_38 : decode cX10_frameWith 38 = .ok (.getfield 215, 3) := by decide +kernel
theorem dX10_frameWith_41 : decode cX10_frameWith 41 = .ok (.iload_n 3, 1) := by decide +kernel
theorem dX10_frameWith_42 : decode cX10_frameWith 42 = .ok (.iastore, 1) := by decide +kernel
theorem dX10_frameWith_43 : decode cX10_frameWith 43 = .ok (.aload_n 0, 1) := by decide +kernel
theorem dX10_frameWith_44 : decode cX10_frameWith 44 = .ok (.dup, 1) := by decide +kernel
theorem dX10_frameWith_45 : decode cX10_frameWith 45 = .ok (.getfield 212, 3) := by decide +kernel
theorem dX10_frameWith_48 : decode cX10_frameWith 48 = .ok (.iconst 1, 1) := by decide +kernel
theorem dX10_frameWith_49 : decode cX10_frameWith 49 = .ok (.iadd, 1) := by decide +kernel
theorem dX10_frameWith_50 : decode cX10_frameWith 50 = .ok (.putfield 212, 3) := by decide +kernel
theorem dX10_frameWith_53 : decode cX10_frameWith 53 = .ok (.aload_n 0, 1) := by decide +kernel
theorem dX10_frameWith_54 : decode cX10_frameWith 54 = .ok (.dup, 1) := by decide +kernel
theorem dX10_frameWith_55 : decode cX10_frameWith 55 = .ok (.getfield 215, 3) := by decide +kernel
theorem dX10_frameWith_58 : decode cX10_frameWith 58 = .ok (.iconst 1, 1) := by decide +kernel
theorem dX10_frameWith_59 : decode cX10_frameWith 59 = .ok (.iadd, 1) := by decide +kernel
theorem dX10_frameWith_60 : decode cX10_frameWith 60 = .ok (.putfield 215, 3) := by decide +kernel
theorem dX10_frameWith_63 : decode cX10_frameWith 63 = .ok (.aload_n 0, 1) := by decide +kernel
theorem dX10_frameWith_64 : decode cX10_frameWith 64 = .ok (.getfield 215, 3) := by decide +kernel
theorem dX10_frameWith_67 : decode cX10_frameWith 67 = .ok (.iconst 1, 1) := by decide +kernel
theorem dX10_frameWith_68 : decode cX10_frameWith 68 = .ok (.isub, 1) := by decide +kernel
theorem dX10_frameWith_69 : decode cX10_frameWith 69 = .ok (.ireturn, 1) := by decide +kernel
theorem dX10_cellOf_0 : decode cX10_cellOf 0 = .ok (.iload_n 2, 1) := by decide +kernel
theorem dX10_cellOf_1 : decode cX10_cellOf 1 = .ok (.istore_n 3, 1) := by decide +kernel
theorem dX10_cellOf_2 : decode cX10_cellOf 2 = .ok (.iload_n 3, 1) := by decide +kernel
theorem dX10_cellOf_3 : decode cX10_cellOf 3 = .ok (.ifCond .le 23, 3) := by decide +kernel
theorem dX10_cellOf_6 : decode cX10_cellOf 6 = .ok (.aload_n 0, 1) := by decide +kernel
theorem dX10_cellOf_7 : decode cX10_cellOf 7 = .ok (.getfield 80, 3) := by decide +kernel
theorem dX10_cellOf_10 : decode cX10_cellOf 10 = .ok (.iload_n 3, 1) := by decide +kernel
theorem dX10_cellOf_11 : decode cX10_cellOf 11 = .ok (.iaload, 1) := by decide +kernel
theorem dX10_cellOf_12 : decode cX10_cellOf 12 = .ok (.iload_n 1, 1) := by decide +kernel
theorem dX10_cellOf_13 : decode cX10_cellOf 13 = .ok (.if_icmp .eq 13, 3) := by decide +kernel
theorem dX10_cellOf_16 : decode cX10_cellOf 16 = .ok (.aload_n 0, 1) := by decide +kernel
theorem dX10_cellOf_17 : decode cX10_cellOf 17 = .ok (.getfield 86, 3) := by decide +kernel
theorem dX10_cellOf_20 : decode cX10_cellOf 20 = .ok (.iload_n 3, 1) := by decide +kernel
theorem dX10_cellOf_21 : decode cX10_cellOf 21 = .ok (.iaload, 1) := by decide +kernel
theorem dX10_cellOf_22 : decode cX10_cellOf 22 = .ok (.istore_n 3, 1) := by decide +kernel
theorem dX10_cellOf_23 : decode cX10_cellOf 23 = .ok (.goto (-21), 3) := by decide +kernel
theorem dX10_cellOf_26 : decode cX10_cellOf 26 = .ok (.iload_n 3, 1) := by decide +kernel
theorem dX10_cellOf_27 : decode cX10_cellOf 27 = .ok (.ifCond .le 12, 3) := by decide +kernel
theorem dX10_cellOf_30 : decode cX10_cellOf 30 = .ok (.aload_n 0, 1) := by decide +kernel
theorem dX10_cellOf_31 : decode cX10_cellOf 31 = .ok (.getfield 83, 3) := by decide +kernel
theorem dX10_cellOf_34 : decode cX10_cellOf 34 = .ok (.iload_n 3, 1) := by decide +kernel
theorem dX10_cellOf_35 : decode cX10_cellOf 35 = .ok (.iaload, 1) := by decide +kernel
theorem dX10_cellOf_36 : decode cX10_cellOf 36 = .ok (.goto 5, 3) := by decide +kernel
theorem dX10_cellOf_39 : decode cX10_cellOf 39 = .ok (.bipush (-9), 2) := by decide +kernel
theorem dX10_cellOf_41 : decode cX10_cellOf 41 = .ok (.ireturn, 1) := by decide +kernel
theorem dX10_faultOf_0 : decode cX10_faultOf 0 = .ok (.aload_n 0, 1) := by decide +kernel
theorem dX10_faultOf_1 : decode cX10_faultOf 1 = .ok (.getfield 89, 3) := by decide +kernel
theorem dX10_faultOf_4 : decode cX10_faultOf 4 = .ok (.aload_n 0, 1) := by decide +kernel
theorem dX10_faultOf_5 : decode cX10_faultOf 5 = .ok (.getfield 218, 3) := by decide +kernel
theorem dX10_faultOf_8 : decode cX10_faultOf 8 = .ok (.iload_n 1, 1) := by decide +kernel
theorem dX10_faultOf_9 : decode cX10_faultOf 9 = .ok (.iastore, 1) := by decide +kernel
theorem dX10_faultOf_10 : decode cX10_faultOf 10 = .ok (.aload_n 0, 1) := by decide +kernel
theorem dX10_faultOf_11 : decode cX10_faultOf 11 = .ok (.getfield 92, 3) := by decide +kernel
theorem dX10_faultOf_14 : decode cX10_faultOf 14 = .ok (.aload_n 0, 1) := by decide +kernel
theorem dX10_faultOf_15 : decode cX10_faultOf 15 = .ok (.getfield 218, 3) := by decide +kernel
theorem dX10_faultOf_18 : decode cX10_faultOf 18 = .ok (.iload_n 2, 1) := by decide +kernel
theorem dX10_faultOf_19 : decode cX10_faultOf 19 = .ok (.iastore, 1) := by decide +kernel
theorem dX10_faultOf_20 : decode cX10_faultOf 20 = .ok (.aload_n 0, 1) := by decide +kernel
theorem dX10_faultOf_21 : decode cX10_faultOf 21 = .ok (.dup, 1) := by decide +kernel
theorem dX10_faultOf_22 : decode cX10_faultOf 22 = .ok (.getfield 218, 3) := by decide +kernel
theorem dX10_faultOf_25 : decode cX10_faultOf 25 = .ok (.iconst 1, 1) := by decide +kernel
theorem dX10_faultOf_26 : decode cX10_faultOf 26 = .ok (.iadd, 1) := by decide +kernel
theorem dX10_faultOf_27 : decode cX10_faultOf 27 = .ok (.putfield 218, 3) := by decide +kernel
theorem dX10_faultOf_30 : decode cX10_faultOf 30 = .ok (.aload_n 0, 1) := by decide +kernel
theorem dX10_faultOf_31 : decode cX10_faultOf 31 = .ok (.getfield 218, 3) := by decide +kernel
theorem dX10_faultOf_34 : decode cX10_faultOf 34 = .ok (.iconst 1, 1) := by decide +kernel
theorem dX10_faultOf_35 : decode cX10_faultOf 35 = .ok (.isub, 1) := by decide +kernel
theorem dX10_faultOf_36 : decode cX10_faultOf 36 = .ok (.ireturn, 1) := by decide +kernel
theorem dX10_makes_0 : decode cX10_makes 0 = .ok (.aload_n 0, 1) := by decide +kernel
theorem dX10_makes_1 : decode cX10_makes 1 = .ok (.iconst 0, 1) := by decide +kernel
theorem dX10_makes_2 : decode cX10_makes 2 = .ok (.putfield 221, 3) := by decide +kernel
theorem dX10_makes_5 : decode cX10_makes 5 = .ok (.aload_n 0, 1) := by decide +kernel
theorem dX10_makes_6 : decode cX10_makes 6 = .ok (.iload_n 1, 1) := by decide +kernel
theorem dX10_makes_7 : decode cX10_makes 7 = .ok (.putfield 224, 3) := by decide +kernel
theorem dX10_makes_10 : decode cX10_makes 10 = .ok (.aload_n 0, 1) := by decide +kernel
theorem dX10_makes_11 : decode cX10_makes 11 = .ok (.iload_n 2, 1) := by decide +kernel
theorem dX10_makes_12 : decode cX10_makes 12 = .ok (.putfield 227, 3) := by decide +kernel
theorem dX10_makes_15 : decode cX10_makes 15 = .ok (.aload_n 0, 1) := by decide +kernel
theorem dX10_makes_16 : decode cX10_makes 16 = .ok (.iload_n 3, 1) := by decide +kernel
theorem dX10_makes_17 : decode cX10_makes 17 = .ok (.putfield 230, 3) := by decide +kernel
theorem dX10_makes_20 : decode cX10_makes 20 = .ok (.return_, 1) := by decide +kernel
theorem dX10_has_0 : decode cX10_has 0 = .ok (.aload_n 0, 1) := by decide +kernel
theorem dX10_has_1 : decode cX10_has 1 = .ok (.iconst 1, 1) := by decide +kernel
theorem dX10_has_2 : decode cX10_has 2 = .ok (.putfield 221, 3) := by decide +kernel
theorem dX10_has_5 : decode cX10_has 5 = .ok (.aload_n 0, 1) := by decide +kernel
theorem dX10_has_6 : decode cX10_has 6 = .ok (.iload_n 1, 1) := by decide +kernel
theorem dX10_has_7 : decode cX10_has 7 = .ok (.putfield 233, 3) := by decide +kernel
theorem dX10_has_10 : decode cX10_has 10 = .ok (.return_, 1) := by decide +kernel
theorem dX10_fails_0 : decode cX10_fails 0 = .ok (.aload_n 0, 1) := by decide +kernel
theorem dX10_fails_1 : decode cX10_fails 1 = .ok (.iconst 2, 1) := by decide +kernel
theorem dX10_fails_2 : decode cX10_fails 2 = .ok (.putfield 221, 3) := by decide +kernel
theorem dX10_fails_5 : decode cX10_fails 5 = .ok (.aload_n 0, 1) := by decide +kernel
theorem dX10_fails_6 : decode cX10_fails 6 = .ok (.aload_n 0, 1) := by decide +kernel
theorem dX10_fails_7 : decode cX10_fails 7 = .ok (.iload_n 1, 1) := by decide +kernel
theorem dX10_fails_8 : decode cX10_fails 8 = .ok (.bipush (-9), 2) := by decide +kernel
theorem dX10_fails_10 : decode cX10_fails 10 = .ok (.invokevirtual 236, 3) := by decide +kernel
theorem dX10_fails_13 : decode cX10_fails 13 = .ok (.putfield 240, 3) := by decide +kernel
theorem dX10_fails_16 : decode cX10_fails 16 = .ok (.return_, 1) := by decide +kernel
theorem dX10_waitsFor_0 : decode cX10_waitsFor 0 = .ok (.aload_n 0, 1) := by decide +kernel
theorem dX10_waitsFor_1 : decode cX10_waitsFor 1 = .ok (.getfield 95, 3) := by decide +kernel
theorem dX10_waitsFor_4 : decode cX10_waitsFor 4 = .ok (.aload_n 0, 1) := by decide +kernel
theorem dX10_waitsFor_5 : decode cX10_waitsFor 5 = .ok (.getfield 243, 3) := by decide +kernel
theorem dX10_waitsFor_8 : decode cX10_waitsFor 8 = .ok (.iload_n 1, 1) := by decide +kernel
theorem dX10_waitsFor_9 : decode cX10_waitsFor 9 = .ok (.iastore, 1) := by decide +kernel
theorem dX10_waitsFor_10 : decode cX10_waitsFor 10 = .ok (.aload_n 0, 1) := by decide +kernel
theorem dX10_waitsFor_11 : decode cX10_waitsFor 11 = .ok (.getfield 98, 3) := by decide +kernel
theorem dX10_waitsFor_14 : decode cX10_waitsFor 14 = .ok (.aload_n 0, 1) := by decide +kernel
theorem dX10_waitsFor_15 : decode cX10_waitsFor 15 = .ok (.getfield 243, 3) := by decide +kernel
theorem dX10_waitsFor_18 : decode cX10_waitsFor 18 = .ok (.iconst 0, 1) := by decide +kernel
theorem dX10_waitsFor_19 : decode cX10_waitsFor 19 = .ok (.iastore, 1) := by decide +kernel
theorem dX10_waitsFor_20 : decode cX10_waitsFor 20 = .ok (.aload_n 0, 1) := by decide +kernel
theorem dX10_waitsFor_21 : decode cX10_waitsFor 21 = .ok (.getfield 101, 3) := by decide +kernel
theorem dX10_waitsFor_24 : decode cX10_waitsFor 24 = .ok (.aload_n 0, 1) := by decide +kernel
theorem dX10_waitsFor_25 : decode cX10_waitsFor 25 = .ok (.getfield 243, 3) := by decide +kernel
theorem dX10_waitsFor_28 : decode cX10_waitsFor 28 = .ok (.aload_n 0, 1) := by decide +kernel
theorem dX10_waitsFor_29 : decode cX10_waitsFor 29 = .ok (.getfield 227, 3) := by decide +kernel
theorem dX10_waitsFor_32 : decode cX10_waitsFor 32 = .ok (.iastore, 1) := by decide +kernel
theorem dX10_waitsFor_33 : decode cX10_waitsFor 33 = .ok (.aload_n 0, 1) := by decide +kernel
theorem dX10_waitsFor_34 : decode cX10_waitsFor 34 = .ok (.getfield 104, 3) := by decide +kernel
theorem dX10_waitsFor_37 : decode cX10_waitsFor 37 = .ok (.aload_n 0, 1) := by decide +kernel
theorem dX10_waitsFor_38 : decode cX10_waitsFor 38 = .ok (.getfield 243, 3) := by decide +kernel
theorem dX10_waitsFor_41 : decode cX10_waitsFor 41 = .ok (.aload_n 0, 1) := by decide +kernel
theorem dX10_waitsFor_42 : decode cX10_waitsFor 42 = .ok (.getfield 230, 3) := by decide +kernel
theorem dX10_waitsFor_45 : decode cX10_waitsFor 45 = .ok (.iastore, 1) := by decide +kernel
theorem dX10_waitsFor_46 : decode cX10_waitsFor 46 = .ok (.aload_n 0, 1) := by decide +kernel
theorem dX10_waitsFor_47 : decode cX10_waitsFor 47 = .ok (.dup, 1) := by decide +kernel
theorem dX10_waitsFor_48 : decode cX10_waitsFor 48 = .ok (.getfield 243, 3) := by decide +kernel
theorem dX10_waitsFor_51 : decode cX10_waitsFor 51 = .ok (.iconst 1, 1) := by decide +kernel
theorem dX10_waitsFor_52 : decode cX10_waitsFor 52 = .ok (.iadd, 1) := by decide +kernel
theorem dX10_waitsFor_53 : decode cX10_waitsFor 53 = .ok (.putfield 243, 3) := by decide +kernel
theorem dX10_waitsFor_56 : decode cX10_waitsFor 56 = .ok (.return_, 1) := by decide +kernel
theorem dX10_looksUp_0 : decode cX10_looksUp 0 = .ok (.aload_n 0, 1) := by decide +kernel
theorem dX10_looksUp_1 : decode cX10_looksUp 1 = .ok (.iload_n 1, 1) := by decide +kernel
theorem dX10_looksUp_2 : decode cX10_looksUp 2 = .ok (.aload_n 0, 1) := by decide +kernel
theorem dX10_looksUp_3 : decode cX10_looksUp 3 = .ok (.getfield 227, 3) := by decide +kernel
theorem dX10_looksUp_6 : decode cX10_looksUp 6 = .ok (.invokevirtual 246, 3) := by decide +kernel
theorem dX10_looksUp_9 : decode cX10_looksUp 9 = .ok (.istore_n 2, 1) := by decide +kernel
theorem dX10_looksUp_10 : decode cX10_looksUp 10 = .ok (.aload_n 0, 1) := by decide +kernel
theorem dX10_looksUp_11 : decode cX10_looksUp 11 = .ok (.iload_n 2, 1) := by decide +kernel
theorem dX10_looksUp_12 : decode cX10_looksUp 12 = .ok (.ifCond .ge 19, 3) := by decide +kernel
theorem dX10_looksUp_15 : decode cX10_looksUp 15 = .ok (.aload_n 0, 1) := by decide +kernel
theorem dX10_looksUp_16 : decode cX10_looksUp 16 = .ok (.iconst 0, 1) := by decide +kernel
theorem dX10_looksUp_17 : decode cX10_looksUp 17 = .ok (.aload_n 0, 1) := by decide +kernel
theorem dX10_looksUp_18 : decode cX10_looksUp 18 = .ok (.getfield 46, 3) := by decide +kernel
theorem dX10_looksUp_21 : decode cX10_looksUp 21 = .ok (.iload_n 1, 1) := by decide +kernel
theorem dX10_looksUp_22 : decode cX10_looksUp 22 = .ok (.iaload, 1) := by decide +kernel
theorem dX10_looksUp_23 : decode cX10_looksUp 23 = .ok (.iconst 0, 1) := by decide +kernel
theorem dX10_looksUp_24 : decode cX10_looksUp 24 = .ok (.iconst 0, 1) := by decide +kernel
theorem dX10_looksUp_25 : decode cX10_looksUp 25 = .ok (.invokevirtual 249, 3) := by decide +kernel
theorem dX10_looksUp_28 : decode cX10_looksUp 28 = .ok (.goto 9, 3) := by decide +kernel
theorem dX10_looksUp_31 : decode cX10_looksUp 31 = .ok (.aload_n 0, 1) := by decide +kernel
theorem dX10_looksUp_32 : decode cX10_looksUp 32 = .ok (.getfield 77, 3) := by decide +kernel
theorem dX10_looksUp_35 : decode cX10_looksUp 35 = .ok (.iload_n 2, 1) := by decide +kernel
theorem dX10_looksUp_36 : decode cX10_looksUp 36 = .ok (.iaload, 1) := by decide +kernel
theorem dX10_looksUp_37 : decode cX10_looksUp 37 = .ok (.invokevirtual 253, 3) := by decide +kernel
theorem dX10_looksUp_40 : decode cX10_looksUp 40 = .ok (.return_, 1) := by decide +kernel
theorem dX10_begins_0 : decode cX10_begins 0 = .ok (.aload_n 0, 1) := by decide +kernel
theorem dX10_begins_1 : decode cX10_begins 1 = .ok (.getfield 256, 3) := by decide +kernel
theorem dX10_begins_4 : decode cX10_begins 4 = .ok (.sipush 400, 3) := by decide +kernel
theorem dX10_begins_7 : decode cX10_begins 7 = .ok (.if_icmp .ne 10, 3) := by decide +kernel
theorem dX10_begins_10 : decode cX10_begins 10 = .ok (.aload_n 0, 1) := by decide +kernel
theorem dX10_begins_11 : decode cX10_begins 11 = .ok (.bipush 6, 2) := by decide +kernel
theorem dX10_begins_13 : decode cX10_begins 13 = .ok (.invokevirtual 259, 3) := by decide +kernel
theorem dX10_begins_16 : decode cX10_begins 16 = .ok (.return_, 1) := by decide +kernel
theorem dX10_begins_17 : decode cX10_begins 17 = .ok (.aload_n 0, 1) := by decide +kernel
theorem dX10_begins_18 : decode cX10_begins 18 = .ok (.dup, 1) := by decide +kernel
theorem dX10_begins_19 : decode cX10_begins 19 = .ok (.getfield 256, 3) := by decide +kernel
theorem dX10_begins_22 : decode cX10_begins 22 = .ok (.iconst 1, 1) := by decide +kernel
theorem dX10_begins_23 : decode cX10_begins 23 = .ok (.iadd, 1) := by decide +kernel
theorem dX10_begins_24 : decode cX10_begins 24 = .ok (.putfield 256, 3) := by decide +kernel
theorem dX10_begins_27 : decode cX10_begins 27 = .ok (.aload_n 0, 1) := by decide +kernel
theorem dX10_begins_28 : decode cX10_begins 28 = .ok (.getfield 224, 3) := by decide +kernel
theorem dX10_begins_31 : decode cX10_begins 31 = .ok (.istore_n 1, 1) := by decide +kernel
theorem dX10_begins_32 : decode cX10_begins 32 = .ok (.aload_n 0, 1) := by decide +kernel
theorem dX10_begins_33 : decode cX10_begins 33 = .ok (.getfield 13, 3) := by decide +kernel
theorem dX10_begins_36 : decode cX10_begins 36 = .ok (.iload_n 1, 1) := by decide +kernel
theorem dX10_begins_37 : decode cX10_begins 37 = .ok (.iaload, 1) := by decide +kernel
theorem dX10_begins_38 : decode cX10_begins 38 = .ok (.istore_n 2, 1) := by decide +kernel
theorem dX10_begins_39 : decode cX10_begins 39 = .ok (.iload_n 2, 1) := by decide +kernel
theorem dX10_begins_40 : decode cX10_begins 40 = .ok (.bipush 48, 2) := by decide +kernel
theorem dX10_begins_42 : decode cX10_begins 42 = .ok (.bipush 57, 2) := by decide +kernel
theorem dX10_begins_44 : decode cX10_begins 44 = .ok (.invokestatic 134, 3) := by decide +kernel
theorem dX10_begins_47 : decode cX10_begins 47 = .ok (.ifCond .eq 21, 3) := by decide +kernel
theorem dX10_begins_50 : decode cX10_begins 50 = .ok (.aload_n 0, 1) := by decide +kernel
theorem dX10_begins_51 : decode cX10_begins 51 = .ok (.aload_n 0, 1) := by decide +kernel
theorem dX10_begins_52 : decode cX10_begins 52 = .ok (.iconst 0, 1) := by decide +kernel
theorem dX10_begins_53 : decode cX10_begins 53 = .ok (.iload_n 2, 1) := by decide +kernel
theorem dX10_begins_54 : decode cX10_begins 54 = .ok (.bipush 48, 2) := by decide +kernel
theorem dX10_begins_56 : decode cX10_begins 56 = .ok (.isub, 1) := by decide +kernel
theorem dX10_begins_57 : decode cX10_begins 57 = .ok (.iconst 0, 1) := by decide +kernel
theorem dX10_begins_58 : decode cX10_begins 58 = .ok (.iconst 0, 1) := by decide +kernel
theorem dX10_begins_59 : decode cX10_begins 59 = .ok (.invokevirtual 249, 3) := by decide +kernel
theorem dX10_begins_62 : decode cX10_begins 62 = .ok (.invokevirtual 253, 3) := by decide +kernel
theorem dX10_begins_65 : decode cX10_begins 65 = .ok (.goto 79, 3) := by decide +kernel
theorem dX10_begins_68 : decode cX10_begins 68 = .ok (.iload_n 2, 1) := by decide +kernel
theorem dX10_begins_69 : decode cX10_begins 69 = .ok (.bipush 97, 2) := by decide +kernel
theorem dX10_begins_71 : decode cX10_begins 71 = .ok (.bipush 102, 2) := by decide +kernel
theorem dX10_begins_73 : decode cX10_begins 73 = .ok (.invokestatic 134, 3) := by decide +kernel
theorem dX10_begins_76 : decode cX10_begins 76 = .ok (.ifCond .eq 14, 3) := by decide +kernel
theorem dX10_begins_79 : decode cX10_begins 79 = .ok (.aload_n 0, 1) := by decide +kernel
theorem dX10_begins_80 : decode cX10_begins 80 = .ok (.iload_n 2, 1) := by decide +kernel
theorem dX10_begins_81 : decode cX10_begins 81 = .ok (.bipush 97, 2) := by decide +kernel
theorem dX10_begins_83 : decode cX10_begins 83 = .ok (.isub, 1) := by decide +kernel
theorem dX10_begins_84 : decode cX10_begins 84 = .ok (.invokevirtual 262, 3) := by decide +kernel
theorem dX10_begins_87 : decode cX10_begins 87 = .ok (.goto 57, 3) := by decide +kernel
theorem dX10_begins_90 : decode cX10_begins 90 = .ok (.iload_n 2, 1) := by decide +kernel
theorem dX10_begins_91 : decode cX10_begins 91 = .ok (.bipush 70, 2) := by decide +kernel
theorem dX10_begins_93 : decode cX10_begins 93 = .ok (.if_icmp .ne 31, 3) := by decide +kernel
theorem dX10_begins_96 : decode cX10_begins 96 = .ok (.aload_n 0, 1) := by decide +kernel
theorem dX10_begins_97 : decode cX10_begins 97 = .ok (.aload_n 0, 1) := by decide +kernel
theorem dX10_begins_98 : decode cX10_begins 98 = .ok (.iconst 1, 1) := by decide +kernel
theorem dX10_begins_99 : decode cX10_begins 99 = .ok (.aload_n 0, 1) := by decide +kernel
theorem dX10_begins_100 : decode cX10_begins 100 = .ok (.getfield 25, 3) := by decide +kernel
theorem dX10_begins_103 : decode cX10_begins 103 = .ok (.iload_n 1, 1) := by decide +kernel
theorem dX10_begins_104 : decode cX10_begins 104 = .ok (.iaload, 1) := by decide +kernel
theorem dX10_begins_105 : decode cX10_begins 105 = .ok (.aload_n 0, 1) := by decide +kernel
theorem dX10_begins_106 : decode cX10_begins 106 = .ok (.getfield 16, 3) := by decide +kernel
theorem dX10_begins_109 : decode cX10_begins 109 = .ok (.iload_n 1, 1) := by decide +kernel
theorem dX10_begins_110 : decode cX10_begins 110 = .ok (.iaload, 1) := by decide +kernel
theorem dX10_begins_111 : decode cX10_begins 111 = .ok (.aload_n 0, 1) := by decide +kernel
theorem dX10_begins_112 : decode cX10_begins 112 = .ok (.getfield 227, 3) := by decide +kernel
theorem dX10_begins_115 : decode cX10_begins 115 = .ok (.invokevirtual 249, 3) := by decide +kernel
theorem dX10_begins_118 : decode cX10_begins 118 = .ok (.invokevirtual 253, 3) := by decide +kernel
theorem dX10_begins_121 : decode cX10_begins 121 = .ok (.goto 23, 3) := by decide +kernel
theorem dX10_begins_124 : decode cX10_begins 124 = .ok (.aload_n 0, 1) := by decide +kernel
theorem dX10_begins_125 : decode cX10_begins 125 = .ok (.iload_n 1, 1) := by decide +kernel
theorem dX10_begins_126 : decode cX10_begins 126 = .ok (.invokevirtual 265, 3) := by decide +kernel
theorem dX10_begins_129 : decode cX10_begins 129 = .ok (.aload_n 0, 1) := by decide +kernel
theorem dX10_begins_130 : decode cX10_begins 130 = .ok (.aload_n 0, 1) := by decide +kernel
theorem dX10_begins_131 : decode cX10_begins 131 = .ok (.getfield 16, 3) := by decide +kernel
theorem dX10_begins_134 : decode cX10_begins 134 = .ok (.iload_n 1, 1) := by decide +kernel
theorem dX10_begins_135 : decode cX10_begins 135 = .ok (.iaload, 1) := by decide +kernel
theorem dX10_begins_136 : decode cX10_begins 136 = .ok (.aload_n 0, 1) := by decide +kernel
theorem dX10_begins_137 : decode cX10_begins 137 = .ok (.getfield 227, 3) := by decide +kernel
theorem dX10_begins_140 : decode cX10_begins 140 = .ok (.iconst 0, 1) := by decide +kernel
theorem dX10_begins_141 : decode cX10_begins 141 = .ok (.invokevirtual 268, 3) := by decide +kernel
theorem dX10_begins_144 : decode cX10_begins 144 = .ok (.return_, 1) := by decide +kernel
theorem dX10_reckons_0 : decode cX10_reckons 0 = .ok (.aload_n 0, 1) := by decide +kernel
theorem dX10_reckons_1 : decode cX10_reckons 1 = .ok (.getfield 65, 3) := by decide +kernel
theorem dX10_reckons_4 : decode cX10_reckons 4 = .ok (.iload_n 2, 1) := by decide +kernel
theorem dX10_reckons_5 : decode cX10_reckons 5 = .ok (.iaload, 1) := by decide +kernel
theorem dX10_reckons_6 : decode cX10_reckons 6 = .ok (.ifCond .ne 12, 3) := by decide +kernel
theorem dX10_reckons_9 : decode cX10_reckons 9 = .ok (.aload_n 0, 1) := by decide +kernel
theorem dX10_reckons_10 : decode cX10_reckons 10 = .ok (.getfield 65, 3) := by decide +kernel
theorem dX10_reckons_13 : decode cX10_reckons 13 = .ok (.iload_n 3, 1) := by decide +kernel
theorem dX10_reckons_14 : decode cX10_reckons 14 = .ok (.iaload, 1) := by decide +kernel
theorem dX10_reckons_15 : decode cX10_reckons 15 = .ok (.ifCond .eq 9, 3) := by decide +kernel
theorem dX10_reckons_18 : decode cX10_reckons 18 = .ok (.aload_n 0, 1) := by decide +kernel
theorem dX10_reckons_19 : decode cX10_reckons 19 = .ok (.iconst 1, 1) := by decide +kernel
theorem dX10_reckons_20 : decode cX10_reckons 20 = .ok (.invokevirtual 259, 3) := by decide +kernel
theorem dX10_reckons_23 : decode cX10_reckons 23 = .ok (.return_, 1) := by decide +kernel
theorem dX10_reckons_24 : decode cX10_reckons 24 = .ok (.aload_n 0, 1) := by decide +kernel
theorem dX10_reckons_25 : decode cX10_reckons 25 = .ok (.getfield 68, 3) := by decide +kernel
theorem dX10_reckons_28 : decode cX10_reckons 28 = .ok (.iload_n 2, 1) := by decide +kernel
theorem dX10_reckons_29 : decode cX10_reckons 29 = .ok (.iaload, 1) := by decide +kernel
theorem dX10_reckons_30 : decode cX10_reckons 30 = .ok (.istore 4, 2) := by decide +kernel
theorem dX10_reckons_32 : decode cX10_reckons 32 = .ok (.aload_n 0, 1) := by decide +kernel
theorem dX10_reckons_33 : decode cX10_reckons 33 = .ok (.getfield 68, 3) := by decide +kernel
theorem dX10_reckons_36 : decode cX10_reckons 36 = .ok (.iload_n 3, 1) := by decide +kernel
theorem dX10_reckons_37 : decode cX10_reckons 37 = .ok (.iaload, 1) := by decide +kernel
theorem dX10_reckons_38 : decode cX10_reckons 38 = .ok (.istore 5, 2) := by decide +kernel
theorem dX10_reckons_40 : decode cX10_reckons 40 = .ok (.iload_n 1, 1) := by decide +kernel
theorem dX10_reckons_41 : decode cX10_reckons 41 = .ok (.bipush 43, 2) := by decide +kernel
theorem dX10_reckons_43 : decode cX10_reckons 43 = .ok (.if_icmp .ne 11, 3) := by decide +kernel
theorem dX10_reckons_46 : decode cX10_reckons 46 = .ok (.iload 4, 2) := by decide +kernel
theorem dX10_reckons_48 : decode cX10_reckons 48 = .ok (.iload 5, 2) := by decide +kernel
theorem dX10_reckons_50 : decode cX10_reckons 50 = .ok (.iadd, 1) := by decide +kernel
theorem dX10_reckons_51 : decode cX10_reckons 51 = .ok (.goto 22, 3) := by decide +kernel
theorem dX10_reckons_54 : decode cX10_reckons 54 = .ok (.iload_n 1, 1) := by decide +kernel
theorem dX10_reckons_55 : decode cX10_reckons 55 = .ok (.bipush 45, 2) := by decide +kernel
theorem dX10_reckons_57 : decode cX10_reckons 57 = .ok (.if_icmp .ne 11, 3) := by decide +kernel
theorem dX10_reckons_60 : decode cX10_reckons 60 = .ok (.iload 4, 2) := by decide +kernel
theorem dX10_reckons_62 : decode cX10_reckons 62 = .ok (.iload 5, 2) := by decide +kernel
theorem dX10_reckons_64 : decode cX10_reckons 64 = .ok (.isub, 1) := by decide +kernel
theorem dX10_reckons_65 : decode cX10_reckons 65 = .ok (.goto 8, 3) := by decide +kernel
theorem dX10_reckons_68 : decode cX10_reckons 68 = .ok (.iload 4, 2) := by decide +kernel
theorem dX10_reckons_70 : decode cX10_reckons 70 = .ok (.iload 5, 2) := by decide +kernel
theorem dX10_reckons_72 : decode cX10_reckons 72 = .ok (.imul, 1) := by decide +kernel
theorem dX10_reckons_73 : decode cX10_reckons 73 = .ok (.istore 6, 2) := by decide +kernel
theorem dX10_reckons_75 : decode cX10_reckons 75 = .ok (.iload 6, 2) := by decide +kernel
theorem dX10_reckons_77 : decode cX10_reckons 77 = .ok (.sipush (-9999), 3) := by decide +kernel
theorem dX10_reckons_80 : decode cX10_reckons 80 = .ok (.sipush 9999, 3) := by decide +kernel
theorem dX10_reckons_83 : decode cX10_reckons 83 = .ok (.invokestatic 134, 3) := by decide +kernel
theorem dX10_reckons_86 : decode cX10_reckons 86 = .ok (.ifCond .eq 19, 3) := by decide +kernel
theorem dX10_reckons_89 : decode cX10_reckons 89 = .ok (.aload_n 0, 1) := by decide +kernel
theorem dX10_reckons_90 : decode cX10_reckons 90 = .ok (.aload_n 0, 1) := by decide +kernel
theorem dX10_reckons_91 : decode cX10_reckons 91 = .ok (.iconst 0, 1) := by decide +kernel
theorem dX10_reckons_92 : decode cX10_reckons 92 = .ok (.iload 6, 2) := by decide +kernel
theorem dX10_reckons_94 : decode cX10_reckons 94 = .ok (.iconst 0, 1) := by decide +kernel
theorem dX10_reckons_95 : decode cX10_reckons 95 = .ok (.iconst 0, 1) := by decide +kernel
theorem dX10_reckons_96 : decode cX10_reckons 96 = .ok (.invokevirtual 249, 3) := by decide +kernel
theorem dX10_reckons_99 : decode cX10_reckons 99 = .ok (.invokevirtual 253, 3) := by decide +kernel
theorem dX10_reckons_102 : decode cX10_reckons 102 = .ok (.goto 8, 3) := by decide +kernel
theorem dX10_reckons_105 : decode cX10_reckons 105 = .ok (.aload_n 0, 1) := by decide +kernel
theorem dX10_reckons_106 : decode cX10_reckons 106 = .ok (.iconst 4, 1) := by decide +kernel
theorem dX10_reckons_107 : decode cX10_reckons 107 = .ok (.invokevirtual 259, 3) := by decide +kernel
theorem dX10_reckons_110 : decode cX10_reckons 110 = .ok (.return_, 1) := by decide +kernel
theorem dX10_chooses_0 : decode cX10_chooses 0 = .ok (.aload_n 0, 1) := by decide +kernel
theorem dX10_chooses_1 : decode cX10_chooses 1 = .ok (.getfield 65, 3) := by decide +kernel
theorem dX10_chooses_4 : decode cX10_chooses 4 = .ok (.aload_n 0, 1) := by decide +kernel
theorem dX10_chooses_5 : decode cX10_chooses 5 = .ok (.getfield 233, 3) := by decide +kernel
theorem dX10_chooses_8 : decode cX10_chooses 8 = .ok (.iaload, 1) := by decide +kernel
theorem dX10_chooses_9 : decode cX10_chooses 9 = .ok (.ifCond .eq 11, 3) := by decide +kernel
theorem dX10_chooses_12 : decode cX10_chooses 12 = .ok (.aload_n 0, 1) := by decide +kernel
theorem dX10_chooses_13 : decode cX10_chooses 13 = .ok (.iconst 1, 1) := by decide +kernel
theorem dX10_chooses_14 : decode cX10_chooses 14 = .ok (.invokevirtual 259, 3) := by decide +kernel
theorem dX10_chooses_17 : decode cX10_chooses 17 = .ok (.goto 46, 3) := by decide +kernel
theorem dX10_chooses_20 : decode cX10_chooses 20 = .ok (.aload_n 0, 1) := by decide +kernel
theorem dX10_chooses_21 : decode cX10_chooses 21 = .ok (.aload_n 0, 1) := by decide +kernel
theorem dX10_chooses_22 : decode cX10_chooses 22 = .ok (.getfield 68, 3) := by decide +kernel
theorem dX10_chooses_25 : decode cX10_chooses 25 = .ok (.aload_n 0, 1) := by decide +kernel
theorem dX10_chooses_26 : decode cX10_chooses 26 = .ok (.getfield 233, 3) := by decide +kernel
theorem dX10_chooses_29 : decode cX10_chooses 29 = .ok (.iaload, 1) := by decide +kernel
theorem dX10_chooses_30 : decode cX10_chooses 30 = .ok (.ifCond .eq 12, 3) := by decide +kernel
theorem dX10_chooses_33 : decode cX10_chooses 33 = .ok (.aload_n 0, 1) := by decide +kernel
theorem dX10_chooses_34 : decode cX10_chooses 34 = .ok (.getfield 19, 3) := by decide +kernel
theorem dX10_chooses_37 : decode cX10_chooses 37 = .ok (.iload_n 1, 1) := by decide +kernel
theorem dX10_chooses_38 : decode cX10_chooses 38 = .ok (.iaload, 1) := by decide +kernel
theorem dX10_chooses_39 : decode cX10_chooses 39 = .ok (.goto 9, 3) := by decide +kernel
theorem dX10_chooses_42 : decode cX10_chooses 42 = .ok (.aload_n 0, 1) := by decide +kernel
theorem dX10_chooses_43 : decode cX10_chooses 43 = .ok (.getfield 22, 3) := by decide +kernel
theorem dX10_chooses_46 : decode cX10_chooses 46 = .ok (.iload_n 1, 1) := by decide +kernel
theorem dX10_chooses_47 : decode cX10_chooses 47 = .ok (.iaload, 1) := by decide +kernel
theorem dX10_chooses_48 : decode cX10_chooses 48 = .ok (.aload_n 0, 1) := by decide +kernel
theorem dX10_chooses_49 : decode cX10_chooses 49 = .ok (.getfield 101, 3) := by decide +kernel
theorem dX10_chooses_52 : decode cX10_chooses 52 = .ok (.iload_n 2, 1) := by decide +kernel
theorem dX10_chooses_53 : decode cX10_chooses 53 = .ok (.iaload, 1) := by decide +kernel
theorem dX10_chooses_54 : decode cX10_chooses 54 = .ok (.aload_n 0, 1) := by decide +kernel
theorem dX10_chooses_55 : decode cX10_chooses 55 = .ok (.getfield 104, 3) := by decide +kernel
theorem dX10_chooses_58 : decode cX10_chooses 58 = .ok (.iload_n 2, 1) := by decide +kernel
theorem dX10_chooses_59 : decode cX10_chooses 59 = .ok (.iaload, 1) := by decide +kernel
theorem dX10_chooses_60 : decode cX10_chooses 60 = .ok (.invokevirtual 268, 3) := by decide +kernel
theorem dX10_chooses_63 : decode cX10_chooses 63 = .ok (.return_, 1) := by decide +kernel
theorem dX10_puts_0 : decode cX10_puts 0 = .ok (.aload_n 0, 1) := by decide +kernel
theorem dX10_puts_1 : decode cX10_puts 1 = .ok (.iload_n 1, 1) := by decide +kernel
theorem dX10_puts_2 : decode cX10_puts 2 = .ok (.iload_n 2, 1) := by decide +kernel
theorem dX10_puts_3 : decode cX10_puts 3 = .ok (.invokevirtual 246, 3) := by decide +kernel
theorem dX10_puts_6 : decode cX10_puts 6 = .ok (.istore_n 3, 1) := by decide +kernel
theorem dX10_puts_7 : decode cX10_puts 7 = .ok (.iload_n 3, 1) := by decide +kernel
theorem dX10_puts_8 : decode cX10_puts 8 = .ok (.ifCond .lt 16, 3) := by decide +kernel
theorem dX10_puts_11 : decode cX10_puts 11 = .ok (.aload_n 0, 1) := by decide +kernel
theorem dX10_puts_12 : decode cX10_puts 12 = .ok (.getfield 77, 3) := by decide +kernel
theorem dX10_puts_15 : decode cX10_puts 15 = .ok (.iload_n 3, 1) := by decide +kernel
theorem dX10_puts_16 : decode cX10_puts 16 = .ok (.aload_n 0, 1) := by decide +kernel
theorem dX10_puts_17 : decode cX10_puts 17 = .ok (.getfield 233, 3) := by decide +kernel
theorem dX10_puts_20 : decode cX10_puts 20 = .ok (.iastore, 1) := by decide +kernel
theorem dX10_puts_21 : decode cX10_puts 21 = .ok (.goto 38, 3) := by decide +kernel
theorem dX10_puts_24 : decode cX10_puts 24 = .ok (.aload_n 0, 1) := by decide +kernel
theorem dX10_puts_25 : decode cX10_puts 25 = .ok (.getfield 65, 3) := by decide +kernel
theorem dX10_puts_28 : decode cX10_puts 28 = .ok (.aload_n 0, 1) := by decide +kernel
theorem dX10_puts_29 : decode cX10_puts 29 = .ok (.getfield 233, 3) := by decide +kernel
theorem dX10_puts_32 : decode cX10_puts 32 = .ok (.iaload, 1) := by decide +kernel
theorem dX10_puts_33 : decode cX10_puts 33 = .ok (.ifCond .ne 21, 3) := by decide +kernel
theorem dX10_puts_36 : decode cX10_puts 36 = .ok (.aload_n 0, 1) := by decide +kernel
theorem dX10_puts_37 : decode cX10_puts 37 = .ok (.getfield 46, 3) := by decide +kernel
theorem dX10_puts_40 : decode cX10_puts 40 = .ok (.iload_n 1, 1) := by decide +kernel
theorem dX10_puts_41 : decode cX10_puts 41 = .ok (.aload_n 0, 1) := by decide +kernel
theorem dX10_puts_42 : decode cX10_puts 42 = .ok (.getfield 68, 3) := by decide +kernel
theorem dX10_puts_45 : decode cX10_puts 45 = .ok (.aload_n 0, 1) := by decide +kernel
theorem dX10_puts_46 : decode cX10_puts 46 = .ok (.getfield 233, 3) := by decide +kernel
theorem dX10_puts_49 : decode cX10_puts 49 = .ok (.iaload, 1) := by decide +kernel
theorem dX10_puts_50 : decode cX10_puts 50 = .ok (.iastore, 1) := by decide +kernel
theorem dX10_puts_51 : decode cX10_puts 51 = .ok (.goto 8, 3) := by decide +kernel
theorem dX10_puts_54 : decode cX10_puts 54 = .ok (.aload_n 0, 1) := by decide +kernel
theorem dX10_puts_55 : decode cX10_puts 55 = .ok (.iconst 1, 1) := by decide +kernel
theorem dX10_puts_56 : decode cX10_puts 56 = .ok (.invokevirtual 259, 3) := by decide +kernel
theorem dX10_puts_59 : decode cX10_puts 59 = .ok (.return_, 1) := by decide +kernel
theorem dX10_calls_0 : decode cX10_calls 0 = .ok (.iload_n 3, 1) := by decide +kernel
theorem dX10_calls_1 : decode cX10_calls 1 = .ok (.iconst 1, 1) := by decide +kernel
theorem dX10_calls_2 : decode cX10_calls 2 = .ok (.if_icmp .ne 16, 3) := by decide +kernel
theorem dX10_calls_5 : decode cX10_calls 5 = .ok (.aload_n 0, 1) := by decide +kernel
theorem dX10_calls_6 : decode cX10_calls 6 = .ok (.dup, 1) := by decide +kernel
theorem dX10_calls_7 : decode cX10_calls 7 = .ok (.getfield 272, 3) := by decide +kernel
theorem dX10_calls_10 : decode cX10_calls 10 = .ok (.iconst 1, 1) := by decide +kernel
theorem dX10_calls_11 : decode cX10_calls 11 = .ok (.iadd, 1) := by decide +kernel
theorem dX10_calls_12 : decode cX10_calls 12 = .ok (.putfield 272, 3) := by decide +kernel
theorem dX10_calls_15 : decode cX10_calls 15 = .ok (.goto 59, 3) := by decide +kernel
theorem dX10_calls_18 : decode cX10_calls 18 = .ok (.aload_n 0, 1) := by decide +kernel
theorem dX10_calls_19 : decode cX10_calls 19 = .ok (.getfield 275, 3) := by decide +kernel
theorem dX10_calls_22 : decode cX10_calls 22 = .ok (.bipush 12, 2) := by decide +kernel
theorem dX10_calls_24 : decode cX10_calls 24 = .ok (.if_icmp .ne 9, 3) := by decide +kernel
theorem dX10_calls_27 : decode cX10_calls 27 = .ok (.aload_n 0, 1) := by decide +kernel
theorem dX10_calls_28 : decode cX10_calls 28 = .ok (.iconst 5, 1) := by decide +kernel
theorem dX10_calls_29 : decode cX10_calls 29 = .ok (.invokevirtual 259, 3) := by decide +kernel
theorem dX10_calls_32 : decode cX10_calls 32 = .ok (.return_, 1) := by decide +kernel
theorem dX10_calls_33 : decode cX10_calls 33 = .ok (.aload_n 0, 1) := by decide +kernel
theorem dX10_calls_34 : decode cX10_calls 34 = .ok (.dup, 1) := by decide +kernel
theorem dX10_calls_35 : decode cX10_calls 35 = .ok (.getfield 275, 3) := by decide +kernel
theorem dX10_calls_38 : decode cX10_calls 38 = .ok (.iconst 1, 1) := by decide +kernel
theorem dX10_calls_39 : decode cX10_calls 39 = .ok (.iadd, 1) := by decide +kernel
theorem dX10_calls_40 : decode cX10_calls 40 = .ok (.putfield 275, 3) := by decide +kernel
theorem dX10_calls_43 : decode cX10_calls 43 = .ok (.aload_n 0, 1) := by decide +kernel
theorem dX10_calls_44 : decode cX10_calls 44 = .ok (.aload_n 0, 1) := by decide +kernel
theorem dX10_calls_45 : decode cX10_calls 45 = .ok (.getfield 275, 3) := by decide +kernel
theorem dX10_calls_48 : decode cX10_calls 48 = .ok (.aload_n 0, 1) := by decide +kernel
theorem dX10_calls_49 : decode cX10_calls 49 = .ok (.getfield 278, 3) := by decide +kernel
theorem dX10_calls_52 : decode cX10_calls 52 = .ok (.if_icmp .le 10, 3) := by decide +kernel
theorem dX10_calls_55 : decode cX10_calls 55 = .ok (.aload_n 0, 1) := by decide +kernel
theorem dX10_calls_56 : decode cX10_calls 56 = .ok (.getfield 275, 3) := by decide +kernel
theorem dX10_calls_59 : decode cX10_calls 59 = .ok (.goto 7, 3) := by decide +kernel
theorem dX10_calls_62 : decode cX10_calls 62 = .ok (.aload_n 0, 1) := by decide +kernel
theorem dX10_calls_63 : decode cX10_calls 63 = .ok (.getfield 278, 3) := by decide +kernel
theorem dX10_calls_66 : decode cX10_calls 66 = .ok (.putfield 278, 3) := by decide +kernel
theorem dX10_calls_69 : decode cX10_calls 69 = .ok (.aload_n 0, 1) := by decide +kernel
theorem dX10_calls_70 : decode cX10_calls 70 = .ok (.iconst (-1), 1) := by decide +kernel
theorem dX10_calls_71 : decode cX10_calls 71 = .ok (.invokevirtual 265, 3) := by decide +kernel
theorem dX10_calls_74 : decode cX10_calls 74 = .ok (.aload_n 0, 1) := by decide +kernel
theorem dX10_calls_75 : decode cX10_calls 75 = .ok (.aload_n 0, 1) := by decide +kernel
theorem dX10_calls_76 : decode cX10_calls 76 = .ok (.getfield 71, 3) := by decide +kernel
theorem dX10_calls_79 : decode cX10_calls 79 = .ok (.iload_n 1, 1) := by decide +kernel
theorem dX10_calls_80 : decode cX10_calls 80 = .ok (.iaload, 1) := by decide +kernel
theorem dX10_calls_81 : decode cX10_calls 81 = .ok (.aload_n 0, 1) := by decide +kernel
theorem dX10_calls_82 : decode cX10_calls 82 = .ok (.aload_n 0, 1) := by decide +kernel
theorem dX10_calls_83 : decode cX10_calls 83 = .ok (.getfield 68, 3) := by decide +kernel
theorem dX10_calls_86 : decode cX10_calls 86 = .ok (.iload_n 1, 1) := by decide +kernel
theorem dX10_calls_87 : decode cX10_calls 87 = .ok (.iaload, 1) := by decide +kernel
theorem dX10_calls_88 : decode cX10_calls 88 = .ok (.iload_n 2, 1) := by decide +kernel
theorem dX10_calls_89 : decode cX10_calls 89 = .ok (.aload_n 0, 1) := by decide +kernel
theorem dX10_calls_90 : decode cX10_calls 90 = .ok (.getfield 74, 3) := by decide +kernel
theorem dX10_calls_93 : decode cX10_calls 93 = .ok (.iload_n 1, 1) := by decide +kernel
theorem dX10_calls_94 : decode cX10_calls 94 = .ok (.iaload, 1) := by decide +kernel
theorem dX10_calls_95 : decode cX10_calls 95 = .ok (.invokevirtual 281, 3) := by decide +kernel
theorem dX10_calls_98 : decode cX10_calls 98 = .ok (.iconst 1, 1) := by decide +kernel
theorem dX10_calls_99 : decode cX10_calls 99 = .ok (.invokevirtual 268, 3) := by decide +kernel
theorem dX10_calls_102 : decode cX10_calls 102 = .ok (.return_, 1) := by decide +kernel
theorem dX10_hasField_0 : decode cX10_hasField 0 = .ok (.iload_n 1, 1) := by decide +kernel
theorem dX10_hasField_1 : decode cX10_hasField 1 = .ok (.bipush 112, 2) := by decide +kernel
theorem dX10_hasField_3 : decode cX10_hasField 3 = .ok (.if_icmp .ne 16, 3) := by decide +kernel
theorem dX10_hasField_6 : decode cX10_hasField 6 = .ok (.iload_n 0, 1) := by decide +kernel
theorem dX10_hasField_7 : decode cX10_hasField 7 = .ok (.iconst 1, 1) := by decide +kernel
theorem dX10_hasField_8 : decode cX10_hasField 8 = .ok (.if_icmp .eq 7, 3) := by decide +kernel
theorem dX10_hasField_11 : decode cX10_hasField 11 = .ok (.iconst 1, 1) := by decide +kernel
theorem dX10_hasField_12 : decode cX10_hasField 12 = .ok (.goto 16, 3) := by decide +kernel
theorem dX10_hasField_15 : decode cX10_hasField 15 = .ok (.iconst 0, 1) := by decide +kernel
theorem dX10_hasField_16 : decode cX10_hasField 16 = .ok (.goto 12, 3) := by decide +kernel
theorem dX10_hasField_19 : decode cX10_hasField 19 = .ok (.iload_n 0, 1) := by decide +kernel
theorem dX10_hasField_20 : decode cX10_hasField 20 = .ok (.ifCond .eq 7, 3) := by decide +kernel
theorem dX10_hasField_23 : decode cX10_hasField 23 = .ok (.iconst 1, 1) := by decide +kernel
theorem dX10_hasField_24 : decode cX10_hasField 24 = .ok (.goto 4, 3) := by decide +kernel
theorem dX10_hasField_27 : decode cX10_hasField 27 = .ok (.iconst 0, 1) := by decide +kernel
theorem dX10_hasField_28 : decode cX10_hasField 28 = .ok (.ireturn, 1) := by decide +kernel
theorem dX10_passesCache_0 : decode cX10_passesCache 0 = .ok (.aload_n 0, 1) := by decide +kernel
theorem dX10_passesCache_1 : decode cX10_passesCache 1 = .ok (.getfield 49, 3) := by decide +kernel
theorem dX10_passesCache_4 : decode cX10_passesCache 4 = .ok (.iload_n 1, 1) := by decide +kernel
theorem dX10_passesCache_5 : decode cX10_passesCache 5 = .ok (.iaload, 1) := by decide +kernel
theorem dX10_passesCache_6 : decode cX10_passesCache 6 = .ok (.iload_n 2, 1) := by decide +kernel
theorem dX10_passesCache_7 : decode cX10_passesCache 7 = .ok (.ishr, 1) := by decide +kernel
theorem dX10_passesCache_8 : decode cX10_passesCache 8 = .ok (.iconst 1, 1) := by decide +kernel
theorem dX10_passesCache_9 : decode cX10_passesCache 9 = .ok (.iand, 1) := by decide +kernel
theorem dX10_passesCache_10 : decode cX10_passesCache 10 = .ok (.iconst 1, 1) := by decide +kernel
theorem dX10_passesCache_11 : decode cX10_passesCache 11 = .ok (.if_icmp .ne 20, 3) := by decide +kernel
theorem dX10_passesCache_14 : decode cX10_passesCache 14 = .ok (.aload_n 0, 1) := by decide +kernel
theorem dX10_passesCache_15 : decode cX10_passesCache 15 = .ok (.getfield 49, 3) := by decide +kernel
theorem dX10_passesCache_18 : decode cX10_passesCache 18 = .ok (.iload_n 1, 1) := by decide +kernel
theorem dX10_passesCache_19 : decode cX10_passesCache 19 = .ok (.iaload, 1) := by decide +kernel
theorem dX10_passesCache_20 : decode cX10_passesCache 20 = .ok (.invokestatic 284, 3) := by decide +kernel
theorem dX10_passesCache_23 : decode cX10_passesCache 23 = .ok (.iconst 2, 1) := by decide +kernel
theorem dX10_passesCache_24 : decode cX10_passesCache 24 = .ok (.if_icmp .gt 7, 3) := by decide +kernel
theorem dX10_passesCache_27 : decode cX10_passesCache 27 = .ok (.iconst 1, 1) := by decide +kernel
theorem dX10_passesCache_28 : decode cX10_passesCache 28 = .ok (.goto 4, 3) := by decide +kernel
theorem dX10_passesCache_31 : decode cX10_passesCache 31 = .ok (.iconst 0, 1) := by decide +kernel
theorem dX10_passesCache_32 : decode cX10_passesCache 32 = .ok (.istore_n 3, 1) := by decide +kernel
theorem dX10_passesCache_33 : decode cX10_passesCache 33 = .ok (.aload_n 0, 1) := by decide +kernel
theorem dX10_passesCache_34 : decode cX10_passesCache 34 = .ok (.getfield 52, 3) := by decide +kernel
theorem dX10_passesCache_37 : decode cX10_passesCache 37 = .ok (.iload_n 1, 1) := by decide +kernel
theorem dX10_passesCache_38 : decode cX10_passesCache 38 = .ok (.dup2, 1) := by decide +kernel
theorem dX10_passesCache_39 : decode cX10_passesCache 39 = .ok (.iaload, 1) := by decide +kernel
theorem dX10_passesCache_40 : decode cX10_passesCache 40 = .ok (.iload_n 3, 1) := by decide +kernel
theorem dX10_passesCache_41 : decode cX10_passesCache 41 = .ok (.ifCond .eq 7, 3) := by decide +kernel
theorem dX10_passesCache_44 : decode cX10_passesCache 44 = .ok (.iconst 1, 1) := by decide +kernel
theorem dX10_passesCache_45 : decode cX10_passesCache 45 = .ok (.goto 4, 3) := by decide +kernel
theorem dX10_passesCache_48 : decode cX10_passesCache 48 = .ok (.iconst 0, 1) := by decide +kernel
theorem dX10_passesCache_49 : decode cX10_passesCache 49 = .ok (.iadd, 1) := by decide +kernel
theorem dX10_passesCache_50 : decode cX10_passesCache 50 = .ok (.iastore, 1) := by decide +kernel
theorem dX10_passesCache_51 : decode cX10_passesCache 51 = .ok (.aload_n 0, 1) := by decide +kernel
theorem dX10_passesCache_52 : decode cX10_passesCache 52 = .ok (.getfield 55, 3) := by decide +kernel
theorem dX10_passesCache_55 : decode cX10_passesCache 55 = .ok (.iload_n 1, 1) := by decide +kernel
theorem dX10_passesCache_56 : decode cX10_passesCache 56 = .ok (.dup2, 1) := by decide +kernel
theorem dX10_passesCache_57 : decode cX10_passesCache 57 = .ok (.iaload, 1) := by decide +kernel
theorem dX10_passesCache_58 : decode cX10_passesCache 58 = .ok (.iload_n 3, 1) := by decide +kernel
theorem dX10_passesCache_59 : decode cX10_passesCache 59 = .ok (.ifCond .eq 7, 3) := by decide +kernel
theorem dX10_passesCache_62 : decode cX10_passesCache 62 = .ok (.iconst 0, 1) := by decide +kernel
theorem dX10_passesCache_63 : decode cX10_passesCache 63 = .ok (.goto 4, 3) := by decide +kernel
theorem dX10_passesCache_66 : decode cX10_passesCache 66 = .ok (.iconst 1, 1) := by decide +kernel
theorem dX10_passesCache_67 : decode cX10_passesCache 67 = .ok (.iadd, 1) := by decide +kernel
theorem dX10_passesCache_68 : decode cX10_passesCache 68 = .ok (.iastore, 1) := by decide +kernel
theorem dX10_passesCache_69 : decode cX10_passesCache 69 = .ok (.aload_n 0, 1) := by decide +kernel
theorem dX10_passesCache_70 : decode cX10_passesCache 70 = .ok (.getfield 49, 3) := by decide +kernel
theorem dX10_passesCache_73 : decode cX10_passesCache 73 = .ok (.iload_n 1, 1) := by decide +kernel
theorem dX10_passesCache_74 : decode cX10_passesCache 74 = .ok (.dup2, 1) := by decide +kernel
theorem dX10_passesCache_75 : decode cX10_passesCache 75 = .ok (.iaload, 1) := by decide +kernel
theorem dX10_passesCache_76 : decode cX10_passesCache 76 = .ok (.iconst 1, 1) := by decide +kernel
theorem dX10_passesCache_77 : decode cX10_passesCache 77 = .ok (.iload_n 2, 1) := by decide +kernel
theorem dX10_passesCache_78 : decode cX10_passesCache 78 = .ok (.ishl, 1) := by decide +kernel
theorem dX10_passesCache_79 : decode cX10_passesCache 79 = .ok (.ior, 1) := by decide +kernel
theorem dX10_passesCache_80 : decode cX10_passesCache 80 = .ok (.iastore, 1) := by decide +kernel
theorem dX10_passesCache_81 : decode cX10_passesCache 81 = .ok (.return_, 1) := by decide +kernel
theorem dX10_findsField_0 : decode cX10_findsField 0 = .ok (.aload_n 0, 1) := by decide +kernel
theorem dX10_findsField_1 : decode cX10_findsField 1 = .ok (.getfield 233, 3) := by decide +kernel
theorem dX10_findsField_4 : decode cX10_findsField 4 = .ok (.istore_n 2, 1) := by decide +kernel
theorem dX10_findsField_5 : decode cX10_findsField 5 = .ok (.aload_n 0, 1) := by decide +kernel
theorem dX10_findsField_6 : decode cX10_findsField 6 = .ok (.getfield 65, 3) := by decide +kernel
theorem dX10_findsField_9 : decode cX10_findsField 9 = .ok (.iload_n 2, 1) := by decide +kernel
theorem dX10_findsField_10 : decode cX10_findsField 10 = .ok (.iaload, 1) := by decide +kernel
theorem dX10_findsField_11 : decode cX10_findsField 11 = .ok (.iconst 2, 1) := by decide +kernel
theorem dX10_findsField_12 : decode cX10_findsField 12 = .ok (.if_icmp .ne 21, 3) := by decide +kernel
theorem dX10_findsField_15 : decode cX10_findsField 15 = .ok (.aload_n 0, 1) := by decide +kernel
theorem dX10_findsField_16 : decode cX10_findsField 16 = .ok (.getfield 68, 3) := by decide +kernel
theorem dX10_findsField_19 : decode cX10_findsField 19 = .ok (.iload_n 2, 1) := by decide +kernel
theorem dX10_findsField_20 : decode cX10_findsField 20 = .ok (.iaload, 1) := by decide +kernel
theorem dX10_findsField_21 : decode cX10_findsField 21 = .ok (.aload_n 0, 1) := by decide +kernel
theorem dX10_findsField_22 : decode cX10_findsField 22 = .ok (.getfield 13, 3) := by decide +kernel
theorem dX10_findsField_25 : decode cX10_findsField 25 = .ok (.iload_n 1, 1) := by decide +kernel
theorem dX10_findsField_26 : decode cX10_findsField 26 = .ok (.iaload, 1) := by decide +kernel
theorem dX10_findsField_27 : decode cX10_findsField 27 = .ok (.invokestatic 287, 3) := by decide +kernel
theorem dX10_findsField_30 : decode cX10_findsField 30 = .ok (.ifCond .ne 9, 3) := by decide +kernel
theorem dX10_findsField_33 : decode cX10_findsField 33 = .ok (.aload_n 0, 1) := by decide +kernel
theorem dX10_findsField_34 : decode cX10_findsField 34 = .ok (.iconst 3, 1) := by decide +kernel
theorem dX10_findsField_35 : decode cX10_findsField 35 = .ok (.invokevirtual 259, 3) := by decide +kernel
theorem dX10_findsField_38 : decode cX10_findsField 38 = .ok (.return_, 1) := by decide +kernel
theorem dX10_findsField_39 : decode cX10_findsField 39 = .ok (.aload_n 0, 1) := by decide +kernel
theorem dX10_findsField_40 : decode cX10_findsField 40 = .ok (.aload_n 0, 1) := by decide +kernel
theorem dX10_findsField_41 : decode cX10_findsField 41 = .ok (.getfield 25, 3) := by decide +kernel
theorem dX10_findsField_44 : decode cX10_findsField 44 = .ok (.iload_n 1, 1) := by decide +kernel
theorem dX10_findsField_45 : decode cX10_findsField 45 = .ok (.iaload, 1) := by decide +kernel
theorem dX10_findsField_46 : decode cX10_findsField 46 = .ok (.aload_n 0, 1) := by decide +kernel
theorem dX10_findsField_47 : decode cX10_findsField 47 = .ok (.getfield 68, 3) := by decide +kernel
theorem dX10_findsField_50 : decode cX10_findsField 50 = .ok (.iload_n 2, 1) := by decide +kernel
theorem dX10_findsField_51 : decode cX10_findsField 51 = .ok (.iaload, 1) := by decide +kernel
theorem dX10_findsField_52 : decode cX10_findsField 52 = .ok (.invokevirtual 290, 3) := by decide +kernel
theorem dX10_findsField_55 : decode cX10_findsField 55 = .ok (.aload_n 0, 1) := by decide +kernel
theorem dX10_findsField_56 : decode cX10_findsField 56 = .ok (.getfield 68, 3) := by decide +kernel
theorem dX10_findsField_59 : decode cX10_findsField 59 = .ok (.iload_n 2, 1) := by decide +kernel
theorem dX10_findsField_60 : decode cX10_findsField 60 = .ok (.iaload, 1) := by decide +kernel
theorem dX10_findsField_61 : decode cX10_findsField 61 = .ok (.iconst 2, 1) := by decide +kernel
theorem dX10_findsField_62 : decode cX10_findsField 62 = .ok (.if_icmp .lt 37, 3) := by decide +kernel
theorem dX10_findsField_65 : decode cX10_findsField 65 = .ok (.aload_n 0, 1) := by decide +kernel
theorem dX10_findsField_66 : decode cX10_findsField 66 = .ok (.getfield 68, 3) := by decide +kernel
theorem dX10_findsField_69 : decode cX10_findsField 69 = .ok (.iload_n 2, 1) := by decide +kernel
theorem dX10_findsField_70 : decode cX10_findsField 70 = .ok (.iaload, 1) := by decide +kernel
theorem dX10_findsField_71 : decode cX10_findsField 71 = .ok (.iconst 2, 1) := by decide +kernel
theorem dX10_findsField_72 : decode cX10_findsField 72 = .ok (.if_icmp .ne 7, 3) := by decide +kernel
theorem dX10_findsField_75 : decode cX10_findsField 75 = .ok (.iconst 1, 1) := by decide +kernel
theorem dX10_findsField_76 : decode cX10_findsField 76 = .ok (.goto 4, 3) := by decide +kernel
theorem dX10_findsField_79 : decode cX10_findsField 79 = .ok (.iconst 0, 1) := by decide +kernel
theorem dX10_findsField_80 : decode cX10_findsField 80 = .ok (.aload_n 0, 1) := by decide +kernel
theorem dX10_findsField_81 : decode cX10_findsField 81 = .ok (.getfield 13, 3) := by decide +kernel
theorem dX10_findsField_84 : decode cX10_findsField 84 = .ok (.iload_n 1, 1) := by decide +kernel
theorem dX10_findsField_85 : decode cX10_findsField 85 = .ok (.iaload, 1) := by decide +kernel
theorem dX10_findsField_86 : decode cX10_findsField 86 = .ok (.bipush 112, 2) := by decide +kernel
theorem dX10_findsField_88 : decode cX10_findsField 88 = .ok (.if_icmp .ne 7, 3) := by decide +kernel
theorem dX10_findsField_91 : decode cX10_findsField 91 = .ok (.iconst 1, 1) := by decide +kernel
theorem dX10_findsField_92 : decode cX10_findsField 92 = .ok (.goto 4, 3) := by decide +kernel
theorem dX10_findsField_95 : decode cX10_findsField 95 = .ok (.iconst 0, 1) := by decide +kernel
theorem dX10_findsField_96 : decode cX10_findsField 96 = .ok (.if_icmp .ne 7, 3) := by decide +kernel
theorem dX10_findsField_99 : decode cX10_findsField 99 = .ok (.iconst 1, 1) := by decide +kernel
theorem dX10_findsField_100 : decode cX10_findsField 100 = .ok (.goto 4, 3) := by decide +kernel
theorem dX10_findsField_103 : decode cX10_findsField 103 = .ok (.iconst 0, 1) := by decide +kernel
theorem dX10_findsField_104 : decode cX10_findsField 104 = .ok (.istore_n 3, 1) := by decide +kernel
theorem dX10_findsField_105 : decode cX10_findsField 105 = .ok (.aload_n 0, 1) := by decide +kernel
theorem dX10_findsField_106 : decode cX10_findsField 106 = .ok (.iload_n 3, 1) := by decide +kernel
theorem dX10_findsField_107 : decode cX10_findsField 107 = .ok (.ifCond .eq 12, 3) := by decide +kernel
theorem dX10_findsField_110 : decode cX10_findsField 110 = .ok (.aload_n 0, 1) := by decide +kernel
theorem dX10_findsField_111 : decode cX10_findsField 111 = .ok (.getfield 71, 3) := by decide +kernel
theorem dX10_findsField_114 : decode cX10_findsField 114 = .ok (.iload_n 2, 1) := by decide +kernel
theorem dX10_findsField_115 : decode cX10_findsField 115 = .ok (.iaload, 1) := by decide +kernel
theorem dX10_findsField_116 : decode cX10_findsField 116 = .ok (.goto 9, 3) := by decide +kernel
theorem dX10_findsField_119 : decode cX10_findsField 119 = .ok (.aload_n 0, 1) := by decide +kernel
theorem dX10_findsField_120 : decode cX10_findsField 120 = .ok (.getfield 74, 3) := by decide +kernel
theorem dX10_findsField_123 : decode cX10_findsField 123 = .ok (.iload_n 2, 1) := by decide +kernel
theorem dX10_findsField_124 : decode cX10_findsField 124 = .ok (.iaload, 1) := by decide +kernel
theorem dX10_findsField_125 : decode cX10_findsField 125 = .ok (.invokevirtual 253, 3) := by decide +kernel
theorem dX10_findsField_128 : decode cX10_findsField 128 = .ok (.return_, 1) := by decide +kernel
theorem dX10_throwsNow_0 : decode cX10_throwsNow 0 = .ok (.aload_n 0, 1) := by decide +kernel
theorem dX10_throwsNow_1 : decode cX10_throwsNow 1 = .ok (.getfield 65, 3) := by decide +kernel
theorem dX10_throwsNow_4 : decode cX10_throwsNow 4 = .ok (.aload_n 0, 1) := by decide +kernel
theorem dX10_throwsNow_5 : decode cX10_throwsNow 5 = .ok (.getfield 233, 3) := by decide +kernel
theorem dX10_throwsNow_8 : decode cX10_throwsNow 8 = .ok (.iaload, 1) := by decide +kernel
theorem dX10_throwsNow_9 : decode cX10_throwsNow 9 = .ok (.ifCond .eq 11, 3) := by decide +kernel
theorem dX10_throwsNow_12 : decode cX10_throwsNow 12 = .ok (.aload_n 0, 1) := by decide +kernel
theorem dX10_throwsNow_13 : decode cX10_throwsNow 13 = .ok (.iconst 1, 1) := by decide +kernel
theorem dX10_throwsNow_14 : decode cX10_throwsNow 14 = .ok (.invokevirtual 259, 3) := by decide +kernel
theorem dX10_throwsNow_17 : decode cX10_throwsNow 17 = .ok (.goto 45, 3) := by decide +kernel
theorem dX10_throwsNow_20 : decode cX10_throwsNow 20 = .ok (.aload_n 0, 1) := by decide +kernel
theorem dX10_throwsNow_21 : decode cX10_throwsNow 21 = .ok (.getfield 68, 3) := by decide +kernel
theorem dX10_throwsNow_24 : decode cX10_throwsNow 24 = .ok (.aload_n 0, 1) := by decide +kernel
theorem dX10_throwsNow_25 : decode cX10_throwsNow 25 = .ok (.getfield 233, 3) := by decide +kernel
theorem dX10_throwsNow_28 : decode cX10_throwsNow 28 = .ok (.iaload, 1) := by decide +kernel
theorem dX10_throwsNow_29 : decode cX10_throwsNow 29 = .ok (.iconst 0, 1) := by decide +kernel
theorem dX10_throwsNow_30 : decode cX10_throwsNow 30 = .ok (.bipush 9, 2) := by decide +kernel
theorem dX10_throwsNow_32 : decode cX10_throwsNow 32 = .ok (.invokestatic 134, 3) := by decide +kernel
theorem dX10_throwsNow_35 : decode cX10_throwsNow 35 = .ok (.ifCond .eq 22, 3) := by decide +kernel
theorem dX10_throwsNow_38 : decode cX10_throwsNow 38 = .ok (.aload_n 0, 1) := by decide +kernel
theorem dX10_throwsNow_39 : decode cX10_throwsNow 39 = .ok (.bipush 10, 2) := by decide +kernel
theorem dX10_throwsNow_41 : decode cX10_throwsNow 41 = .ok (.aload_n 0, 1) := by decide +kernel
theorem dX10_throwsNow_42 : decode cX10_throwsNow 42 = .ok (.getfield 68, 3) := by decide +kernel
theorem dX10_throwsNow_45 : decode cX10_throwsNow 45 = .ok (.aload_n 0, 1) := by decide +kernel
theorem dX10_throwsNow_46 : decode cX10_throwsNow 46 = .ok (.getfield 233, 3) := by decide +kernel
theorem dX10_throwsNow_49 : decode cX10_throwsNow 49 = .ok (.iaload, 1) := by decide +kernel
theorem dX10_throwsNow_50 : decode cX10_throwsNow 50 = .ok (.iadd, 1) := by decide +kernel
theorem dX10_throwsNow_51 : decode cX10_throwsNow 51 = .ok (.invokevirtual 259, 3) := by decide +kernel
theorem dX10_throwsNow_54 : decode cX10_throwsNow 54 = .ok (.goto 8, 3) := by decide +kernel
theorem dX10_throwsNow_57 : decode cX10_throwsNow 57 = .ok (.aload_n 0, 1) := by decide +kernel
theorem dX10_throwsNow_58 : decode cX10_throwsNow 58 = .ok (.iconst 4, 1) := by decide +kernel
theorem dX10_throwsNow_59 : decode cX10_throwsNow 59 = .ok (.invokevirtual 259, 3) := by decide +kernel
theorem dX10_throwsNow_62 : decode cX10_throwsNow 62 = .ok (.return_, 1) := by decide +kernel
theorem dX10_keepsFirst_0 : decode cX10_keepsFirst 0 = .ok (.aload_n 0, 1) := by decide +kernel
theorem dX10_keepsFirst_1 : decode cX10_keepsFirst 1 = .ok (.iload_n 2, 1) := by decide +kernel
theorem dX10_keepsFirst_2 : decode cX10_keepsFirst 2 = .ok (.iconst 1, 1) := by decide +kernel
theorem dX10_keepsFirst_3 : decode cX10_keepsFirst 3 = .ok (.iadd, 1) := by decide +kernel
theorem dX10_keepsFirst_4 : decode cX10_keepsFirst 4 = .ok (.putfield 243, 3) := by decide +kernel
theorem dX10_keepsFirst_7 : decode cX10_keepsFirst 7 = .ok (.aload_n 0, 1) := by decide +kernel
theorem dX10_keepsFirst_8 : decode cX10_keepsFirst 8 = .ok (.getfield 98, 3) := by decide +kernel
theorem dX10_keepsFirst_11 : decode cX10_keepsFirst 11 = .ok (.iload_n 2, 1) := by decide +kernel
theorem dX10_keepsFirst_12 : decode cX10_keepsFirst 12 = .ok (.iconst 1, 1) := by decide +kernel
theorem dX10_keepsFirst_13 : decode cX10_keepsFirst 13 = .ok (.iastore, 1) := by decide +kernel
theorem dX10_keepsFirst_14 : decode cX10_keepsFirst 14 = .ok (.aload_n 0, 1) := by decide +kernel
theorem dX10_keepsFirst_15 : decode cX10_keepsFirst 15 = .ok (.getfield 107, 3) := by decide +kernel
theorem dX10_keepsFirst_18 : decode cX10_keepsFirst 18 = .ok (.iload_n 2, 1) := by decide +kernel
theorem dX10_keepsFirst_19 : decode cX10_keepsFirst 19 = .ok (.aload_n 0, 1) := by decide +kernel
theorem dX10_keepsFirst_20 : decode cX10_keepsFirst 20 = .ok (.getfield 233, 3) := by decide +kernel
theorem dX10_keepsFirst_23 : decode cX10_keepsFirst 23 = .ok (.iastore, 1) := by decide +kernel
theorem dX10_keepsFirst_24 : decode cX10_keepsFirst 24 = .ok (.aload_n 0, 1) := by decide +kernel
theorem dX10_keepsFirst_25 : decode cX10_keepsFirst 25 = .ok (.aload_n 0, 1) := by decide +kernel
theorem dX10_keepsFirst_26 : decode cX10_keepsFirst 26 = .ok (.getfield 19, 3) := by decide +kernel
theorem dX10_keepsFirst_29 : decode cX10_keepsFirst 29 = .ok (.iload_n 1, 1) := by decide +kernel
theorem dX10_keepsFirst_30 : decode cX10_keepsFirst 30 = .ok (.iaload, 1) := by decide +kernel
theorem dX10_keepsFirst_31 : decode cX10_keepsFirst 31 = .ok (.aload_n 0, 1) := by decide +kernel
theorem dX10_keepsFirst_32 : decode cX10_keepsFirst 32 = .ok (.getfield 101, 3) := by decide +kernel
theorem dX10_keepsFirst_35 : decode cX10_keepsFirst 35 = .ok (.iload_n 2, 1) := by decide +kernel
theorem dX10_keepsFirst_36 : decode cX10_keepsFirst 36 = .ok (.iaload, 1) := by decide +kernel
theorem dX10_keepsFirst_37 : decode cX10_keepsFirst 37 = .ok (.iconst 0, 1) := by decide +kernel
theorem dX10_keepsFirst_38 : decode cX10_keepsFirst 38 = .ok (.invokevirtual 268, 3) := by decide +kernel
theorem dX10_keepsFirst_41 : decode cX10_keepsFirst 41 = .ok (.return_, 1) := by decide +kernel
theorem dX10_isFirstOfTwo_0 : decode cX10_isFirstOfTwo 0 = .ok (.aload_n 0, 1) := by decide +kernel
theorem dX10_isFirstOfTwo_1 : decode cX10_isFirstOfTwo 1 = .ok (.getfield 98, 3) := by decide +kernel
theorem dX10_isFirstOfTwo_4 : decode cX10_isFirstOfTwo 4 = .ok (.iload_n 2, 1) := by decide +kernel
theorem dX10_isFirstOfTwo_5 : decode cX10_isFirstOfTwo 5 = .ok (.iaload, 1) := by decide +kernel
theorem dX10_isFirstOfTwo_6 : decode cX10_isFirstOfTwo 6 = .ok (.ifCond .ne 43, 3) := by decide +kernel
theorem dX10_isFirstOfTwo_9 : decode cX10_isFirstOfTwo 9 = .ok (.iload_n 1, 1) := by decide +kernel
theorem dX10_isFirstOfTwo_10 : decode cX10_isFirstOfTwo 10 = .ok (.bipush 43, 2) := by decide +kernel
theorem dX10_isFirstOfTwo_12 : decode cX10_isFirstOfTwo 12 = .ok (.if_icmp .eq 33, 3) := by decide +kernel
theorem dX10_isFirstOfTwo_15 : decode cX10_isFirstOfTwo 15 = .ok (.iload_n 1, 1) := by decide +kernel
theorem dX10_isFirstOfTwo_16 : decode cX10_isFirstOfTwo 16 = .ok (.bipush 45, 2) := by decide +kernel
theorem dX10_isFirstOfTwo_18 : decode cX10_isFirstOfTwo 18 = .ok (.if_icmp .eq 27, 3) := by decide +kernel
theorem dX10_isFirstOfTwo_21 : decode cX10_isFirstOfTwo 21 = .ok (.iload_n 1, 1) := by decide +kernel
theorem dX10_isFirstOfTwo_22 : decode cX10_isFirstOfTwo 22 = .ok (.bipush 42, 2) := by decide +kernel
theorem dX10_isFirstOfTwo_24 : decode cX10_isFirstOfTwo 24 = .ok (.if_icmp .eq 21, 3) := by decide +kernel
theorem dX10_isFirstOfTwo_27 : decode cX10_isFirstOfTwo 27 = .ok (.iload_n 1, 1) := by decide +kernel
theorem dX10_isFirstOfTwo_28 : decode cX10_isFirstOfTwo 28 = .ok (.bipush 64, 2) := by decide +kernel
theorem dX10_isFirstOfTwo_30 : decode cX10_isFirstOfTwo 30 = .ok (.if_icmp .eq 15, 3) := by decide +kernel
theorem dX10_isFirstOfTwo_33 : decode cX10_isFirstOfTwo 33 = .ok (.iload_n 1, 1) := by decide +kernel
theorem dX10_isFirstOfTwo_34 : decode cX10_isFirstOfTwo 34 = .ok (.bipush 66, 2) := by decide +kernel
theorem dX10_isFirstOfTwo_36 : decode cX10_isFirstOfTwo 36 = .ok (.if_icmp .eq 9, 3) := by decide +kernel
theorem dX10_isFirstOfTwo_39 : decode cX10_isFirstOfTwo 39 = .ok (.iload_n 1, 1) := by decide +kernel
theorem dX10_isFirstOfTwo_40 : decode cX10_isFirstOfTwo 40 = .ok (.bipush 67, 2) := by decide +kernel
theorem dX10_isFirstOfTwo_42 : decode cX10_isFirstOfTwo 42 = .ok (.if_icmp .ne 7, 3) := by decide +kernel
theorem dX10_isFirstOfTwo_45 : decode cX10_isFirstOfTwo 45 = .ok (.iconst 1, 1) := by decide +kernel
theorem dX10_isFirstOfTwo_46 : decode cX10_isFirstOfTwo 46 = .ok (.goto 4, 3) := by decide +kernel
theorem dX10_isFirstOfTwo_49 : decode cX10_isFirstOfTwo 49 = .ok (.iconst 0, 1) := by decide +kernel
theorem dX10_isFirstOfTwo_50 : decode cX10_isFirstOfTwo 50 = .ok (.ireturn, 1) := by decide +kernel
theorem dX10_goesOnOf_0 : decode cX10_goesOnOf 0 = .ok (.aload_n 0, 1) := by decide +kernel
theorem dX10_goesOnOf_1 : decode cX10_goesOnOf 1 = .ok (.getfield 13, 3) := by decide +kernel
theorem dX10_goesOnOf_4 : decode cX10_goesOnOf 4 = .ok (.iload_n 1, 1) := by decide +kernel
theorem dX10_goesOnOf_5 : decode cX10_goesOnOf 5 = .ok (.iaload, 1) := by decide +kernel
theorem dX10_goesOnOf_6 : decode cX10_goesOnOf 6 = .ok (.istore_n 3, 1) := by decide +kernel
theorem dX10_goesOnOf_7 : decode cX10_goesOnOf 7 = .ok (.iload_n 3, 1) := by decide +kernel
theorem dX10_goesOnOf_8 : decode cX10_goesOnOf 8 = .ok (.lookupswitch 362 #[(42, 132), (43, 132), (44, 159), (45, 132), (63, 150), (64, 242), (66, 301), (67, 324), (76, 184), (80, 265), (81, 283), (83, 223), (88, 355), (112, 347), (113, 347)], 132) := by decide +kernel
theorem dX10_goesOnOf_140 : decode cX10_goesOnOf 140 = .ok (.aload_n 0, 1) := by decide +kernel
theorem dX10_goesOnOf_141 : decode cX10_goesOnOf 141 = .ok (.iload_n 3, 1) := by decide +kernel
theorem dX10_goesOnOf_142 : decode cX10_goesOnOf 142 = .ok (.aload_n 0, 1) := by decide +kernel
theorem dX10_goesOnOf_143 : decode cX10_goesOnOf 143 = .ok (.getfield 107, 3) := by decide +kernel
theorem dX10_goesOnOf_146 : decode cX10_goesOnOf 146 = .ok (.iload_n 2, 1) := by decide +kernel
theorem dX10_goesOnOf_147 : decode cX10_goesOnOf 147 = .ok (.iaload, 1) := by decide +kernel
theorem dX10_goesOnOf_148 : decode cX10_goesOnOf 148 = .ok (.aload_n 0, 1) := by decide +kernel
theorem dX10_goesOnOf_149 : decode cX10_goesOnOf 149 = .ok (.getfield 233, 3) := by decide +kernel
theorem dX10_goesOnOf_152 : decode cX10_goesOnOf 152 = .ok (.invokevirtual 293, 3) := by decide +kernel
theorem dX10_goesOnOf_155 : decode cX10_goesOnOf 155 = .ok (.goto 215, 3) := by decide +kernel
theorem dX10_goesOnOf_158 : decode cX10_goesOnOf 158 = .ok (.aload_n 0, 1) := by decide +kernel
theorem dX10_goesOnOf_159 : decode cX10_goesOnOf 159 = .ok (.iload_n 1, 1) := by decide +kernel
theorem dX10_goesOnOf_160 : decode cX10_goesOnOf 160 = .ok (.iload_n 2, 1) := by decide +kernel
theorem dX10_goesOnOf_161 : decode cX10_goesOnOf 161 = .ok (.invokevirtual 296, 3) := by decide +kernel
theorem dX10_goesOnOf_164 : decode cX10_goesOnOf 164 = .ok (.goto 206, 3) := by decide +kernel
theorem dX10_goesOnOf_167 : decode cX10_goesOnOf 167 = .ok (.aload_n 0, 1) := by decide +kernel
theorem dX10_goesOnOf_168 : decode cX10_goesOnOf 168 = .ok (.aload_n 0, 1) := by decide +kernel
theorem dX10_goesOnOf_169 : decode cX10_goesOnOf 169 = .ok (.getfield 19, 3) := by decide +kernel
theorem dX10_goesOnOf_172 : decode cX10_goesOnOf 172 = .ok (.iload_n 1, 1) := by decide +kernel
theorem dX10_goesOnOf_173 : decode cX10_goesOnOf 173 = .ok (.iaload, 1) := by decide +kernel
theorem dX10_goesOnOf_174 : decode cX10_goesOnOf 174 = .ok (.aload_n 0, 1) := by decide +kernel
theorem dX10_goesOnOf_175 : decode cX10_goesOnOf 175 = .ok (.getfield 101, 3) := by decide +kernel
theorem dX10_goesOnOf_178 : decode cX10_goesOnOf 178 = .ok (.iload_n 2, 1) := by decide +kernel
theorem dX10_goesOnOf_179 : decode cX10_goesOnOf 179 = .ok (.iaload, 1) := by decide +kernel
theorem dX10_goesOnOf_180 : decode cX10_goesOnOf 180 = .ok (.aload_n 0, 1) := by decide +kernel
theorem dX10_goesOnOf_181 : decode cX10_goesOnOf 181 = .ok (.getfield 104, 3) := by decide +kernel
theorem dX10_goesOnOf_184 : decode cX10_goesOnOf 184 = .ok (.iload_n 2, 1) := by decide +kernel
theorem dX10_goesOnOf_185 : decode cX10_goesOnOf 185 = .ok (.iaload, 1) := by decide +kernel
theorem dX10_goesOnOf_186 : decode cX10_goesOnOf 186 = .ok (.invokevirtual 268, 3) := by decide +kernel
theorem dX10_goesOnOf_189 : decode cX10_goesOnOf 189 = .ok (.goto 181, 3) := by decide +kernel
theorem dX10_goesOnOf_192 : decode cX10_goesOnOf 192 = .ok (.aload_n 0, 1) := by decide +kernel
theorem dX10_goesOnOf_193 : decode cX10_goesOnOf 193 = .ok (.aload_n 0, 1) := by decide +kernel
theorem dX10_goesOnOf_194 : decode cX10_goesOnOf 194 = .ok (.getfield 19, 3) := by decide +kernel
theorem dX10_goesOnOf_197 : decode cX10_goesOnOf 197 = .ok (.iload_n 1, 1) := by decide +kernel
theorem dX10_goesOnOf_198 : decode cX10_goesOnOf 198 = .ok (.iaload, 1) := by decide +kernel
theorem dX10_goesOnOf_199 : decode cX10_goesOnOf 199 = .ok (.aload_n 0, 1) := by decide +kernel
theorem dX10_goesOnOf_200 : decode cX10_goesOnOf 200 = .ok (.aload_n 0, 1) := by decide +kernel
theorem dX10_goesOnOf_201 : decode cX10_goesOnOf 201 = .ok (.getfield 25, 3) := by decide +kernel
theorem dX10_goesOnOf_204 : decode cX10_goesOnOf 204 = .ok (.iload_n 1, 1) := by decide +kernel
theorem dX10_goesOnOf_205 : decode cX10_goesOnOf 205 = .ok (.iaload, 1) := by decide +kernel
theorem dX10_goesOnOf_206 : decode cX10_goesOnOf 206 = .ok (.aload_n 0, 1) := by decide +kernel
theorem dX10_goesOnOf_207 : decode cX10_goesOnOf 207 = .ok (.getfield 233, 3) := by decide +kernel
theorem dX10_goesOnOf_210 : decode cX10_goesOnOf 210 = .ok (.aload_n 0, 1) := by decide +kernel
theorem dX10_goesOnOf_211 : decode cX10_goesOnOf 211 = .ok (.getfield 101, 3) := by decide +kernel
theorem dX10_goesOnOf_214 : decode cX10_goesOnOf 214 = .ok (.iload_n 2, 1) := by decide +kernel
theorem dX10_goesOnOf_215 : decode cX10_goesOnOf 215 = .ok (.iaload, 1) := by decide +kernel
theorem dX10_goesOnOf_216 : decode cX10_goesOnOf 216 = .ok (.invokevirtual 281, 3) := by decide +kernel
theorem dX10_goesOnOf_219 : decode cX10_goesOnOf 219 = .ok (.aload_n 0, 1) := by decide +kernel
theorem dX10_goesOnOf_220 : decode cX10_goesOnOf 220 = .ok (.getfield 104, 3) := by decide +kernel
theorem dX10_goesOnOf_223 : decode cX10_goesOnOf 223 = .ok (.iload_n 2, 1) := by decide +kernel
theorem dX10_goesOnOf_224 : decode cX10_goesOnOf 224 = .ok (.iaload, 1) := by decide +kernel
theorem dX10_goesOnOf_225 : decode cX10_goesOnOf 225 = .ok (.invokevirtual 268, 3) := by decide +kernel
theorem dX10_goesOnOf_228 : decode cX10_goesOnOf 228 = .ok (.goto 142, 3) := by decide +kernel
theorem dX10_goesOnOf_231 : decode cX10_goesOnOf 231 = .ok (.aload_n 0, 1) := by decide +kernel
theorem dX10_goesOnOf_232 : decode cX10_goesOnOf 232 = .ok (.aload_n 0, 1) := by decide +kernel
theorem dX10_goesOnOf_233 : decode cX10_goesOnOf 233 = .ok (.getfield 25, 3) := by decide +kernel
theorem dX10_goesOnOf_236 : decode cX10_goesOnOf 236 = .ok (.iload_n 1, 1) := by decide +kernel
theorem dX10_goesOnOf_237 : decode cX10_goesOnOf 237 = .ok (.iaload, 1) := by decide +kernel
theorem dX10_goesOnOf_238 : decode cX10_goesOnOf 238 = .ok (.aload_n 0, 1) := by decide +kernel
theorem dX10_goesOnOf_239 : decode cX10_goesOnOf 239 = .ok (.getfield 101, 3) := by decide +kernel
theorem dX10_goesOnOf_242 : decode cX10_goesOnOf 242 = .ok (.iload_n 2, 1) := by decide +kernel
theorem dX10_goesOnOf_243 : decode cX10_goesOnOf 243 = .ok (.iaload, 1) := by decide +kernel
theorem dX10_goesOnOf_244 : decode cX10_goesOnOf 244 = .ok (.invokevirtual 299, 3) := by decide +kernel
theorem dX10_goesOnOf_247 : decode cX10_goesOnOf 247 = .ok (.goto 123, 3) := by decide +kernel
theorem dX10_goesOnOf_250 : decode cX10_goesOnOf 250 = .ok (.aload_n 0, 1) := by decide +kernel
theorem dX10_goesOnOf_251 : decode cX10_goesOnOf 251 = .ok (.aload_n 0, 1) := by decide +kernel
theorem dX10_goesOnOf_252 : decode cX10_goesOnOf 252 = .ok (.getfield 107, 3) := by decide +kernel
theorem dX10_goesOnOf_255 : decode cX10_goesOnOf 255 = .ok (.iload_n 2, 1) := by decide +kernel
theorem dX10_goesOnOf_256 : decode cX10_goesOnOf 256 = .ok (.iaload, 1) := by decide +kernel
theorem dX10_goesOnOf_257 : decode cX10_goesOnOf 257 = .ok (.aload_n 0, 1) := by decide +kernel
theorem dX10_goesOnOf_258 : decode cX10_goesOnOf 258 = .ok (.getfield 233, 3) := by decide +kernel
theorem dX10_goesOnOf_261 : decode cX10_goesOnOf 261 = .ok (.aload_n 0, 1) := by decide +kernel
theorem dX10_goesOnOf_262 : decode cX10_goesOnOf 262 = .ok (.getfield 104, 3) := by decide +kernel
theorem dX10_goesOnOf_265 : decode cX10_goesOnOf 265 = .ok (.iload_n 2, 1) := by decide +kernel
theorem dX10_goesOnOf_266 : decode cX10_goesOnOf 266 = .ok (.iaload, 1) := by decide +kernel
theorem dX10_goesOnOf_267 : decode cX10_goesOnOf 267 = .ok (.invokevirtual 302, 3) := by decide +kernel
theorem dX10_goesOnOf_270 : decode cX10_goesOnOf 270 = .ok (.goto 100, 3) := by decide +kernel
theorem dX10_goesOnOf_273 : decode cX10_goesOnOf 273 = .ok (.aload_n 0, 1) := by decide +kernel
theorem dX10_goesOnOf_274 : decode cX10_goesOnOf 274 = .ok (.aload_n 0, 1) := by decide +kernel
theorem dX10_goesOnOf_275 : decode cX10_goesOnOf 275 = .ok (.iconst 2, 1) := by decide +kernel
theorem dX10_goesOnOf_276 : decode cX10_goesOnOf 276 = .ok (.iconst 0, 1) := by decide +kernel
theorem dX10_goesOnOf_277 : decode cX10_goesOnOf 277 = .ok (.aload_n 0, 1) := by decide +kernel
theorem dX10_goesOnOf_278 : decode cX10_goesOnOf 278 = .ok (.getfield 233, 3) := by decide +kernel
theorem dX10_goesOnOf_281 : decode cX10_goesOnOf 281 = .ok (.iconst 0, 1) := by decide +kernel
theorem dX10_goesOnOf_282 : decode cX10_goesOnOf 282 = .ok (.invokevirtual 249, 3) := by decide +kernel
theorem dX10_goesOnOf_285 : decode cX10_goesOnOf 285 = .ok (.invokevirtual 253, 3) := by decide +kernel
theorem dX10_goesOnOf_288 : decode cX10_goesOnOf 288 = .ok (.goto 82, 3) := by decide +kernel
theorem dX10_goesOnOf_291 : decode cX10_goesOnOf 291 = .ok (.aload_n 0, 1) := by decide +kernel
theorem dX10_goesOnOf_292 : decode cX10_goesOnOf 292 = .ok (.aload_n 0, 1) := by decide +kernel
theorem dX10_goesOnOf_293 : decode cX10_goesOnOf 293 = .ok (.iconst 2, 1) := by decide +kernel
theorem dX10_goesOnOf_294 : decode cX10_goesOnOf 294 = .ok (.iconst 1, 1) := by decide +kernel
theorem dX10_goesOnOf_295 : decode cX10_goesOnOf 295 = .ok (.aload_n 0, 1) := by decide +kernel
theorem dX10_goesOnOf_296 : decode cX10_goesOnOf 296 = .ok (.getfield 233, 3) := by decide +kernel
theorem dX10_goesOnOf_299 : decode cX10_goesOnOf 299 = .ok (.iconst 0, 1) := by decide +kernel
theorem dX10_goesOnOf_300 : decode cX10_goesOnOf 300 = .ok (.invokevirtual 249, 3) := by decide +kernel
theorem dX10_goesOnOf_303 : decode cX10_goesOnOf 303 = .ok (.invokevirtual 253, 3) := by decide +kernel
theorem dX10_goesOnOf_306 : decode cX10_goesOnOf 306 = .ok (.goto 64, 3) := by decide +kernel
theorem dX10_goesOnOf_309 : decode cX10_goesOnOf 309 = .ok (.aload_n 0, 1) := by decide +kernel
theorem dX10_goesOnOf_310 : decode cX10_goesOnOf 310 = .ok (.aload_n 0, 1) := by decide +kernel
theorem dX10_goesOnOf_311 : decode cX10_goesOnOf 311 = .ok (.iconst 2, 1) := by decide +kernel
theorem dX10_goesOnOf_312 : decode cX10_goesOnOf 312 = .ok (.iconst 2, 1) := by decide +kernel
theorem dX10_goesOnOf_313 : decode cX10_goesOnOf 313 = .ok (.aload_n 0, 1) := by decide +kernel
theorem dX10_goesOnOf_314 : decode cX10_goesOnOf 314 = .ok (.getfield 107, 3) := by decide +kernel
theorem dX10_goesOnOf_317 : decode cX10_goesOnOf 317 = .ok (.iload_n 2, 1) := by decide +kernel
theorem dX10_goesOnOf_318 : decode cX10_goesOnOf 318 = .ok (.iaload, 1) := by decide +kernel
theorem dX10_goesOnOf_319 : decode cX10_goesOnOf 319 = .ok (.aload_n 0, 1) := by decide +kernel
theorem dX10_goesOnOf_320 : decode cX10_goesOnOf 320 = .ok (.getfield 233, 3) := by decide +kernel
theorem dX10_goesOnOf_323 : decode cX10_goesOnOf 323 = .ok (.invokevirtual 249, 3) := by decide +kernel
theorem dX10_goesOnOf_326 : decode cX10_goesOnOf 326 = .ok (.invokevirtual 253, 3) := by decide +kernel
theorem dX10_goesOnOf_329 : decode cX10_goesOnOf 329 = .ok (.goto 41, 3) := by decide +kernel
theorem dX10_goesOnOf_332 : decode cX10_goesOnOf 332 = .ok (.aload_n 0, 1) := by decide +kernel
theorem dX10_goesOnOf_333 : decode cX10_goesOnOf 333 = .ok (.aload_n 0, 1) := by decide +kernel
theorem dX10_goesOnOf_334 : decode cX10_goesOnOf 334 = .ok (.iconst 2, 1) := by decide +kernel
theorem dX10_goesOnOf_335 : decode cX10_goesOnOf 335 = .ok (.iconst 3, 1) := by decide +kernel
theorem dX10_goesOnOf_336 : decode cX10_goesOnOf 336 = .ok (.aload_n 0, 1) := by decide +kernel
theorem dX10_goesOnOf_337 : decode cX10_goesOnOf 337 = .ok (.getfield 107, 3) := by decide +kernel
theorem dX10_goesOnOf_340 : decode cX10_goesOnOf 340 = .ok (.iload_n 2, 1) := by decide +kernel
theorem dX10_goesOnOf_341 : decode cX10_goesOnOf 341 = .ok (.iaload, 1) := by decide +kernel
theorem dX10_goesOnOf_342 : decode cX10_goesOnOf 342 = .ok (.aload_n 0, 1) := by decide +kernel
theorem dX10_goesOnOf_343 : decode cX10_goesOnOf 343 = .ok (.getfield 233, 3) := by decide +kernel
theorem dX10_goesOnOf_346 : decode cX10_goesOnOf 346 = .ok (.invokevirtual 249, 3) := by decide +kernel
theorem dX10_goesOnOf_349 : decode cX10_goesOnOf 349 = .ok (.invokevirtual 253, 3) := by decide +kernel
theorem dX10_goesOnOf_352 : decode cX10_goesOnOf 352 = .ok (.goto 18, 3) := by decide +kernel
theorem dX10_goesOnOf_355 : decode cX10_goesOnOf 355 = .ok (.aload_n 0, 1) := by decide +kernel
theorem dX10_goesOnOf_356 : decode cX10_goesOnOf 356 = .ok (.iload_n 1, 1) := by decide +kernel
theorem dX10_goesOnOf_357 : decode cX10_goesOnOf 357 = .ok (.invokevirtual 305, 3) := by decide +kernel
theorem dX10_goesOnOf_360 : decode cX10_goesOnOf 360 = .ok (.goto 10, 3) := by decide +kernel
theorem dX10_goesOnOf_363 : decode cX10_goesOnOf 363 = .ok (.aload_n 0, 1) := by decide +kernel
theorem dX10_goesOnOf_364 : decode cX10_goesOnOf 364 = .ok (.invokevirtual 308, 3) := by decide +kernel
theorem dX10_goesOnOf_367 : decode cX10_goesOnOf 367 = .ok (.goto 3, 3) := by decide +kernel
theorem dX10_goesOnOf_370 : decode cX10_goesOnOf 370 = .ok (.return_, 1) := by decide +kernel
theorem dX10_goesOn_0 : decode cX10_goesOn 0 = .ok (.aload_n 0, 1) := by decide +kernel
theorem dX10_goesOn_1 : decode cX10_goesOn 1 = .ok (.dup, 1) := by decide +kernel
theorem dX10_goesOn_2 : decode cX10_goesOn 2 = .ok (.getfield 243, 3) := by decide +kernel
theorem dX10_goesOn_5 : decode cX10_goesOn 5 = .ok (.iconst 1, 1) := by decide +kernel
theorem dX10_goesOn_6 : decode cX10_goesOn 6 = .ok (.isub, 1) := by decide +kernel
theorem dX10_goesOn_7 : decode cX10_goesOn 7 = .ok (.putfield 243, 3) := by decide +kernel
theorem dX10_goesOn_10 : decode cX10_goesOn 10 = .ok (.aload_n 0, 1) := by decide +kernel
theorem dX10_goesOn_11 : decode cX10_goesOn 11 = .ok (.getfield 243, 3) := by decide +kernel
theorem dX10_goesOn_14 : decode cX10_goesOn 14 = .ok (.istore_n 1, 1) := by decide +kernel
theorem dX10_goesOn_15 : decode cX10_goesOn 15 = .ok (.aload_n 0, 1) := by decide +kernel
theorem dX10_goesOn_16 : decode cX10_goesOn 16 = .ok (.getfield 95, 3) := by decide +kernel
theorem dX10_goesOn_19 : decode cX10_goesOn 19 = .ok (.iload_n 1, 1) := by decide +kernel
theorem dX10_goesOn_20 : decode cX10_goesOn 20 = .ok (.iaload, 1) := by decide +kernel
theorem dX10_goesOn_21 : decode cX10_goesOn 21 = .ok (.istore_n 2, 1) := by decide +kernel
theorem dX10_goesOn_22 : decode cX10_goesOn 22 = .ok (.iload_n 2, 1) := by decide +kernel
theorem dX10_goesOn_23 : decode cX10_goesOn 23 = .ok (.iconst (-1), 1) := by decide +kernel
theorem dX10_goesOn_24 : decode cX10_goesOn 24 = .ok (.if_icmp .ne 16, 3) := by decide +kernel
theorem dX10_goesOn_27 : decode cX10_goesOn 27 = .ok (.aload_n 0, 1) := by decide +kernel
theorem dX10_goesOn_28 : decode cX10_goesOn 28 = .ok (.dup, 1) := by decide +kernel
theorem dX10_goesOn_29 : decode cX10_goesOn 29 = .ok (.getfield 275, 3) := by decide +kernel
theorem dX10_goesOn_32 : decode cX10_goesOn 32 = .ok (.iconst 1, 1) := by decide +kernel
theorem dX10_goesOn_33 : decode cX10_goesOn 33 = .ok (.isub, 1) := by decide +kernel
theorem dX10_goesOn_34 : decode cX10_goesOn 34 = .ok (.putfield 275, 3) := by decide +kernel
theorem dX10_goesOn_37 : decode cX10_goesOn 37 = .ok (.goto 73, 3) := by decide +kernel
theorem dX10_goesOn_40 : decode cX10_goesOn 40 = .ok (.aload_n 0, 1) := by decide +kernel
theorem dX10_goesOn_41 : decode cX10_goesOn 41 = .ok (.getfield 13, 3) := by decide +kernel
theorem dX10_goesOn_44 : decode cX10_goesOn 44 = .ok (.iload_n 2, 1) := by decide +kernel
theorem dX10_goesOn_45 : decode cX10_goesOn 45 = .ok (.iaload, 1) := by decide +kernel
theorem dX10_goesOn_46 : decode cX10_goesOn 46 = .ok (.bipush 64, 2) := by decide +kernel
theorem dX10_goesOn_48 : decode cX10_goesOn 48 = .ok (.if_icmp .ne 33, 3) := by decide +kernel
theorem dX10_goesOn_51 : decode cX10_goesOn 51 = .ok (.aload_n 0, 1) := by decide +kernel
theorem dX10_goesOn_52 : decode cX10_goesOn 52 = .ok (.getfield 98, 3) := by decide +kernel
theorem dX10_goesOn_55 : decode cX10_goesOn 55 = .ok (.iload_n 1, 1) := by decide +kernel
theorem dX10_goesOn_56 : decode cX10_goesOn 56 = .ok (.iaload, 1) := by decide +kernel
theorem dX10_goesOn_57 : decode cX10_goesOn 57 = .ok (.ifCond .ne 24, 3) := by decide +kernel
theorem dX10_goesOn_60 : decode cX10_goesOn 60 = .ok (.aload_n 0, 1) := by decide +kernel
theorem dX10_goesOn_61 : decode cX10_goesOn 61 = .ok (.getfield 65, 3) := by decide +kernel
theorem dX10_goesOn_64 : decode cX10_goesOn 64 = .ok (.aload_n 0, 1) := by decide +kernel
theorem dX10_goesOn_65 : decode cX10_goesOn 65 = .ok (.getfield 233, 3) := by decide +kernel
theorem dX10_goesOn_68 : decode cX10_goesOn 68 = .ok (.iaload, 1) := by decide +kernel
theorem dX10_goesOn_69 : decode cX10_goesOn 69 = .ok (.iconst 1, 1) := by decide +kernel
theorem dX10_goesOn_70 : decode cX10_goesOn 70 = .ok (.if_icmp .eq 11, 3) := by decide +kernel
theorem dX10_goesOn_73 : decode cX10_goesOn 73 = .ok (.aload_n 0, 1) := by decide +kernel
theorem dX10_goesOn_74 : decode cX10_goesOn 74 = .ok (.iconst 2, 1) := by decide +kernel
theorem dX10_goesOn_75 : decode cX10_goesOn 75 = .ok (.invokevirtual 259, 3) := by decide +kernel
theorem dX10_goesOn_78 : decode cX10_goesOn 78 = .ok (.goto 32, 3) := by decide +kernel
theorem dX10_goesOn_81 : decode cX10_goesOn 81 = .ok (.aload_n 0, 1) := by decide +kernel
theorem dX10_goesOn_82 : decode cX10_goesOn 82 = .ok (.aload_n 0, 1) := by decide +kernel
theorem dX10_goesOn_83 : decode cX10_goesOn 83 = .ok (.getfield 13, 3) := by decide +kernel
theorem dX10_goesOn_86 : decode cX10_goesOn 86 = .ok (.iload_n 2, 1) := by decide +kernel
theorem dX10_goesOn_87 : decode cX10_goesOn 87 = .ok (.iaload, 1) := by decide +kernel
theorem dX10_goesOn_88 : decode cX10_goesOn 88 = .ok (.iload_n 1, 1) := by decide +kernel
theorem dX10_goesOn_89 : decode cX10_goesOn 89 = .ok (.invokevirtual 311, 3) := by decide +kernel
theorem dX10_goesOn_92 : decode cX10_goesOn 92 = .ok (.ifCond .eq 12, 3) := by decide +kernel
theorem dX10_goesOn_95 : decode cX10_goesOn 95 = .ok (.aload_n 0, 1) := by decide +kernel
theorem dX10_goesOn_96 : decode cX10_goesOn 96 = .ok (.iload_n 2, 1) := by decide +kernel
theorem dX10_goesOn_97 : decode cX10_goesOn 97 = .ok (.iload_n 1, 1) := by decide +kernel
theorem dX10_goesOn_98 : decode cX10_goesOn 98 = .ok (.invokevirtual 314, 3) := by decide +kernel
theorem dX10_goesOn_101 : decode cX10_goesOn 101 = .ok (.goto 9, 3) := by decide +kernel
theorem dX10_goesOn_104 : decode cX10_goesOn 104 = .ok (.aload_n 0, 1) := by decide +kernel
theorem dX10_goesOn_105 : decode cX10_goesOn 105 = .ok (.iload_n 2, 1) := by decide +kernel
theorem dX10_goesOn_106 : decode cX10_goesOn 106 = .ok (.iload_n 1, 1) := by decide +kernel
theorem dX10_goesOn_107 : decode cX10_goesOn 107 = .ok (.invokevirtual 317, 3) := by decide +kernel
theorem dX10_goesOn_110 : decode cX10_goesOn 110 = .ok (.return_, 1) := by decide +kernel
theorem dX10_falls_0 : decode cX10_falls 0 = .ok (.aload_n 0, 1) := by decide +kernel
theorem dX10_falls_1 : decode cX10_falls 1 = .ok (.dup, 1) := by decide +kernel
theorem dX10_falls_2 : decode cX10_falls 2 = .ok (.getfield 243, 3) := by decide +kernel
theorem dX10_falls_5 : decode cX10_falls 5 = .ok (.iconst 1, 1) := by decide +kernel
theorem dX10_falls_6 : decode cX10_falls 6 = .ok (.isub, 1) := by decide +kernel
theorem dX10_falls_7 : decode cX10_falls 7 = .ok (.putfield 243, 3) := by decide +kernel
theorem dX10_falls_10 : decode cX10_falls 10 = .ok (.aload_n 0, 1) := by decide +kernel
theorem dX10_falls_11 : decode cX10_falls 11 = .ok (.getfield 95, 3) := by decide +kernel
theorem dX10_falls_14 : decode cX10_falls 14 = .ok (.aload_n 0, 1) := by decide +kernel
theorem dX10_falls_15 : decode cX10_falls 15 = .ok (.getfield 243, 3) := by decide +kernel
theorem dX10_falls_18 : decode cX10_falls 18 = .ok (.iaload, 1) := by decide +kernel
theorem dX10_falls_19 : decode cX10_falls 19 = .ok (.istore_n 1, 1) := by decide +kernel
theorem dX10_falls_20 : decode cX10_falls 20 = .ok (.iload_n 1, 1) := by decide +kernel
theorem dX10_falls_21 : decode cX10_falls 21 = .ok (.iconst (-1), 1) := by decide +kernel
theorem dX10_falls_22 : decode cX10_falls 22 = .ok (.if_icmp .ne 14, 3) := by decide +kernel
theorem dX10_falls_25 : decode cX10_falls 25 = .ok (.aload_n 0, 1) := by decide +kernel
theorem dX10_falls_26 : decode cX10_falls 26 = .ok (.dup, 1) := by decide +kernel
theorem dX10_falls_27 : decode cX10_falls 27 = .ok (.getfield 275, 3) := by decide +kernel
theorem dX10_falls_30 : decode cX10_falls 30 = .ok (.iconst 1, 1) := by decide +kernel
theorem dX10_falls_31 : decode cX10_falls 31 = .ok (.isub, 1) := by decide +kernel
theorem dX10_falls_32 : decode cX10_falls 32 = .ok (.putfield 275, 3) := by decide +kernel
theorem dX10_falls_35 : decode cX10_falls 35 = .ok (.return_, 1) := by decide +kernel
theorem dX10_falls_36 : decode cX10_falls 36 = .ok (.aload_n 0, 1) := by decide +kernel
theorem dX10_falls_37 : decode cX10_falls 37 = .ok (.getfield 89, 3) := by decide +kernel
theorem dX10_falls_40 : decode cX10_falls 40 = .ok (.aload_n 0, 1) := by decide +kernel
theorem dX10_falls_41 : decode cX10_falls 41 = .ok (.getfield 240, 3) := by decide +kernel
theorem dX10_falls_44 : decode cX10_falls 44 = .ok (.iaload, 1) := by decide +kernel
theorem dX10_falls_45 : decode cX10_falls 45 = .ok (.istore_n 2, 1) := by decide +kernel
theorem dX10_falls_46 : decode cX10_falls 46 = .ok (.aload_n 0, 1) := by decide +kernel
theorem dX10_falls_47 : decode cX10_falls 47 = .ok (.getfield 13, 3) := by decide +kernel
theorem dX10_falls_50 : decode cX10_falls 50 = .ok (.iload_n 1, 1) := by decide +kernel
theorem dX10_falls_51 : decode cX10_falls 51 = .ok (.iaload, 1) := by decide +kernel
theorem dX10_falls_52 : decode cX10_falls 52 = .ok (.bipush 87, 2) := by decide +kernel
theorem dX10_falls_54 : decode cX10_falls 54 = .ok (.if_icmp .ne 17, 3) := by decide +kernel
theorem dX10_falls_57 : decode cX10_falls 57 = .ok (.aload_n 0, 1) := by decide +kernel
theorem dX10_falls_58 : decode cX10_falls 58 = .ok (.aload_n 0, 1) := by decide +kernel
theorem dX10_falls_59 : decode cX10_falls 59 = .ok (.bipush 7, 2) := by decide +kernel
theorem dX10_falls_61 : decode cX10_falls 61 = .ok (.aload_n 0, 1) := by decide +kernel
theorem dX10_falls_62 : decode cX10_falls 62 = .ok (.getfield 240, 3) := by decide +kernel
theorem dX10_falls_65 : decode cX10_falls 65 = .ok (.invokevirtual 236, 3) := by decide +kernel
theorem dX10_falls_68 : decode cX10_falls 68 = .ok (.putfield 240, 3) := by decide +kernel
theorem dX10_falls_71 : decode cX10_falls 71 = .ok (.aload_n 0, 1) := by decide +kernel
theorem dX10_falls_72 : decode cX10_falls 72 = .ok (.getfield 13, 3) := by decide +kernel
theorem dX10_falls_75 : decode cX10_falls 75 = .ok (.iload_n 1, 1) := by decide +kernel
theorem dX10_falls_76 : decode cX10_falls 76 = .ok (.iaload, 1) := by decide +kernel
theorem dX10_falls_77 : decode cX10_falls 77 = .ok (.bipush 89, 2) := by decide +kernel
theorem dX10_falls_79 : decode cX10_falls 79 = .ok (.if_icmp .ne 14, 3) := by decide +kernel
theorem dX10_falls_82 : decode cX10_falls 82 = .ok (.iload_n 2, 1) := by decide +kernel
theorem dX10_falls_83 : decode cX10_falls 83 = .ok (.iconst 5, 1) := by decide +kernel
theorem dX10_falls_84 : decode cX10_falls 84 = .ok (.if_icmp .eq 9, 3) := by decide +kernel
theorem dX10_falls_87 : decode cX10_falls 87 = .ok (.iload_n 2, 1) := by decide +kernel
theorem dX10_falls_88 : decode cX10_falls 88 = .ok (.bipush 6, 2) := by decide +kernel
theorem dX10_falls_90 : decode cX10_falls 90 = .ok (.if_icmp .ne 4, 3) := by decide +kernel
theorem dX10_falls_93 : decode cX10_falls 93 = .ok (.return_, 1) := by decide +kernel
theorem dX10_falls_94 : decode cX10_falls 94 = .ok (.aload_n 0, 1) := by decide +kernel
theorem dX10_falls_95 : decode cX10_falls 95 = .ok (.aload_n 0, 1) := by decide +kernel
theorem dX10_falls_96 : decode cX10_falls 96 = .ok (.getfield 19, 3) := by decide +kernel
theorem dX10_falls_99 : decode cX10_falls 99 = .ok (.iload_n 1, 1) := by decide +kernel
theorem dX10_falls_100 : decode cX10_falls 100 = .ok (.iaload, 1) := by decide +kernel
theorem dX10_falls_101 : decode cX10_falls 101 = .ok (.aload_n 0, 1) := by decide +kernel
theorem dX10_falls_102 : decode cX10_falls 102 = .ok (.aload_n 0, 1) := by decide +kernel
theorem dX10_falls_103 : decode cX10_falls 103 = .ok (.getfield 25, 3) := by decide +kernel
theorem dX10_falls_106 : decode cX10_falls 106 = .ok (.iload_n 1, 1) := by decide +kernel
theorem dX10_falls_107 : decode cX10_falls 107 = .ok (.iaload, 1) := by decide +kernel
theorem dX10_falls_108 : decode cX10_falls 108 = .ok (.aload_n 0, 1) := by decide +kernel
theorem dX10_falls_109 : decode cX10_falls 109 = .ok (.iconst 0, 1) := by decide +kernel
theorem dX10_falls_110 : decode cX10_falls 110 = .ok (.iload_n 2, 1) := by decide +kernel
theorem dX10_falls_111 : decode cX10_falls 111 = .ok (.iconst 0, 1) := by decide +kernel
theorem dX10_falls_112 : decode cX10_falls 112 = .ok (.iconst 0, 1) := by decide +kernel
theorem dX10_falls_113 : decode cX10_falls 113 = .ok (.invokevirtual 249, 3) := by decide +kernel
theorem dX10_falls_116 : decode cX10_falls 116 = .ok (.aload_n 0, 1) := by decide +kernel
theorem dX10_falls_117 : decode cX10_falls 117 = .ok (.getfield 101, 3) := by decide +kernel
theorem dX10_falls_120 : decode cX10_falls 120 = .ok (.aload_n 0, 1) := by decide +kernel
theorem dX10_falls_121 : decode cX10_falls 121 = .ok (.getfield 243, 3) := by decide +kernel
theorem dX10_falls_124 : decode cX10_falls 124 = .ok (.iaload, 1) := by decide +kernel
theorem dX10_falls_125 : decode cX10_falls 125 = .ok (.invokevirtual 281, 3) := by decide +kernel
theorem dX10_falls_128 : decode cX10_falls 128 = .ok (.aload_n 0, 1) := by decide +kernel
theorem dX10_falls_129 : decode cX10_falls 129 = .ok (.getfield 104, 3) := by decide +kernel
theorem dX10_falls_132 : decode cX10_falls 132 = .ok (.aload_n 0, 1) := by decide +kernel
theorem dX10_falls_133 : decode cX10_falls 133 = .ok (.getfield 243, 3) := by decide +kernel
theorem dX10_falls_136 : decode cX10_falls 136 = .ok (.iaload, 1) := by decide +kernel
theorem dX10_falls_137 : decode cX10_falls 137 = .ok (.invokevirtual 268, 3) := by decide +kernel
theorem dX10_falls_140 : decode cX10_falls 140 = .ok (.return_, 1) := by decide +kernel
theorem dX10_goes_0 : decode cX10_goes 0 = .ok (.aload_n 0, 1) := by decide +kernel
theorem dX10_goes_1 : decode cX10_goes 1 = .ok (.iconst 0, 1) := by decide +kernel
theorem dX10_goes_2 : decode cX10_goes 2 = .ok (.putfield 209, 3) := by decide +kernel
theorem dX10_goes_5 : decode cX10_goes 5 = .ok (.aload_n 0, 1) := by decide +kernel
theorem dX10_goes_6 : decode cX10_goes 6 = .ok (.iconst 0, 1) := by decide +kernel
theorem dX10_goes_7 : decode cX10_goes 7 = .ok (.putfield 212, 3) := by decide +kernel
theorem dX10_goes_10 : decode cX10_goes 10 = .ok (.aload_n 0, 1) := by decide +kernel
theorem dX10_goes_11 : decode cX10_goes 11 = .ok (.iconst 1, 1) := by decide +kernel
theorem dX10_goes_12 : decode cX10_goes 12 = .ok (.putfield 215, 3) := by decide +kernel
theorem dX10_goes_15 : decode cX10_goes 15 = .ok (.aload_n 0, 1) := by decide +kernel
theorem dX10_goes_16 : decode cX10_goes 16 = .ok (.iconst 0, 1) := by decide +kernel
theorem dX10_goes_17 : decode cX10_goes 17 = .ok (.putfield 218, 3) := by decide +kernel
theorem dX10_goes_20 : decode cX10_goes 20 = .ok (.aload_n 0, 1) := by decide +kernel
theorem dX10_goes_21 : decode cX10_goes 21 = .ok (.iconst 0, 1) := by decide +kernel
theorem dX10_goes_22 : decode cX10_goes 22 = .ok (.putfield 243, 3) := by decide +kernel
theorem dX10_goes_25 : decode cX10_goes 25 = .ok (.aload_n 0, 1) := by decide +kernel
theorem dX10_goes_26 : decode cX10_goes 26 = .ok (.iconst 0, 1) := by decide +kernel
theorem dX10_goes_27 : decode cX10_goes 27 = .ok (.putfield 256, 3) := by decide +kernel
theorem dX10_goes_30 : decode cX10_goes 30 = .ok (.aload_n 0, 1) := by decide +kernel
theorem dX10_goes_31 : decode cX10_goes 31 = .ok (.iconst 0, 1) := by decide +kernel
theorem dX10_goes_32 : decode cX10_goes 32 = .ok (.putfield 275, 3) := by decide +kernel
theorem dX10_goes_35 : decode cX10_goes 35 = .ok (.aload_n 0, 1) := by decide +kernel
theorem dX10_goes_36 : decode cX10_goes 36 = .ok (.iconst 0, 1) := by decide +kernel
theorem dX10_goes_37 : decode cX10_goes 37 = .ok (.putfield 278, 3) := by decide +kernel
theorem dX10_goes_40 : decode cX10_goes 40 = .ok (.aload_n 0, 1) := by decide +kernel
theorem dX10_goes_41 : decode cX10_goes 41 = .ok (.iconst 0, 1) := by decide +kernel
theorem dX10_goes_42 : decode cX10_goes 42 = .ok (.putfield 272, 3) := by decide +kernel
theorem dX10_goes_45 : decode cX10_goes 45 = .ok (.aload_n 0, 1) := by decide +kernel
theorem dX10_goes_46 : decode cX10_goes 46 = .ok (.aload_n 0, 1) := by decide +kernel
theorem dX10_goes_47 : decode cX10_goes 47 = .ok (.getfield 199, 3) := by decide +kernel
theorem dX10_goes_50 : decode cX10_goes 50 = .ok (.iconst 0, 1) := by decide +kernel
theorem dX10_goes_51 : decode cX10_goes 51 = .ok (.iconst 0, 1) := by decide +kernel
theorem dX10_goes_52 : decode cX10_goes 52 = .ok (.invokevirtual 268, 3) := by decide +kernel
theorem dX10_goes_55 : decode cX10_goes 55 = .ok (.aload_n 0, 1) := by decide +kernel
theorem dX10_goes_56 : decode cX10_goes 56 = .ok (.getfield 221, 3) := by decide +kernel
theorem dX10_goes_59 : decode cX10_goes 59 = .ok (.ifCond .eq 10, 3) := by decide +kernel
theorem dX10_goes_62 : decode cX10_goes 62 = .ok (.aload_n 0, 1) := by decide +kernel
theorem dX10_goes_63 : decode cX10_goes 63 = .ok (.getfield 243, 3) := by decide +kernel
theorem dX10_goes_66 : decode cX10_goes 66 = .ok (.ifCond .le 39, 3) := by decide +kernel
theorem dX10_goes_69 : decode cX10_goes 69 = .ok (.aload_n 0, 1) := by decide +kernel
theorem dX10_goes_70 : decode cX10_goes 70 = .ok (.getfield 221, 3) := by decide +kernel
theorem dX10_goes_73 : decode cX10_goes 73 = .ok (.ifCond .ne 10, 3) := by decide +kernel
theorem dX10_goes_76 : decode cX10_goes 76 = .ok (.aload_n 0, 1) := by decide +kernel
theorem dX10_goes_77 : decode cX10_goes 77 = .ok (.invokevirtual 320, 3) := by decide +kernel
theorem dX10_goes_80 : decode cX10_goes 80 = .ok (.goto (-25), 3) := by decide +kernel
theorem dX10_goes_83 : decode cX10_goes 83 = .ok (.aload_n 0, 1) := by decide +kernel
theorem dX10_goes_84 : decode cX10_goes 84 = .ok (.getfield 221, 3) := by decide +kernel
theorem dX10_goes_87 : decode cX10_goes 87 = .ok (.iconst 1, 1) := by decide +kernel
theorem dX10_goes_88 : decode cX10_goes 88 = .ok (.if_icmp .ne 10, 3) := by decide +kernel
theorem dX10_goes_91 : decode cX10_goes 91 = .ok (.aload_n 0, 1) := by decide +kernel
theorem dX10_goes_92 : decode cX10_goes 92 = .ok (.invokevirtual 323, 3) := by decide +kernel
theorem dX10_goes_95 : decode cX10_goes 95 = .ok (.goto (-40), 3) := by decide +kernel
theorem dX10_goes_98 : decode cX10_goes 98 = .ok (.aload_n 0, 1) := by decide +kernel
theorem dX10_goes_99 : decode cX10_goes 99 = .ok (.invokevirtual 326, 3) := by decide +kernel
theorem dX10_goes_102 : decode cX10_goes 102 = .ok (.goto (-47), 3) := by decide +kernel
theorem dX10_goes_105 : decode cX10_goes 105 = .ok (.return_, 1) := by decide +kernel
theorem dX10_howNow_0 : decode cX10_howNow 0 = .ok (.aload_n 0, 1) := by decide +kernel
theorem dX10_howNow_1 : decode cX10_howNow 1 = .ok (.getfield 221, 3) := by decide +kernel
theorem dX10_howNow_4 : decode cX10_howNow 4 = .ok (.iconst 2, 1) := by decide +kernel
theorem dX10_howNow_5 : decode cX10_howNow 5 = .ok (.if_icmp .ne 7, 3) := by decide +kernel
theorem dX10_howNow_8 : decode cX10_howNow 8 = .ok (.iconst 3, 1) := by decide +kernel
theorem dX10_howNow_9 : decode cX10_howNow 9 = .ok (.goto 12, 3) := by decide +kernel
theorem dX10_howNow_12 : decode cX10_howNow 12 = .ok (.aload_n 0, 1) := by decide +kernel
theorem dX10_howNow_13 : decode cX10_howNow 13 = .ok (.getfield 65, 3) := by decide +kernel
theorem dX10_howNow_16 : decode cX10_howNow 16 = .ok (.aload_n 0, 1) := by decide +kernel
theorem dX10_howNow_17 : decode cX10_howNow 17 = .ok (.getfield 233, 3) := by decide +kernel
theorem dX10_howNow_20 : decode cX10_howNow 20 = .ok (.iaload, 1) := by decide +kernel
theorem dX10_howNow_21 : decode cX10_howNow 21 = .ok (.ireturn, 1) := by decide +kernel
theorem dX10_numberNow_0 : decode cX10_numberNow 0 = .ok (.aload_n 0, 1) := by decide +kernel
theorem dX10_numberNow_1 : decode cX10_numberNow 1 = .ok (.getfield 221, 3) := by decide +kernel
theorem dX10_numberNow_4 : decode cX10_numberNow 4 = .ok (.iconst 2, 1) := by decide +kernel
theorem dX10_numberNow_5 : decode cX10_numberNow 5 = .ok (.if_icmp .ne 15, 3) := by decide +kernel
theorem dX10_numberNow_8 : decode cX10_numberNow 8 = .ok (.aload_n 0, 1) := by decide +kernel
theorem dX10_numberNow_9 : decode cX10_numberNow 9 = .ok (.getfield 89, 3) := by decide +kernel
theorem dX10_numberNow_12 : decode cX10_numberNow 12 = .ok (.aload_n 0, 1) := by decide +kernel
theorem dX10_numberNow_13 : decode cX10_numberNow 13 = .ok (.getfield 240, 3) := by decide +kernel
theorem dX10_numberNow_16 : decode cX10_numberNow 16 = .ok (.iaload, 1) := by decide +kernel
theorem dX10_numberNow_17 : decode cX10_numberNow 17 = .ok (.goto 12, 3) := by decide +kernel
theorem dX10_numberNow_20 : decode cX10_numberNow 20 = .ok (.aload_n 0, 1) := by decide +kernel
theorem dX10_numberNow_21 : decode cX10_numberNow 21 = .ok (.getfield 68, 3) := by decide +kernel
theorem dX10_numberNow_24 : decode cX10_numberNow 24 = .ok (.aload_n 0, 1) := by decide +kernel
theorem dX10_numberNow_25 : decode cX10_numberNow 25 = .ok (.getfield 233, 3) := by decide +kernel
theorem dX10_numberNow_28 : decode cX10_numberNow 28 = .ok (.iaload, 1) := by decide +kernel
theorem dX10_numberNow_29 : decode cX10_numberNow 29 = .ok (.ireturn, 1) := by decide +kernel
theorem dX10_causesNow_0 : decode cX10_causesNow 0 = .ok (.iconst 0, 1) := by decide +kernel
theorem dX10_causesNow_1 : decode cX10_causesNow 1 = .ok (.istore_n 1, 1) := by decide +kernel
theorem dX10_causesNow_2 : decode cX10_causesNow 2 = .ok (.aload_n 0, 1) := by decide +kernel
theorem dX10_causesNow_3 : decode cX10_causesNow 3 = .ok (.getfield 221, 3) := by decide +kernel
theorem dX10_causesNow_6 : decode cX10_causesNow 6 = .ok (.iconst 2, 1) := by decide +kernel
theorem dX10_causesNow_7 : decode cX10_causesNow 7 = .ok (.if_icmp .ne 15, 3) := by decide +kernel
theorem dX10_causesNow_10 : decode cX10_causesNow 10 = .ok (.aload_n 0, 1) := by decide +kernel
theorem dX10_causesNow_11 : decode cX10_causesNow 11 = .ok (.getfield 92, 3) := by decide +kernel
theorem dX10_causesNow_14 : decode cX10_causesNow 14 = .ok (.aload_n 0, 1) := by decide +kernel
theorem dX10_causesNow_15 : decode cX10_causesNow 15 = .ok (.getfield 240, 3) := by decide +kernel
theorem dX10_causesNow_18 : decode cX10_causesNow 18 = .ok (.iaload, 1) := by decide +kernel
theorem dX10_causesNow_19 : decode cX10_causesNow 19 = .ok (.goto 5, 3) := by decide +kernel
theorem dX10_causesNow_22 : decode cX10_causesNow 22 = .ok (.bipush (-9), 2) := by decide +kernel
theorem dX10_causesNow_24 : decode cX10_causesNow 24 = .ok (.istore_n 2, 1) := by decide +kernel
theorem dX10_causesNow_25 : decode cX10_causesNow 25 = .ok (.iload_n 2, 1) := by decide +kernel
theorem dX10_causesNow_26 : decode cX10_causesNow 26 = .ok (.ifCond .lt 16, 3) := by decide +kernel
theorem dX10_causesNow_29 : decode cX10_causesNow 29 = .ok (.iinc 1 1, 3) := by decide +kernel
theorem dX10_causesNow_32 : decode cX10_causesNow 32 = .ok (.aload_n 0, 1) := by decide +kernel
theorem dX10_causesNow_33 : decode cX10_causesNow 33 = .ok (.getfield 92, 3) := by decide +kernel
theorem dX10_causesNow_36 : decode cX10_causesNow 36 = .ok (.iload_n 2, 1) := by decide +kernel
theorem dX10_causesNow_37 : decode cX10_causesNow 37 = .ok (.iaload, 1) := by decide +kernel
theorem dX10_causesNow_38 : decode cX10_causesNow 38 = .ok (.istore_n 2, 1) := by decide +kernel
theorem dX10_causesNow_39 : decode cX10_causesNow 39 = .ok (.goto (-14), 3) := by decide +kernel
theorem dX10_causesNow_42 : decode cX10_causesNow 42 = .ok (.iload_n 1, 1) := by decide +kernel
theorem dX10_causesNow_43 : decode cX10_causesNow 43 = .ok (.ireturn, 1) := by decide +kernel
theorem dX10_endedNow_0 : decode cX10_endedNow 0 = .ok (.iload_n 1, 1) := by decide +kernel
theorem dX10_endedNow_1 : decode cX10_endedNow 1 = .ok (.tableswitch 60 0 4 #[35, 40, 45, 50, 55], 35) := by decide +kernel
theorem dX10_endedNow_36 : decode cX10_endedNow 36 = .ok (.aload_n 0, 1) := by decide +kernel
theorem dX10_endedNow_37 : decode cX10_endedNow 37 = .ok (.invokevirtual 329, 3) := by decide +kernel
theorem dX10_endedNow_40 : decode cX10_endedNow 40 = .ok (.ireturn, 1) := by decide +kernel
theorem dX10_endedNow_41 : decode cX10_endedNow 41 = .ok (.aload_n 0, 1) := by decide +kernel
theorem dX10_endedNow_42 : decode cX10_endedNow 42 = .ok (.invokevirtual 332, 3) := by decide +kernel
theorem dX10_endedNow_45 : decode cX10_endedNow 45 = .ok (.ireturn, 1) := by decide +kernel
theorem dX10_endedNow_46 : decode cX10_endedNow 46 = .ok (.aload_n 0, 1) := by decide +kernel
theorem dX10_endedNow_47 : decode cX10_endedNow 47 = .ok (.getfield 256, 3) := by decide +kernel
theorem dX10_endedNow_50 : decode cX10_endedNow 50 = .ok (.ireturn, 1) := by decide +kernel
theorem dX10_endedNow_51 : decode cX10_endedNow 51 = .ok (.aload_n 0, 1) := by decide +kernel
theorem dX10_endedNow_52 : decode cX10_endedNow 52 = .ok (.getfield 278, 3) := by decide +kernel
theorem dX10_endedNow_55 : decode cX10_endedNow 55 = .ok (.ireturn, 1) := by decide +kernel
theorem dX10_endedNow_56 : decode cX10_endedNow 56 = .ok (.aload_n 0, 1) := by decide +kernel
theorem dX10_endedNow_57 : decode cX10_endedNow 57 = .ok (.getfield 272, 3) := by decide +kernel
theorem dX10_endedNow_60 : decode cX10_endedNow 60 = .ok (.ireturn, 1) := by decide +kernel
theorem dX10_endedNow_61 : decode cX10_endedNow 61 = .ok (.aload_n 0, 1) := by decide +kernel
theorem dX10_endedNow_62 : decode cX10_endedNow 62 = .ok (.invokevirtual 335, 3) := by decide +kernel
theorem dX10_endedNow_65 : decode cX10_endedNow 65 = .ok (.ireturn, 1) := by decide +kernel
theorem dX10_tellsLast_0 : decode cX10_tellsLast 0 = .ok (.aload_n 0, 1) := by decide +kernel
theorem dX10_tellsLast_1 : decode cX10_tellsLast 1 = .ok (.aload_n 0, 1) := by decide +kernel
theorem dX10_tellsLast_2 : decode cX10_tellsLast 2 = .ok (.invokevirtual 329, 3) := by decide +kernel
theorem dX10_tellsLast_5 : decode cX10_tellsLast 5 = .ok (.putfield 61, 3) := by decide +kernel
theorem dX10_tellsLast_8 : decode cX10_tellsLast 8 = .ok (.aload_n 0, 1) := by decide +kernel
theorem dX10_tellsLast_9 : decode cX10_tellsLast 9 = .ok (.aload_n 0, 1) := by decide +kernel
theorem dX10_tellsLast_10 : decode cX10_tellsLast 10 = .ok (.invokevirtual 332, 3) := by decide +kernel
theorem dX10_tellsLast_13 : decode cX10_tellsLast 13 = .ok (.putfield 338, 3) := by decide +kernel
theorem dX10_tellsLast_16 : decode cX10_tellsLast 16 = .ok (.aload_n 0, 1) := by decide +kernel
theorem dX10_tellsLast_17 : decode cX10_tellsLast 17 = .ok (.aload_n 0, 1) := by decide +kernel
theorem dX10_tellsLast_18 : decode cX10_tellsLast 18 = .ok (.getfield 256, 3) := by decide +kernel
theorem dX10_tellsLast_21 : decode cX10_tellsLast 21 = .ok (.putfield 341, 3) := by decide +kernel
theorem dX10_tellsLast_24 : decode cX10_tellsLast 24 = .ok (.aload_n 0, 1) := by decide +kernel
theorem dX10_tellsLast_25 : decode cX10_tellsLast 25 = .ok (.aload_n 0, 1) := by decide +kernel
theorem dX10_tellsLast_26 : decode cX10_tellsLast 26 = .ok (.getfield 278, 3) := by decide +kernel
theorem dX10_tellsLast_29 : decode cX10_tellsLast 29 = .ok (.putfield 344, 3) := by decide +kernel
theorem dX10_tellsLast_32 : decode cX10_tellsLast 32 = .ok (.aload_n 0, 1) := by decide +kernel
theorem dX10_tellsLast_33 : decode cX10_tellsLast 33 = .ok (.aload_n 0, 1) := by decide +kernel
theorem dX10_tellsLast_34 : decode cX10_tellsLast 34 = .ok (.getfield 272, 3) := by decide +kernel
theorem dX10_tellsLast_37 : decode cX10_tellsLast 37 = .ok (.putfield 347, 3) := by decide +kernel
theorem dX10_tellsLast_40 : decode cX10_tellsLast 40 = .ok (.aload_n 0, 1) := by decide +kernel
theorem dX10_tellsLast_41 : decode cX10_tellsLast 41 = .ok (.aload_n 0, 1) := by decide +kernel
theorem dX10_tellsLast_42 : decode cX10_tellsLast 42 = .ok (.invokevirtual 335, 3) := by decide +kernel
theorem dX10_tellsLast_45 : decode cX10_tellsLast 45 = .ok (.putfield 350, 3) := by decide +kernel
theorem dX10_tellsLast_48 : decode cX10_tellsLast 48 = .ok (.iconst 0, 1) := by decide +kernel
theorem dX10_tellsLast_49 : decode cX10_tellsLast 49 = .ok (.istore_n 1, 1) := by decide +kernel
theorem dX10_tellsLast_50 : decode cX10_tellsLast 50 = .ok (.aload_n 0, 1) := by decide +kernel
theorem dX10_tellsLast_51 : decode cX10_tellsLast 51 = .ok (.getfield 221, 3) := by decide +kernel
theorem dX10_tellsLast_54 : decode cX10_tellsLast 54 = .ok (.iconst 2, 1) := by decide +kernel
theorem dX10_tellsLast_55 : decode cX10_tellsLast 55 = .ok (.if_icmp .ne 10, 3) := by decide +kernel
theorem dX10_tellsLast_58 : decode cX10_tellsLast 58 = .ok (.aload_n 0, 1) := by decide +kernel
theorem dX10_tellsLast_59 : decode cX10_tellsLast 59 = .ok (.getfield 240, 3) := by decide +kernel
theorem dX10_tellsLast_62 : decode cX10_tellsLast 62 = .ok (.goto 5, 3) := by decide +kernel
theorem dX10_tellsLast_65 : decode cX10_tellsLast 65 = .ok (.bipush (-9), 2) := by decide +kernel
theorem dX10_tellsLast_67 : decode cX10_tellsLast 67 = .ok (.istore_n 2, 1) := by decide +kernel
theorem dX10_tellsLast_68 : decode cX10_tellsLast 68 = .ok (.iload_n 2, 1) := by decide +kernel
theorem dX10_tellsLast_69 : decode cX10_tellsLast 69 = .ok (.ifCond .lt 28, 3) := by decide +kernel
theorem dX10_tellsLast_72 : decode cX10_tellsLast 72 = .ok (.aload_n 0, 1) := by decide +kernel
theorem dX10_tellsLast_73 : decode cX10_tellsLast 73 = .ok (.getfield 58, 3) := by decide +kernel
theorem dX10_tellsLast_76 : decode cX10_tellsLast 76 = .ok (.iload_n 1, 1) := by decide +kernel
theorem dX10_tellsLast_77 : decode cX10_tellsLast 77 = .ok (.aload_n 0, 1) := by decide +kernel
theorem dX10_tellsLast_78 : decode cX10_tellsLast 78 = .ok (.getfield 89, 3) := by decide +kernel
theorem dX10_tellsLast_81 : decode cX10_tellsLast 81 = .ok (.iload_n 2, 1) := by decide +kernel
theorem dX10_tellsLast_82 : decode cX10_tellsLast 82 = .ok (.iaload, 1) := by decide +kernel
theorem dX10_tellsLast_83 : decode cX10_tellsLast 83 = .ok (.iastore, 1) := by decide +kernel
theorem dX10_tellsLast_84 : decode cX10_tellsLast 84 = .ok (.iinc 1 1, 3) := by decide +kernel
theorem dX10_tellsLast_87 : decode cX10_tellsLast 87 = .ok (.aload_n 0, 1) := by decide +kernel
theorem dX10_tellsLast_88 : decode cX10_tellsLast 88 = .ok (.getfield 92, 3) := by decide +kernel
theorem dX10_tellsLast_91 : decode cX10_tellsLast 91 = .ok (.iload_n 2, 1) := by decide +kernel
theorem dX10_tellsLast_92 : decode cX10_tellsLast 92 = .ok (.iaload, 1) := by decide +kernel
theorem dX10_tellsLast_93 : decode cX10_tellsLast 93 = .ok (.istore_n 2, 1) := by decide +kernel
theorem dX10_tellsLast_94 : decode cX10_tellsLast 94 = .ok (.goto (-26), 3) := by decide +kernel
theorem dX10_tellsLast_97 : decode cX10_tellsLast 97 = .ok (.return_, 1) := by decide +kernel
theorem dX10_run_0 : decode cX10_run 0 = .ok (.aload_n 0, 1) := by decide +kernel
theorem dX10_run_1 : decode cX10_run 1 = .ok (.invokevirtual 353, 3) := by decide +kernel
theorem dX10_run_4 : decode cX10_run 4 = .ok (.aload_n 0, 1) := by decide +kernel
theorem dX10_run_5 : decode cX10_run 5 = .ok (.invokevirtual 356, 3) := by decide +kernel
theorem dX10_run_8 : decode cX10_run 8 = .ok (.aload_n 0, 1) := by decide +kernel
theorem dX10_run_9 : decode cX10_run 9 = .ok (.aload_n 0, 1) := by decide +kernel
theorem dX10_run_10 : decode cX10_run 10 = .ok (.getfield 206, 3) := by decide +kernel
theorem dX10_run_13 : decode cX10_run 13 = .ok (.bipush 99, 2) := by decide +kernel
theorem dX10_run_15 : decode cX10_run 15 = .ok (.if_icmp .ge 12, 3) := by decide +kernel
theorem dX10_run_18 : decode cX10_run 18 = .ok (.aload_n 0, 1) := by decide +kernel
theorem dX10_run_19 : decode cX10_run 19 = .ok (.getfield 206, 3) := by decide +kernel
theorem dX10_run_22 : decode cX10_run 22 = .ok (.iconst 1, 1) := by decide +kernel
theorem dX10_run_23 : decode cX10_run 23 = .ok (.iadd, 1) := by decide +kernel
theorem dX10_run_24 : decode cX10_run 24 = .ok (.goto 7, 3) := by decide +kernel
theorem dX10_run_27 : decode cX10_run 27 = .ok (.aload_n 0, 1) := by decide +kernel
theorem dX10_run_28 : decode cX10_run 28 = .ok (.getfield 206, 3) := by decide +kernel
theorem dX10_run_31 : decode cX10_run 31 = .ok (.putfield 206, 3) := by decide +kernel
theorem dX10_run_34 : decode cX10_run 34 = .ok (.aload_n 0, 1) := by decide +kernel
theorem dX10_run_35 : decode cX10_run 35 = .ok (.getfield 61, 3) := by decide +kernel
theorem dX10_run_38 : decode cX10_run 38 = .ok (.ireturn, 1) := by decide +kernel
theorem dX10_ended_0 : decode cX10_ended 0 = .ok (.iload_n 1, 1) := by decide +kernel
theorem dX10_ended_1 : decode cX10_ended 1 = .ok (.iconst 0, 1) := by decide +kernel
theorem dX10_ended_2 : decode cX10_ended 2 = .ok (.iconst 5, 1) := by decide +kernel
theorem dX10_ended_3 : decode cX10_ended 3 = .ok (.invokestatic 134, 3) := by decide +kernel
theorem dX10_ended_6 : decode cX10_ended 6 = .ok (.ifCond .ne 8, 3) := by decide +kernel
theorem dX10_ended_9 : decode cX10_ended 9 = .ok (.bipush (-2), 2) := by decide +kernel
theorem dX10_ended_11 : decode cX10_ended 11 = .ok (.goto 16, 3) := by decide +kernel
theorem dX10_ended_14 : decode cX10_ended 14 = .ok (.aload_n 0, 1) := by decide +kernel
theorem dX10_ended_15 : decode cX10_ended 15 = .ok (.getfield 61, 3) := by decide +kernel
theorem dX10_ended_18 : decode cX10_ended 18 = .ok (.ifCond .ge 8, 3) := by decide +kernel
theorem dX10_ended_21 : decode cX10_ended 21 = .ok (.bipush (-3), 2) := by decide +kernel
theorem dX10_ended_23 : decode cX10_ended 23 = .ok (.goto 4, 3) := by decide +kernel
theorem dX10_ended_26 : decode cX10_ended 26 = .ok (.iconst 0, 1) := by decide +kernel
theorem dX10_ended_27 : decode cX10_ended 27 = .ok (.istore_n 2, 1) := by decide +kernel
theorem dX10_ended_28 : decode cX10_ended 28 = .ok (.iload_n 2, 1) := by decide +kernel
theorem dX10_ended_29 : decode cX10_ended 29 = .ok (.ifCond .eq 9, 3) := by decide +kernel
theorem dX10_ended_32 : decode cX10_ended 32 = .ok (.aload_n 0, 1) := by decide +kernel
theorem dX10_ended_33 : decode cX10_ended 33 = .ok (.iload_n 2, 1) := by decide +kernel
theorem dX10_ended_34 : decode cX10_ended 34 = .ok (.invokevirtual 359, 3) := by decide +kernel
theorem dX10_ended_37 : decode cX10_ended 37 = .ok (.ireturn, 1) := by decide +kernel
theorem dX10_ended_38 : decode cX10_ended 38 = .ok (.aload_n 0, 1) := by decide +kernel
theorem dX10_ended_39 : decode cX10_ended 39 = .ok (.getfield 110, 3) := by decide +kernel
theorem dX10_ended_42 : decode cX10_ended 42 = .ok (.astore_n 3, 1) := by decide +kernel
theorem dX10_ended_43 : decode cX10_ended 43 = .ok (.aload_n 3, 1) := by decide +kernel
theorem dX10_ended_44 : decode cX10_ended 44 = .ok (.iconst 0, 1) := by decide +kernel
theorem dX10_ended_45 : decode cX10_ended 45 = .ok (.aload_n 0, 1) := by decide +kernel
theorem dX10_ended_46 : decode cX10_ended 46 = .ok (.getfield 61, 3) := by decide +kernel
theorem dX10_ended_49 : decode cX10_ended 49 = .ok (.iastore, 1) := by decide +kernel
theorem dX10_ended_50 : decode cX10_ended 50 = .ok (.aload_n 3, 1) := by decide +kernel
theorem dX10_ended_51 : decode cX10_ended 51 = .ok (.iconst 1, 1) := by decide +kernel
theorem dX10_ended_52 : decode cX10_ended 52 = .ok (.aload_n 0, 1) := by decide +kernel
theorem dX10_ended_53 : decode cX10_ended 53 = .ok (.getfield 338, 3) := by decide +kernel
theorem dX10_ended_56 : decode cX10_ended 56 = .ok (.iastore, 1) := by decide +kernel
theorem dX10_ended_57 : decode cX10_ended 57 = .ok (.aload_n 3, 1) := by decide +kernel
theorem dX10_ended_58 : decode cX10_ended 58 = .ok (.iconst 2, 1) := by decide +kernel
theorem dX10_ended_59 : decode cX10_ended 59 = .ok (.aload_n 0, 1) := by decide +kernel
theorem dX10_ended_60 : decode cX10_ended 60 = .ok (.getfield 341, 3) := by decide +kernel
theorem dX10_ended_63 : decode cX10_ended 63 = .ok (.iastore, 1) := by decide +kernel
theorem dX10_ended_64 : decode cX10_ended 64 = .ok (.aload_n 3, 1) := by decide +kernel
theorem dX10_ended_65 : decode cX10_ended 65 = .ok (.iconst 3, 1) := by decide +kernel
theorem dX10_ended_66 : decode cX10_ended 66 = .ok (.aload_n 0, 1) := by decide +kernel
theorem dX10_ended_67 : decode cX10_ended 67 = .ok (.getfield 344, 3) := by decide +kernel
theorem dX10_ended_70 : decode cX10_ended 70 = .ok (.iastore, 1) := by decide +kernel
theorem dX10_ended_71 : decode cX10_ended 71 = .ok (.aload_n 3, 1) := by decide +kernel
theorem dX10_ended_72 : decode cX10_ended 72 = .ok (.iconst 4, 1) := by decide +kernel
theorem dX10_ended_73 : decode cX10_ended 73 = .ok (.aload_n 0, 1) := by decide +kernel
theorem dX10_ended_74 : decode cX10_ended 74 = .ok (.getfield 347, 3) := by decide +kernel
theorem dX10_ended_77 : decode cX10_ended 77 = .ok (.iastore, 1) := by decide +kernel
theorem dX10_ended_78 : decode cX10_ended 78 = .ok (.aload_n 3, 1) := by decide +kernel
theorem dX10_ended_79 : decode cX10_ended 79 = .ok (.iconst 5, 1) := by decide +kernel
theorem dX10_ended_80 : decode cX10_ended 80 = .ok (.aload_n 0, 1) := by decide +kernel
theorem dX10_ended_81 : decode cX10_ended 81 = .ok (.getfield 350, 3) := by decide +kernel
theorem dX10_ended_84 : decode cX10_ended 84 = .ok (.iastore, 1) := by decide +kernel
theorem dX10_ended_85 : decode cX10_ended 85 = .ok (.aload_n 3, 1) := by decide +kernel
theorem dX10_ended_86 : decode cX10_ended 86 = .ok (.iload_n 1, 1) := by decide +kernel
theorem dX10_ended_87 : decode cX10_ended 87 = .ok (.iaload, 1) := by decide +kernel
theorem dX10_ended_88 : decode cX10_ended 88 = .ok (.ireturn, 1) := by decide +kernel
theorem dX10_code_0 : decode cX10_code 0 = .ok (.aload_n 0, 1) := by decide +kernel
theorem dX10_code_1 : decode cX10_code 1 = .ok (.getfield 61, 3) := by decide +kernel
theorem dX10_code_4 : decode cX10_code 4 = .ok (.iconst 3, 1) := by decide +kernel
theorem dX10_code_5 : decode cX10_code 5 = .ok (.if_icmp .eq 10, 3) := by decide +kernel
theorem dX10_code_8 : decode cX10_code 8 = .ok (.aload_n 0, 1) := by decide +kernel
theorem dX10_code_9 : decode cX10_code 9 = .ok (.bipush (-3), 2) := by decide +kernel
theorem dX10_code_11 : decode cX10_code 11 = .ok (.invokevirtual 145, 3) := by decide +kernel
theorem dX10_code_14 : decode cX10_code 14 = .ok (.ireturn, 1) := by decide +kernel
theorem dX10_code_15 : decode cX10_code 15 = .ok (.iload_n 1, 1) := by decide +kernel
theorem dX10_code_16 : decode cX10_code 16 = .ok (.iconst 0, 1) := by decide +kernel
theorem dX10_code_17 : decode cX10_code 17 = .ok (.aload_n 0, 1) := by decide +kernel
theorem dX10_code_18 : decode cX10_code 18 = .ok (.getfield 350, 3) := by decide +kernel
theorem dX10_code_21 : decode cX10_code 21 = .ok (.invokestatic 134, 3) := by decide +kernel
theorem dX10_code_24 : decode cX10_code 24 = .ok (.ifCond .eq 12, 3) := by decide +kernel
theorem dX10_code_27 : decode cX10_code 27 = .ok (.aload_n 0, 1) := by decide +kernel
theorem dX10_code_28 : decode cX10_code 28 = .ok (.getfield 58, 3) := by decide +kernel
theorem dX10_code_31 : decode cX10_code 31 = .ok (.iload_n 1, 1) := by decide +kernel
theorem dX10_code_32 : decode cX10_code 32 = .ok (.iaload, 1) := by decide +kernel
theorem dX10_code_33 : decode cX10_code 33 = .ok (.goto 8, 3) := by decide +kernel
theorem dX10_code_36 : decode cX10_code 36 = .ok (.aload_n 0, 1) := by decide +kernel
theorem dX10_code_37 : decode cX10_code 37 = .ok (.iconst (-1), 1) := by decide +kernel
theorem dX10_code_38 : decode cX10_code 38 = .ok (.invokevirtual 145, 3) := by decide +kernel
theorem dX10_code_41 : decode cX10_code 41 = .ok (.ireturn, 1) := by decide +kernel
theorem dX10_global_0 : decode cX10_global 0 = .ok (.iload_n 1, 1) := by decide +kernel
theorem dX10_global_1 : decode cX10_global 1 = .ok (.invokestatic 362, 3) := by decide +kernel
theorem dX10_global_4 : decode cX10_global 4 = .ok (.ifCond .eq 12, 3) := by decide +kernel
theorem dX10_global_7 : decode cX10_global 7 = .ok (.aload_n 0, 1) := by decide +kernel
theorem dX10_global_8 : decode cX10_global 8 = .ok (.getfield 46, 3) := by decide +kernel
theorem dX10_global_11 : decode cX10_global 11 = .ok (.iload_n 1, 1) := by decide +kernel
theorem dX10_global_12 : decode cX10_global 12 = .ok (.iaload, 1) := by decide +kernel
theorem dX10_global_13 : decode cX10_global 13 = .ok (.goto 8, 3) := by decide +kernel
theorem dX10_global_16 : decode cX10_global 16 = .ok (.aload_n 0, 1) := by decide +kernel
theorem dX10_global_17 : decode cX10_global 17 = .ok (.iconst (-1), 1) := by decide +kernel
theorem dX10_global_18 : decode cX10_global 18 = .ok (.invokevirtual 359, 3) := by decide +kernel
theorem dX10_global_21 : decode cX10_global 21 = .ok (.ireturn, 1) := by decide +kernel
theorem dX10_sets_0 : decode cX10_sets 0 = .ok (.iload_n 1, 1) := by decide +kernel
theorem dX10_sets_1 : decode cX10_sets 1 = .ok (.invokestatic 362, 3) := by decide +kernel
theorem dX10_sets_4 : decode cX10_sets 4 = .ok (.ifCond .ne 7, 3) := by decide +kernel
theorem dX10_sets_7 : decode cX10_sets 7 = .ok (.iconst (-1), 1) := by decide +kernel
theorem dX10_sets_8 : decode cX10_sets 8 = .ok (.goto 13, 3) := by decide +kernel
theorem dX10_sets_11 : decode cX10_sets 11 = .ok (.iload_n 2, 1) := by decide +kernel
theorem dX10_sets_12 : decode cX10_sets 12 = .ok (.sipush (-9999), 3) := by decide +kernel
theorem dX10_sets_15 : decode cX10_sets 15 = .ok (.sipush 9999, 3) := by decide +kernel
theorem dX10_sets_18 : decode cX10_sets 18 = .ok (.invokestatic 138, 3) := by decide +kernel
theorem dX10_sets_21 : decode cX10_sets 21 = .ok (.istore_n 3, 1) := by decide +kernel
theorem dX10_sets_22 : decode cX10_sets 22 = .ok (.iload_n 3, 1) := by decide +kernel
theorem dX10_sets_23 : decode cX10_sets 23 = .ok (.ifCond .eq 9, 3) := by decide +kernel
theorem dX10_sets_26 : decode cX10_sets 26 = .ok (.aload_n 0, 1) := by decide +kernel
theorem dX10_sets_27 : decode cX10_sets 27 = .ok (.iload_n 3, 1) := by decide +kernel
theorem dX10_sets_28 : decode cX10_sets 28 = .ok (.invokevirtual 359, 3) := by decide +kernel
theorem dX10_sets_31 : decode cX10_sets 31 = .ok (.ireturn, 1) := by decide +kernel
theorem dX10_sets_32 : decode cX10_sets 32 = .ok (.aload_n 0, 1) := by decide +kernel
theorem dX10_sets_33 : decode cX10_sets 33 = .ok (.getfield 46, 3) := by decide +kernel
theorem dX10_sets_36 : decode cX10_sets 36 = .ok (.iload_n 1, 1) := by decide +kernel
theorem dX10_sets_37 : decode cX10_sets 37 = .ok (.iaload, 1) := by decide +kernel
theorem dX10_sets_38 : decode cX10_sets 38 = .ok (.istore 4, 2) := by decide +kernel
theorem dX10_sets_40 : decode cX10_sets 40 = .ok (.aload_n 0, 1) := by decide +kernel
theorem dX10_sets_41 : decode cX10_sets 41 = .ok (.getfield 46, 3) := by decide +kernel
theorem dX10_sets_44 : decode cX10_sets 44 = .ok (.iload_n 1, 1) := by decide +kernel
theorem dX10_sets_45 : decode cX10_sets 45 = .ok (.iload_n 2, 1) := by decide +kernel
theorem dX10_sets_46 : decode cX10_sets 46 = .ok (.iastore, 1) := by decide +kernel
theorem dX10_sets_47 : decode cX10_sets 47 = .ok (.iload 4, 2) := by decide +kernel
theorem dX10_sets_49 : decode cX10_sets 49 = .ok (.ireturn, 1) := by decide +kernel
theorem dX10_stateOf_0 : decode cX10_stateOf 0 = .ok (.aload_n 0, 1) := by decide +kernel
theorem dX10_stateOf_1 : decode cX10_stateOf 1 = .ok (.getfield 49, 3) := by decide +kernel
theorem dX10_stateOf_4 : decode cX10_stateOf 4 = .ok (.iload_n 1, 1) := by decide +kernel
theorem dX10_stateOf_5 : decode cX10_stateOf 5 = .ok (.iaload, 1) := by decide +kernel
theorem dX10_stateOf_6 : decode cX10_stateOf 6 = .ok (.invokestatic 284, 3) := by decide +kernel
theorem dX10_stateOf_9 : decode cX10_stateOf 9 = .ok (.iconst 3, 1) := by decide +kernel
theorem dX10_stateOf_10 : decode cX10_stateOf 10 = .ok (.if_icmp .le 7, 3) := by decide +kernel
theorem dX10_stateOf_13 : decode cX10_stateOf 13 = .ok (.iconst 3, 1) := by decide +kernel
theorem dX10_stateOf_14 : decode cX10_stateOf 14 = .ok (.goto 12, 3) := by decide +kernel
theorem dX10_stateOf_17 : decode cX10_stateOf 17 = .ok (.aload_n 0, 1) := by decide +kernel
theorem dX10_stateOf_18 : decode cX10_stateOf 18 = .ok (.getfield 49, 3) := by decide +kernel
theorem dX10_stateOf_21 : decode cX10_stateOf 21 = .ok (.iload_n 1, 1) := by decide +kernel
theorem dX10_stateOf_22 : decode cX10_stateOf 22 = .ok (.iaload, 1) := by decide +kernel
theorem dX10_stateOf_23 : decode cX10_stateOf 23 = .ok (.invokestatic 284, 3) := by decide +kernel
theorem dX10_stateOf_26 : decode cX10_stateOf 26 = .ok (.ireturn, 1) := by decide +kernel
theorem dX10_cache_0 : decode cX10_cache 0 = .ok (.iload_n 1, 1) := by decide +kernel
theorem dX10_cache_1 : decode cX10_cache 1 = .ok (.iconst 0, 1) := by decide +kernel
theorem dX10_cache_2 : decode cX10_cache 2 = .ok (.aload_n 0, 1) := by decide +kernel
theorem dX10_cache_3 : decode cX10_cache 3 = .ok (.getfield 192, 3) := by decide +kernel
theorem dX10_cache_6 : decode cX10_cache 6 = .ok (.iconst 1, 1) := by decide +kernel
theorem dX10_cache_7 : decode cX10_cache 7 = .ok (.isub, 1) := by decide +kernel
theorem dX10_cache_8 : decode cX10_cache 8 = .ok (.invokestatic 134, 3) := by decide +kernel
theorem dX10_cache_11 : decode cX10_cache 11 = .ok (.ifCond .ne 9, 3) := by decide +kernel
theorem dX10_cache_14 : decode cX10_cache 14 = .ok (.aload_n 0, 1) := by decide +kernel
theorem dX10_cache_15 : decode cX10_cache 15 = .ok (.iconst (-1), 1) := by decide +kernel
theorem dX10_cache_16 : decode cX10_cache 16 = .ok (.invokevirtual 145, 3) := by decide +kernel
theorem dX10_cache_19 : decode cX10_cache 19 = .ok (.ireturn, 1) := by decide +kernel
theorem dX10_cache_20 : decode cX10_cache 20 = .ok (.iload_n 2, 1) := by decide +kernel
theorem dX10_cache_21 : decode cX10_cache 21 = .ok (.tableswitch 58 0 3 #[31, 37, 44, 51], 31) := by decide +kernel
theorem dX10_cache_52 : decode cX10_cache 52 = .ok (.aload_n 0, 1) := by decide +kernel
theorem dX10_cache_53 : decode cX10_cache 53 = .ok (.iload_n 1, 1) := by decide +kernel
theorem dX10_cache_54 : decode cX10_cache 54 = .ok (.invokevirtual 365, 3) := by decide +kernel
theorem dX10_cache_57 : decode cX10_cache 57 = .ok (.ireturn, 1) := by decide +kernel
theorem dX10_cache_58 : decode cX10_cache 58 = .ok (.aload_n 0, 1) := by decide +kernel
theorem dX10_cache_59 : decode cX10_cache 59 = .ok (.getfield 49, 3) := by decide +kernel
theorem dX10_cache_62 : decode cX10_cache 62 = .ok (.iload_n 1, 1) := by decide +kernel
theorem dX10_cache_63 : decode cX10_cache 63 = .ok (.iaload, 1) := by decide +kernel
theorem dX10_cache_64 : decode cX10_cache 64 = .ok (.ireturn, 1) := by decide +kernel
theorem dX10_cache_65 : decode cX10_cache 65 = .ok (.aload_n 0, 1) := by decide +kernel
theorem dX10_cache_66 : decode cX10_cache 66 = .ok (.getfield 52, 3) := by decide +kernel
theorem dX10_cache_69 : decode cX10_cache 69 = .ok (.iload_n 1, 1) := by decide +kernel
theorem dX10_cache_70 : decode cX10_cache 70 = .ok (.iaload, 1) := by decide +kernel
theorem dX10_cache_71 : decode cX10_cache 71 = .ok (.ireturn, 1) := by decide +kernel
theorem dX10_cache_72 : decode cX10_cache 72 = .ok (.aload_n 0, 1) := by decide +kernel
theorem dX10_cache_73 : decode cX10_cache 73 = .ok (.getfield 55, 3) := by decide +kernel
theorem dX10_cache_76 : decode cX10_cache 76 = .ok (.iload_n 1, 1) := by decide +kernel
theorem dX10_cache_77 : decode cX10_cache 77 = .ok (.iaload, 1) := by decide +kernel
theorem dX10_cache_78 : decode cX10_cache 78 = .ok (.ireturn, 1) := by decide +kernel
theorem dX10_cache_79 : decode cX10_cache 79 = .ok (.aload_n 0, 1) := by decide +kernel
theorem dX10_cache_80 : decode cX10_cache 80 = .ok (.bipush (-2), 2) := by decide +kernel
theorem dX10_cache_82 : decode cX10_cache 82 = .ok (.invokevirtual 145, 3) := by decide +kernel
theorem dX10_cache_85 : decode cX10_cache 85 = .ok (.ireturn, 1) := by decide +kernel
theorem dX10_minds_0 : decode cX10_minds 0 = .ok (.iconst 0, 1) := by decide +kernel
theorem dX10_minds_1 : decode cX10_minds 1 = .ok (.istore_n 1, 1) := by decide +kernel
theorem dX10_minds_2 : decode cX10_minds 2 = .ok (.iload_n 1, 1) := by decide +kernel
theorem dX10_minds_3 : decode cX10_minds 3 = .ok (.bipush 6, 2) := by decide +kernel
theorem dX10_minds_5 : decode cX10_minds 5 = .ok (.if_icmp .ge 21, 3) := by decide +kernel
theorem dX10_minds_8 : decode cX10_minds 8 = .ok (.aload_n 0, 1) := by decide +kernel
theorem dX10_minds_9 : decode cX10_minds 9 = .ok (.getfield 113, 3) := by decide +kernel
theorem dX10_minds_12 : decode cX10_minds 12 = .ok (.iload_n 1, 1) := by decide +kernel
theorem dX10_minds_13 : decode cX10_minds 13 = .ok (.aload_n 0, 1) := by decide +kernel
theorem dX10_minds_14 : decode cX10_minds 14 = .ok (.getfield 46, 3) := by decide +kernel
theorem dX10_minds_17 : decode cX10_minds 17 = .ok (.iload_n 1, 1) := by decide +kernel
theorem dX10_minds_18 : decode cX10_minds 18 = .ok (.iaload, 1) := by decide +kernel
theorem dX10_minds_19 : decode cX10_minds 19 = .ok (.iastore, 1) := by decide +kernel
theorem dX10_minds_20 : decode cX10_minds 20 = .ok (.iinc 1 1, 3) := by decide +kernel
theorem dX10_minds_23 : decode cX10_minds 23 = .ok (.goto (-21), 3) := by decide +kernel
theorem dX10_minds_26 : decode cX10_minds 26 = .ok (.iconst 0, 1) := by decide +kernel
theorem dX10_minds_27 : decode cX10_minds 27 = .ok (.istore_n 1, 1) := by decide +kernel
theorem dX10_minds_28 : decode cX10_minds 28 = .ok (.iload_n 1, 1) := by decide +kernel
theorem dX10_minds_29 : decode cX10_minds 29 = .ok (.bipush 10, 2) := by decide +kernel
theorem dX10_minds_31 : decode cX10_minds 31 = .ok (.if_icmp .ge 54, 3) := by decide +kernel
theorem dX10_minds_34 : decode cX10_minds 34 = .ok (.aload_n 0, 1) := by decide +kernel
theorem dX10_minds_35 : decode cX10_minds 35 = .ok (.getfield 113, 3) := by decide +kernel
theorem dX10_minds_38 : decode cX10_minds 38 = .ok (.bipush 6, 2) := by decide +kernel
theorem dX10_minds_40 : decode cX10_minds 40 = .ok (.iload_n 1, 1) := by decide +kernel
theorem dX10_minds_41 : decode cX10_minds 41 = .ok (.iadd, 1) := by decide +kernel
theorem dX10_minds_42 : decode cX10_minds 42 = .ok (.aload_n 0, 1) := by decide +kernel
theorem dX10_minds_43 : decode cX10_minds 43 = .ok (.getfield 49, 3) := by decide +kernel
theorem dX10_minds_46 : decode cX10_minds 46 = .ok (.iload_n 1, 1) := by decide +kernel
theorem dX10_minds_47 : decode cX10_minds 47 = .ok (.iaload, 1) := by decide +kernel
theorem dX10_minds_48 : decode cX10_minds 48 = .ok (.iastore, 1) := by decide +kernel
theorem dX10_minds_49 : decode cX10_minds 49 = .ok (.aload_n 0, 1) := by decide +kernel
theorem dX10_minds_50 : decode cX10_minds 50 = .ok (.getfield 113, 3) := by decide +kernel
theorem dX10_minds_53 : decode cX10_minds 53 = .ok (.bipush 16, 2) := by decide +kernel
theorem dX10_minds_55 : decode cX10_minds 55 = .ok (.iload_n 1, 1) := by decide +kernel
theorem dX10_minds_56 : decode cX10_minds 56 = .ok (.iadd, 1) := by decide +kernel
theorem dX10_minds_57 : decode cX10_minds 57 = .ok (.aload_n 0, 1) := by decide +kernel
theorem dX10_minds_58 : decode cX10_minds 58 = .ok (.getfield 52, 3) := by decide +kernel
theorem dX10_minds_61 : decode cX10_minds 61 = .ok (.iload_n 1, 1) := by decide +kernel
theorem dX10_minds_62 : decode cX10_minds 62 = .ok (.iaload, 1) := by decide +kernel
theorem dX10_minds_63 : decode cX10_minds 63 = .ok (.iastore, 1) := by decide +kernel
theorem dX10_minds_64 : decode cX10_minds 64 = .ok (.aload_n 0, 1) := by decide +kernel
theorem dX10_minds_65 : decode cX10_minds 65 = .ok (.getfield 113, 3) := by decide +kernel
theorem dX10_minds_68 : decode cX10_minds 68 = .ok (.bipush 26, 2) := by decide +kernel
theorem dX10_minds_70 : decode cX10_minds 70 = .ok (.iload_n 1, 1) := by decide +kernel
theorem dX10_minds_71 : decode cX10_minds 71 = .ok (.iadd, 1) := by decide +kernel
theorem dX10_minds_72 : decode cX10_minds 72 = .ok (.aload_n 0, 1) := by decide +kernel
theorem dX10_minds_73 : decode cX10_minds 73 = .ok (.getfield 55, 3) := by decide +kernel
theorem dX10_minds_76 : decode cX10_minds 76 = .ok (.iload_n 1, 1) := by decide +kernel
theorem dX10_minds_77 : decode cX10_minds 77 = .ok (.iaload, 1) := by decide +kernel
theorem dX10_minds_78 : decode cX10_minds 78 = .ok (.iastore, 1) := by decide +kernel
theorem dX10_minds_79 : decode cX10_minds 79 = .ok (.iinc 1 1, 3) := by decide +kernel
theorem dX10_minds_82 : decode cX10_minds 82 = .ok (.goto (-54), 3) := by decide +kernel
theorem dX10_minds_85 : decode cX10_minds 85 = .ok (.return_, 1) := by decide +kernel
theorem dX10_forgets_0 : decode cX10_forgets 0 = .ok (.iconst 0, 1) := by decide +kernel
theorem dX10_forgets_1 : decode cX10_forgets 1 = .ok (.istore_n 1, 1) := by decide +kernel
theorem dX10_forgets_2 : decode cX10_forgets 2 = .ok (.iload_n 1, 1) := by decide +kernel
theorem dX10_forgets_3 : decode cX10_forgets 3 = .ok (.bipush 6, 2) := by decide +kernel
theorem dX10_forgets_5 : decode cX10_forgets 5 = .ok (.if_icmp .ge 21, 3) := by decide +kernel
theorem dX10_forgets_8 : decode cX10_forgets 8 = .ok (.aload_n 0, 1) := by decide +kernel
theorem dX10_forgets_9 : decode cX10_forgets 9 = .ok (.getfield 46, 3) := by decide +kernel
theorem dX10_forgets_12 : decode cX10_forgets 12 = .ok (.iload_n 1, 1) := by decide +kernel
theorem dX10_forgets_13 : decode cX10_forgets 13 = .ok (.aload_n 0, 1) := by decide +kernel
theorem dX10_forgets_14 : decode cX10_forgets 14 = .ok (.getfield 113, 3) := by decide +kernel
theorem dX10_forgets_17 : decode cX10_forgets 17 = .ok (.iload_n 1, 1) := by decide +kernel
theorem dX10_forgets_18 : decode cX10_forgets 18 = .ok (.iaload, 1) := by decide +kernel
theorem dX10_forgets_19 : decode cX10_forgets 19 = .ok (.iastore, 1) := by decide +kernel
theorem dX10_forgets_20 : decode cX10_forgets 20 = .ok (.iinc 1 1, 3) := by decide +kernel
theorem dX10_forgets_23 : decode cX10_forgets 23 = .ok (.goto (-21), 3) := by decide +kernel
theorem dX10_forgets_26 : decode cX10_forgets 26 = .ok (.iconst 0, 1) := by decide +kernel
theorem dX10_forgets_27 : decode cX10_forgets 27 = .ok (.istore_n 1, 1) := by decide +kernel
