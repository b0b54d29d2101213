theorem c_1_0 : zcode 1 0 = some (.aload_n 0, 1, 0, 0, 0) := by decide +kernel
theorem c_1_1 : zcode 1 1 = some (.getfield 20, 3, 0, 2, 1134) := by decide +kernel
theorem c_1_4 : zcode 1 4 = some (.ireturn, 1, 0, 0, 0) := by decide +kernel
theorem c_2_0 : zcode 2 0 = some (.aload_n 0, 1, 0, 0, 0) := by decide +kernel
theorem c_2_1 : zcode 2 1 = some (.iconst 0, 1, 0, 0, 0) := by decide +kernel
theorem c_2_2 : zcode 2 2 = some (.putfield 20, 3, 0, 2, 1134) := by decide +kernel
theorem c_2_5 : zcode 2 5 = some (.return_, 1, 0, 0, 0) := by decide +kernel
theorem c_3_0 : zcode 3 0 = some (.aload_n 0, 1, 0, 0, 0) := by decide +kernel
theorem c_3_1 : zcode 3 1 = some (.getfield 14, 3, 0, 0, 1132) := by decide +kernel
theorem c_3_4 : zcode 3 4 = some (.aload_n 0, 1, 0, 0, 0) := by decide +kernel
theorem c_3_5 : zcode 3 5 = some (.getfield 24, 3, 0, 1, 1133) := by decide +kernel
theorem c_3_8 : zcode 3 8 = some (.aload_n 1, 1, 0, 0, 0) := by decide +kernel
theorem c_3_9 : zcode 3 9 = some (.invokevirtual 27, 3, 56, 0, 2187) := by decide +kernel
theorem c_3_12 : zcode 3 12 = some (.aload_n 0, 1, 0, 0, 0) := by decide +kernel
theorem c_3_13 : zcode 3 13 = some (.aload_n 0, 1, 0, 0, 0) := by decide +kernel
theorem c_3_14 : zcode 3 14 = some (.getfield 24, 3, 0, 1, 1133) := by decide +kernel
theorem c_3_17 : zcode 3 17 = some (.iconst 1, 1, 0, 0, 0) := by decide +kernel
theorem c_3_18 : zcode 3 18 = some (.iadd, 1, 0, 0, 0) := by decide +kernel
theorem c_3_19 : zcode 3 19 = some (.bipush 14, 2, 0, 0, 0) := by decide +kernel
theorem c_3_21 : zcode 3 21 = some (.irem, 1, 0, 0, 0) := by decide +kernel
theorem c_3_22 : zcode 3 22 = some (.putfield 24, 3, 0, 1, 1133) := by decide +kernel
theorem c_3_25 : zcode 3 25 = some (.aload_n 0, 1, 0, 0, 0) := by decide +kernel
theorem c_3_26 : zcode 3 26 = some (.aload_n 0, 1, 0, 0, 0) := by decide +kernel
theorem c_3_27 : zcode 3 27 = some (.getfield 20, 3, 0, 2, 1134) := by decide +kernel
theorem c_3_30 : zcode 3 30 = some (.iconst 1, 1, 0, 0, 0) := by decide +kernel
theorem c_3_31 : zcode 3 31 = some (.iadd, 1, 0, 0, 0) := by decide +kernel
theorem c_3_32 : zcode 3 32 = some (.bipush 14, 2, 0, 0, 0) := by decide +kernel
theorem c_3_34 : zcode 3 34 = some (.invokestatic 31, 3, 0, 4, 2206) := by decide +kernel
theorem c_3_37 : zcode 3 37 = some (.putfield 20, 3, 0, 2, 1134) := by decide +kernel
theorem c_3_40 : zcode 3 40 = some (.return_, 1, 0, 0, 0) := by decide +kernel
theorem c_4_0 : zcode 4 0 = some (.aload_n 0, 1, 0, 0, 0) := by decide +kernel
theorem c_4_1 : zcode 4 1 = some (.getfield 20, 3, 0, 2, 1134) := by decide +kernel
theorem c_4_4 : zcode 4 4 = some (.iconst 1, 1, 0, 0, 0) := by decide +kernel
theorem c_4_5 : zcode 4 5 = some (.if_icmp .ge 5, 3, 10, 0, 0) := by decide +kernel
theorem c_4_8 : zcode 4 8 = some (.iconst 0, 1, 0, 0, 0) := by decide +kernel
theorem c_4_9 : zcode 4 9 = some (.ireturn, 1, 0, 0, 0) := by decide +kernel
theorem c_4_10 : zcode 4 10 = some (.aload_n 0, 1, 0, 0, 0) := by decide +kernel
theorem c_4_11 : zcode 4 11 = some (.aload_n 0, 1, 0, 0, 0) := by decide +kernel
theorem c_4_12 : zcode 4 12 = some (.getfield 24, 3, 0, 1, 1133) := by decide +kernel
theorem c_4_15 : zcode 4 15 = some (.bipush 14, 2, 0, 0, 0) := by decide +kernel
theorem c_4_17 : zcode 4 17 = some (.iadd, 1, 0, 0, 0) := by decide +kernel
theorem c_4_18 : zcode 4 18 = some (.iconst 1, 1, 0, 0, 0) := by decide +kernel
theorem c_4_19 : zcode 4 19 = some (.isub, 1, 0, 0, 0) := by decide +kernel
theorem c_4_20 : zcode 4 20 = some (.bipush 14, 2, 0, 0, 0) := by decide +kernel
theorem c_4_22 : zcode 4 22 = some (.irem, 1, 0, 0, 0) := by decide +kernel
theorem c_4_23 : zcode 4 23 = some (.putfield 24, 3, 0, 1, 1133) := by decide +kernel
theorem c_4_26 : zcode 4 26 = some (.aload_n 0, 1, 0, 0, 0) := by decide +kernel
theorem c_4_27 : zcode 4 27 = some (.dup, 1, 0, 0, 0) := by decide +kernel
theorem c_4_28 : zcode 4 28 = some (.getfield 20, 3, 0, 2, 1134) := by decide +kernel
theorem c_4_31 : zcode 4 31 = some (.iconst 1, 1, 0, 0, 0) := by decide +kernel
theorem c_4_32 : zcode 4 32 = some (.isub, 1, 0, 0, 0) := by decide +kernel
theorem c_4_33 : zcode 4 33 = some (.putfield 20, 3, 0, 2, 1134) := by decide +kernel
theorem c_4_36 : zcode 4 36 = some (.aload_n 0, 1, 0, 0, 0) := by decide +kernel
theorem c_4_37 : zcode 4 37 = some (.getfield 14, 3, 0, 0, 1132) := by decide +kernel
theorem c_4_40 : zcode 4 40 = some (.aload_n 0, 1, 0, 0, 0) := by decide +kernel
theorem c_4_41 : zcode 4 41 = some (.getfield 24, 3, 0, 1, 1133) := by decide +kernel
theorem c_4_44 : zcode 4 44 = some (.aload_n 1, 1, 0, 0, 0) := by decide +kernel
theorem c_4_45 : zcode 4 45 = some (.invokevirtual 37, 3, 57, 0, 3017) := by decide +kernel
theorem c_4_48 : zcode 4 48 = some (.iconst 1, 1, 0, 0, 0) := by decide +kernel
theorem c_4_49 : zcode 4 49 = some (.ireturn, 1, 0, 0, 0) := by decide +kernel
theorem c_6_0 : zcode 6 0 = some (.iload_n 0, 1, 0, 0, 0) := by decide +kernel
theorem c_6_1 : zcode 6 1 = some (.iconst 4, 1, 0, 0, 0) := by decide +kernel
theorem c_6_2 : zcode 6 2 = some (.imul, 1, 0, 0, 0) := by decide +kernel
theorem c_6_3 : zcode 6 3 = some (.iload_n 1, 1, 0, 0, 0) := by decide +kernel
theorem c_6_4 : zcode 6 4 = some (.iadd, 1, 0, 0, 0) := by decide +kernel
theorem c_6_5 : zcode 6 5 = some (.ireturn, 1, 0, 0, 0) := by decide +kernel
theorem c_7_0 : zcode 7 0 = some (.aload_n 0, 1, 0, 0, 0) := by decide +kernel
theorem c_7_1 : zcode 7 1 = some (.getfield 9, 3, 1, 0, 1169) := by decide +kernel
theorem c_7_4 : zcode 7 4 = some (.bipush (-9), 2, 0, 0, 0) := by decide +kernel
theorem c_7_6 : zcode 7 6 = some (.invokestatic 21, 3, 189, 0, 3029) := by decide +kernel
theorem c_7_9 : zcode 7 9 = some (.aload_n 2, 1, 0, 0, 0) := by decide +kernel
theorem c_7_10 : zcode 7 10 = some (.invokevirtual 27, 3, 44, 0, 3032) := by decide +kernel
theorem c_7_13 : zcode 7 13 = some (.ifCond .ne 4, 3, 17, 0, 0) := by decide +kernel
theorem c_7_16 : zcode 7 16 = some (.return_, 1, 0, 0, 0) := by decide +kernel
theorem c_7_17 : zcode 7 17 = some (.aload_n 0, 1, 0, 0, 0) := by decide +kernel
theorem c_7_18 : zcode 7 18 = some (.iconst 0, 1, 0, 0, 0) := by decide +kernel
theorem c_7_19 : zcode 7 19 = some (.aload_n 2, 1, 0, 0, 0) := by decide +kernel
theorem c_7_20 : zcode 7 20 = some (.aload_n 1, 1, 0, 0, 0) := by decide +kernel
theorem c_7_21 : zcode 7 21 = some (.invokevirtual 33, 3, 48, 0, 3033) := by decide +kernel
theorem c_7_24 : zcode 7 24 = some (.invokestatic 37, 3, 6, 0, 3034) := by decide +kernel
theorem c_7_27 : zcode 7 27 = some (.iconst 0, 1, 0, 0, 0) := by decide +kernel
theorem c_7_28 : zcode 7 28 = some (.iconst 0, 1, 0, 0, 0) := by decide +kernel
theorem c_7_29 : zcode 7 29 = some (.invokevirtual 41, 3, 9, 0, 3037) := by decide +kernel
theorem c_7_32 : zcode 7 32 = some (.aload_n 2, 1, 0, 0, 0) := by decide +kernel
theorem c_7_33 : zcode 7 33 = some (.invokevirtual 45, 3, 46, 0, 3041) := by decide +kernel
theorem c_7_36 : zcode 7 36 = some (.istore_n 3, 1, 0, 0, 0) := by decide +kernel
theorem c_7_37 : zcode 7 37 = some (.iconst 0, 1, 0, 0, 0) := by decide +kernel
theorem c_7_38 : zcode 7 38 = some (.istore 4, 2, 0, 0, 0) := by decide +kernel
theorem c_7_40 : zcode 7 40 = some (.iload 4, 2, 0, 0, 0) := by decide +kernel
theorem c_7_42 : zcode 7 42 = some (.aload_n 0, 1, 0, 0, 0) := by decide +kernel
theorem c_7_43 : zcode 7 43 = some (.getfield 9, 3, 1, 0, 1169) := by decide +kernel
theorem c_7_46 : zcode 7 46 = some (.arraylength, 1, 0, 0, 0) := by decide +kernel
theorem c_7_47 : zcode 7 47 = some (.if_icmp .ge 28, 3, 75, 0, 0) := by decide +kernel
theorem c_7_50 : zcode 7 50 = some (.aload_n 0, 1, 0, 0, 0) := by decide +kernel
theorem c_7_51 : zcode 7 51 = some (.getfield 9, 3, 1, 0, 1169) := by decide +kernel
theorem c_7_54 : zcode 7 54 = some (.iload 4, 2, 0, 0, 0) := by decide +kernel
theorem c_7_56 : zcode 7 56 = some (.iaload, 1, 0, 0, 0) := by decide +kernel
theorem c_7_57 : zcode 7 57 = some (.ifCond .lt 12, 3, 69, 0, 0) := by decide +kernel
theorem c_7_60 : zcode 7 60 = some (.aload_n 0, 1, 0, 0, 0) := by decide +kernel
theorem c_7_61 : zcode 7 61 = some (.aload_n 1, 1, 0, 0, 0) := by decide +kernel
theorem c_7_62 : zcode 7 62 = some (.aload_n 2, 1, 0, 0, 0) := by decide +kernel
theorem c_7_63 : zcode 7 63 = some (.iload 4, 2, 0, 0, 0) := by decide +kernel
theorem c_7_65 : zcode 7 65 = some (.iload_n 3, 1, 0, 0, 0) := by decide +kernel
theorem c_7_66 : zcode 7 66 = some (.invokevirtual 49, 3, 8, 0, 3042) := by decide +kernel
theorem c_7_69 : zcode 7 69 = some (.iinc 4 1, 3, 0, 0, 0) := by decide +kernel
theorem c_7_72 : zcode 7 72 = some (.goto (-32), 3, 40, 0, 0) := by decide +kernel
theorem c_7_75 : zcode 7 75 = some (.return_, 1, 0, 0, 0) := by decide +kernel
theorem c_8_0 : zcode 8 0 = some (.iload_n 3, 1, 0, 0, 0) := by decide +kernel
theorem c_8_1 : zcode 8 1 = some (.ifCond .lt 21, 3, 22, 0, 0) := by decide +kernel
theorem c_8_4 : zcode 8 4 = some (.iload_n 3, 1, 0, 0, 0) := by decide +kernel
theorem c_8_5 : zcode 8 5 = some (.aload_n 0, 1, 0, 0, 0) := by decide +kernel
theorem c_8_6 : zcode 8 6 = some (.getfield 9, 3, 1, 0, 1169) := by decide +kernel
theorem c_8_9 : zcode 8 9 = some (.arraylength, 1, 0, 0, 0) := by decide +kernel
theorem c_8_10 : zcode 8 10 = some (.if_icmp .ge 12, 3, 22, 0, 0) := by decide +kernel
theorem c_8_13 : zcode 8 13 = some (.iload_n 3, 1, 0, 0, 0) := by decide +kernel
theorem c_8_14 : zcode 8 14 = some (.aload_n 0, 1, 0, 0, 0) := by decide +kernel
theorem c_8_15 : zcode 8 15 = some (.getfield 15, 3, 1, 1, 1170) := by decide +kernel
theorem c_8_18 : zcode 8 18 = some (.arraylength, 1, 0, 0, 0) := by decide +kernel
theorem c_8_19 : zcode 8 19 = some (.if_icmp .lt 4, 3, 23, 0, 0) := by decide +kernel
theorem c_8_22 : zcode 8 22 = some (.return_, 1, 0, 0, 0) := by decide +kernel
theorem c_8_23 : zcode 8 23 = some (.iload_n 3, 1, 0, 0, 0) := by decide +kernel
theorem c_8_24 : zcode 8 24 = some (.iconst 4, 1, 0, 0, 0) := by decide +kernel
theorem c_8_25 : zcode 8 25 = some (.idiv, 1, 0, 0, 0) := by decide +kernel
theorem c_8_26 : zcode 8 26 = some (.istore 5, 2, 0, 0, 0) := by decide +kernel
theorem c_8_28 : zcode 8 28 = some (.iload 4, 2, 0, 0, 0) := by decide +kernel
theorem c_8_30 : zcode 8 30 = some (.iload 5, 2, 0, 0, 0) := by decide +kernel
theorem c_8_32 : zcode 8 32 = some (.ior, 1, 0, 0, 0) := by decide +kernel
theorem c_8_33 : zcode 8 33 = some (.istore 6, 2, 0, 0, 0) := by decide +kernel
theorem c_8_35 : zcode 8 35 = some (.iload 6, 2, 0, 0, 0) := by decide +kernel
theorem c_8_37 : zcode 8 37 = some (.invokestatic 53, 3, 188, 0, 3046) := by decide +kernel
theorem c_8_40 : zcode 8 40 = some (.istore 7, 2, 0, 0, 0) := by decide +kernel
theorem c_8_42 : zcode 8 42 = some (.iconst 0, 1, 0, 0, 0) := by decide +kernel
theorem c_8_43 : zcode 8 43 = some (.istore 8, 2, 0, 0, 0) := by decide +kernel
theorem c_8_45 : zcode 8 45 = some (.iload 8, 2, 0, 0, 0) := by decide +kernel
theorem c_8_47 : zcode 8 47 = some (.aload_n 1, 1, 0, 0, 0) := by decide +kernel
theorem c_8_48 : zcode 8 48 = some (.invokevirtual 59, 3, 23, 0, 3052) := by decide +kernel
theorem c_8_51 : zcode 8 51 = some (.if_icmp .ge 105, 3, 156, 0, 0) := by decide +kernel
theorem c_8_54 : zcode 8 54 = some (.iload 6, 2, 0, 0, 0) := by decide +kernel
theorem c_8_56 : zcode 8 56 = some (.iload 8, 2, 0, 0, 0) := by decide +kernel
theorem c_8_58 : zcode 8 58 = some (.invokestatic 64, 3, 114, 1, 3053) := by decide +kernel
theorem c_8_61 : zcode 8 61 = some (.ifCond .eq 6, 3, 67, 0, 0) := by decide +kernel
theorem c_8_64 : zcode 8 64 = some (.goto 86, 3, 150, 0, 0) := by decide +kernel
theorem c_8_67 : zcode 8 67 = some (.aload_n 0, 1, 0, 0, 0) := by decide +kernel
theorem c_8_68 : zcode 8 68 = some (.getfield 9, 3, 1, 0, 1169) := by decide +kernel
theorem c_8_71 : zcode 8 71 = some (.iload_n 3, 1, 0, 0, 0) := by decide +kernel
theorem c_8_72 : zcode 8 72 = some (.iaload, 1, 0, 0, 0) := by decide +kernel
theorem c_8_73 : zcode 8 73 = some (.aload_n 1, 1, 0, 0, 0) := by decide +kernel
theorem c_8_74 : zcode 8 74 = some (.iload 8, 2, 0, 0, 0) := by decide +kernel
theorem c_8_76 : zcode 8 76 = some (.aload_n 2, 1, 0, 0, 0) := by decide +kernel
theorem c_8_77 : zcode 8 77 = some (.getfield 68, 3, 4, 1, 1096) := by decide +kernel
theorem c_8_80 : zcode 8 80 = some (.aload_n 2, 1, 0, 0, 0) := by decide +kernel
theorem c_8_81 : zcode 8 81 = some (.getfield 72, 3, 4, 0, 1093) := by decide +kernel
theorem c_8_84 : zcode 8 84 = some (.iload 7, 2, 0, 0, 0) := by decide +kernel
theorem c_8_86 : zcode 8 86 = some (.invokevirtual 75, 3, 28, 0, 3054) := by decide +kernel
theorem c_8_89 : zcode 8 89 = some (.iadd, 1, 0, 0, 0) := by decide +kernel
theorem c_8_90 : zcode 8 90 = some (.istore 9, 2, 0, 0, 0) := by decide +kernel
theorem c_8_92 : zcode 8 92 = some (.iload 9, 2, 0, 0, 0) := by decide +kernel
theorem c_8_94 : zcode 8 94 = some (.aload_n 2, 1, 0, 0, 0) := by decide +kernel
theorem c_8_95 : zcode 8 95 = some (.getfield 79, 3, 4, 2, 1099) := by decide +kernel
theorem c_8_98 : zcode 8 98 = some (.if_icmp .gt 52, 3, 150, 0, 0) := by decide +kernel
theorem c_8_101 : zcode 8 101 = some (.iload_n 3, 1, 0, 0, 0) := by decide +kernel
theorem c_8_102 : zcode 8 102 = some (.iconst 4, 1, 0, 0, 0) := by decide +kernel
theorem c_8_103 : zcode 8 103 = some (.irem, 1, 0, 0, 0) := by decide +kernel
theorem c_8_104 : zcode 8 104 = some (.aload_n 1, 1, 0, 0, 0) := by decide +kernel
theorem c_8_105 : zcode 8 105 = some (.getfield 82, 3, 2, 6, 1066) := by decide +kernel
theorem c_8_108 : zcode 8 108 = some (.iload 8, 2, 0, 0, 0) := by decide +kernel
theorem c_8_110 : zcode 8 110 = some (.invokevirtual 86, 3, 36, 0, 3055) := by decide +kernel
theorem c_8_113 : zcode 8 113 = some (.invokestatic 91, 3, 115, 1, 3056) := by decide +kernel
theorem c_8_116 : zcode 8 116 = some (.istore 10, 2, 0, 0, 0) := by decide +kernel
theorem c_8_118 : zcode 8 118 = some (.aload_n 0, 1, 0, 0, 0) := by decide +kernel
theorem c_8_119 : zcode 8 119 = some (.iload 5, 2, 0, 0, 0) := by decide +kernel
theorem c_8_121 : zcode 8 121 = some (.iconst 1, 1, 0, 0, 0) := by decide +kernel
theorem c_8_122 : zcode 8 122 = some (.iload 8, 2, 0, 0, 0) := by decide +kernel
theorem c_8_124 : zcode 8 124 = some (.ishl, 1, 0, 0, 0) := by decide +kernel
theorem c_8_125 : zcode 8 125 = some (.ior, 1, 0, 0, 0) := by decide +kernel
theorem c_8_126 : zcode 8 126 = some (.iload 10, 2, 0, 0, 0) := by decide +kernel
theorem c_8_128 : zcode 8 128 = some (.invokestatic 37, 3, 6, 0, 3034) := by decide +kernel
theorem c_8_131 : zcode 8 131 = some (.iload 9, 2, 0, 0, 0) := by decide +kernel
theorem c_8_133 : zcode 8 133 = some (.bipush 10, 2, 0, 0, 0) := by decide +kernel
theorem c_8_135 : zcode 8 135 = some (.aload_n 0, 1, 0, 0, 0) := by decide +kernel
theorem c_8_136 : zcode 8 136 = some (.getfield 15, 3, 1, 1, 1170) := by decide +kernel
theorem c_8_139 : zcode 8 139 = some (.iload_n 3, 1, 0, 0, 0) := by decide +kernel
theorem c_8_140 : zcode 8 140 = some (.iaload, 1, 0, 0, 0) := by decide +kernel
theorem c_8_141 : zcode 8 141 = some (.imul, 1, 0, 0, 0) := by decide +kernel
theorem c_8_142 : zcode 8 142 = some (.iload 8, 2, 0, 0, 0) := by decide +kernel
theorem c_8_144 : zcode 8 144 = some (.iadd, 1, 0, 0, 0) := by decide +kernel
theorem c_8_145 : zcode 8 145 = some (.iconst 1, 1, 0, 0, 0) := by decide +kernel
theorem c_8_146 : zcode 8 146 = some (.iadd, 1, 0, 0, 0) := by decide +kernel
theorem c_8_147 : zcode 8 147 = some (.invokevirtual 41, 3, 9, 0, 3037) := by decide +kernel
theorem c_8_150 : zcode 8 150 = some (.iinc 8 1, 3, 0, 0, 0) := by decide +kernel
theorem c_8_153 : zcode 8 153 = some (.goto (-108), 3, 45, 0, 0) := by decide +kernel
theorem c_8_156 : zcode 8 156 = some (.return_, 1, 0, 0, 0) := by decide +kernel
theorem c_9_0 : zcode 9 0 = some (.iload_n 1, 1, 0, 0, 0) := by decide +kernel
theorem c_9_1 : zcode 9 1 = some (.ifCond .lt 21, 3, 22, 0, 0) := by decide +kernel
theorem c_9_4 : zcode 9 4 = some (.iload_n 1, 1, 0, 0, 0) := by decide +kernel
theorem c_9_5 : zcode 9 5 = some (.aload_n 0, 1, 0, 0, 0) := by decide +kernel
theorem c_9_6 : zcode 9 6 = some (.getfield 9, 3, 1, 0, 1169) := by decide +kernel
theorem c_9_9 : zcode 9 9 = some (.arraylength, 1, 0, 0, 0) := by decide +kernel
theorem c_9_10 : zcode 9 10 = some (.if_icmp .ge 12, 3, 22, 0, 0) := by decide +kernel
theorem c_9_13 : zcode 9 13 = some (.iload_n 1, 1, 0, 0, 0) := by decide +kernel
theorem c_9_14 : zcode 9 14 = some (.aload_n 0, 1, 0, 0, 0) := by decide +kernel
theorem c_9_15 : zcode 9 15 = some (.getfield 15, 3, 1, 1, 1170) := by decide +kernel
theorem c_9_18 : zcode 9 18 = some (.arraylength, 1, 0, 0, 0) := by decide +kernel
theorem c_9_19 : zcode 9 19 = some (.if_icmp .lt 4, 3, 23, 0, 0) := by decide +kernel
theorem c_9_22 : zcode 9 22 = some (.return_, 1, 0, 0, 0) := by decide +kernel
theorem c_9_23 : zcode 9 23 = some (.aload_n 0, 1, 0, 0, 0) := by decide +kernel
theorem c_9_24 : zcode 9 24 = some (.getfield 9, 3, 1, 0, 1169) := by decide +kernel
theorem c_9_27 : zcode 9 27 = some (.iload_n 1, 1, 0, 0, 0) := by decide +kernel
theorem c_9_28 : zcode 9 28 = some (.iaload, 1, 0, 0, 0) := by decide +kernel
theorem c_9_29 : zcode 9 29 = some (.ifCond .lt 33, 3, 62, 0, 0) := by decide +kernel
theorem c_9_32 : zcode 9 32 = some (.iload_n 2, 1, 0, 0, 0) := by decide +kernel
theorem c_9_33 : zcode 9 33 = some (.aload_n 0, 1, 0, 0, 0) := by decide +kernel
theorem c_9_34 : zcode 9 34 = some (.getfield 9, 3, 1, 0, 1169) := by decide +kernel
theorem c_9_37 : zcode 9 37 = some (.iload_n 1, 1, 0, 0, 0) := by decide +kernel
theorem c_9_38 : zcode 9 38 = some (.iaload, 1, 0, 0, 0) := by decide +kernel
theorem c_9_39 : zcode 9 39 = some (.if_icmp .lt 23, 3, 62, 0, 0) := by decide +kernel
theorem c_9_42 : zcode 9 42 = some (.iload_n 2, 1, 0, 0, 0) := by decide +kernel
theorem c_9_43 : zcode 9 43 = some (.aload_n 0, 1, 0, 0, 0) := by decide +kernel
theorem c_9_44 : zcode 9 44 = some (.getfield 9, 3, 1, 0, 1169) := by decide +kernel
theorem c_9_47 : zcode 9 47 = some (.iload_n 1, 1, 0, 0, 0) := by decide +kernel
theorem c_9_48 : zcode 9 48 = some (.iaload, 1, 0, 0, 0) := by decide +kernel
theorem c_9_49 : zcode 9 49 = some (.if_icmp .ne 27, 3, 76, 0, 0) := by decide +kernel
theorem c_9_52 : zcode 9 52 = some (.iload_n 3, 1, 0, 0, 0) := by decide +kernel
theorem c_9_53 : zcode 9 53 = some (.aload_n 0, 1, 0, 0, 0) := by decide +kernel
theorem c_9_54 : zcode 9 54 = some (.getfield 15, 3, 1, 1, 1170) := by decide +kernel
theorem c_9_57 : zcode 9 57 = some (.iload_n 1, 1, 0, 0, 0) := by decide +kernel
theorem c_9_58 : zcode 9 58 = some (.iaload, 1, 0, 0, 0) := by decide +kernel
theorem c_9_59 : zcode 9 59 = some (.if_icmp .ge 17, 3, 76, 0, 0) := by decide +kernel
theorem c_9_62 : zcode 9 62 = some (.aload_n 0, 1, 0, 0, 0) := by decide +kernel
theorem c_9_63 : zcode 9 63 = some (.getfield 9, 3, 1, 0, 1169) := by decide +kernel
theorem c_9_66 : zcode 9 66 = some (.iload_n 1, 1, 0, 0, 0) := by decide +kernel
theorem c_9_67 : zcode 9 67 = some (.iload_n 2, 1, 0, 0, 0) := by decide +kernel
theorem c_9_68 : zcode 9 68 = some (.iastore, 1, 0, 0, 0) := by decide +kernel
theorem c_9_69 : zcode 9 69 = some (.aload_n 0, 1, 0, 0, 0) := by decide +kernel
theorem c_9_70 : zcode 9 70 = some (.getfield 15, 3, 1, 1, 1170) := by decide +kernel
theorem c_9_73 : zcode 9 73 = some (.iload_n 1, 1, 0, 0, 0) := by decide +kernel
theorem c_9_74 : zcode 9 74 = some (.iload_n 3, 1, 0, 0, 0) := by decide +kernel
theorem c_9_75 : zcode 9 75 = some (.iastore, 1, 0, 0, 0) := by decide +kernel
theorem c_9_76 : zcode 9 76 = some (.return_, 1, 0, 0, 0) := by decide +kernel
theorem c_10_0 : zcode 10 0 = some (.iconst 0, 1, 0, 0, 0) := by decide +kernel
theorem c_10_1 : zcode 10 1 = some (.istore_n 2, 1, 0, 0, 0) := by decide +kernel
theorem c_10_2 : zcode 10 2 = some (.iconst 0, 1, 0, 0, 0) := by decide +kernel
theorem c_10_3 : zcode 10 3 = some (.istore_n 3, 1, 0, 0, 0) := by decide +kernel
theorem c_10_4 : zcode 10 4 = some (.iload_n 3, 1, 0, 0, 0) := by decide +kernel
theorem c_10_5 : zcode 10 5 = some (.bipush 64, 2, 0, 0, 0) := by decide +kernel
theorem c_10_7 : zcode 10 7 = some (.if_icmp .ge 67, 3, 74, 0, 0) := by decide +kernel
theorem c_10_10 : zcode 10 10 = some (.aload_n 0, 1, 0, 0, 0) := by decide +kernel
theorem c_10_11 : zcode 10 11 = some (.iload_n 3, 1, 0, 0, 0) := by decide +kernel
theorem c_10_12 : zcode 10 12 = some (.invokevirtual 94, 3, 12, 0, 3061) := by decide +kernel
theorem c_10_15 : zcode 10 15 = some (.ifCond .eq 53, 3, 68, 0, 0) := by decide +kernel
theorem c_10_18 : zcode 10 18 = some (.aload_n 1, 1, 0, 0, 0) := by decide +kernel
theorem c_10_19 : zcode 10 19 = some (.iload_n 3, 1, 0, 0, 0) := by decide +kernel
theorem c_10_20 : zcode 10 20 = some (.invokevirtual 98, 3, 30, 0, 3065) := by decide +kernel
theorem c_10_23 : zcode 10 23 = some (.istore 4, 2, 0, 0, 0) := by decide +kernel
theorem c_10_25 : zcode 10 25 = some (.iload_n 2, 1, 0, 0, 0) := by decide +kernel
theorem c_10_26 : zcode 10 26 = some (.ifCond .eq 29, 3, 55, 0, 0) := by decide +kernel
theorem c_10_29 : zcode 10 29 = some (.iload 4, 2, 0, 0, 0) := by decide +kernel
theorem c_10_31 : zcode 10 31 = some (.aload_n 0, 1, 0, 0, 0) := by decide +kernel
theorem c_10_32 : zcode 10 32 = some (.getfield 101, 3, 1, 3, 1172) := by decide +kernel
theorem c_10_35 : zcode 10 35 = some (.if_icmp .gt 20, 3, 55, 0, 0) := by decide +kernel
theorem c_10_38 : zcode 10 38 = some (.iload 4, 2, 0, 0, 0) := by decide +kernel
theorem c_10_40 : zcode 10 40 = some (.aload_n 0, 1, 0, 0, 0) := by decide +kernel
theorem c_10_41 : zcode 10 41 = some (.getfield 101, 3, 1, 3, 1172) := by decide +kernel
theorem c_10_44 : zcode 10 44 = some (.if_icmp .ne 24, 3, 68, 0, 0) := by decide +kernel
theorem c_10_47 : zcode 10 47 = some (.aload_n 0, 1, 0, 0, 0) := by decide +kernel
theorem c_10_48 : zcode 10 48 = some (.iload_n 3, 1, 0, 0, 0) := by decide +kernel
theorem c_10_49 : zcode 10 49 = some (.invokevirtual 104, 3, 13, 0, 3066) := by decide +kernel
theorem c_10_52 : zcode 10 52 = some (.ifCond .eq 16, 3, 68, 0, 0) := by decide +kernel
theorem c_10_55 : zcode 10 55 = some (.aload_n 0, 1, 0, 0, 0) := by decide +kernel
theorem c_10_56 : zcode 10 56 = some (.iload_n 3, 1, 0, 0, 0) := by decide +kernel
theorem c_10_57 : zcode 10 57 = some (.invokevirtual 107, 3, 14, 0, 3070) := by decide +kernel
theorem c_10_60 : zcode 10 60 = some (.aload_n 0, 1, 0, 0, 0) := by decide +kernel
theorem c_10_61 : zcode 10 61 = some (.iload 4, 2, 0, 0, 0) := by decide +kernel
theorem c_10_63 : zcode 10 63 = some (.putfield 101, 3, 1, 3, 1172) := by decide +kernel
theorem c_10_66 : zcode 10 66 = some (.iconst 1, 1, 0, 0, 0) := by decide +kernel
theorem c_10_67 : zcode 10 67 = some (.istore_n 2, 1, 0, 0, 0) := by decide +kernel
theorem c_10_68 : zcode 10 68 = some (.iinc 3 1, 3, 0, 0, 0) := by decide +kernel
theorem c_10_71 : zcode 10 71 = some (.goto (-67), 3, 4, 0, 0) := by decide +kernel
theorem c_10_74 : zcode 10 74 = some (.iload_n 2, 1, 0, 0, 0) := by decide +kernel
theorem c_10_75 : zcode 10 75 = some (.ireturn, 1, 0, 0, 0) := by decide +kernel
theorem c_11_0 : zcode 11 0 = some (.iconst 0, 1, 0, 0, 0) := by decide +kernel
theorem c_11_1 : zcode 11 1 = some (.istore_n 1, 1, 0, 0, 0) := by decide +kernel
theorem c_11_2 : zcode 11 2 = some (.iconst 0, 1, 0, 0, 0) := by decide +kernel
theorem c_11_3 : zcode 11 3 = some (.istore_n 2, 1, 0, 0, 0) := by decide +kernel
theorem c_11_4 : zcode 11 4 = some (.iload_n 2, 1, 0, 0, 0) := by decide +kernel
theorem c_11_5 : zcode 11 5 = some (.bipush 64, 2, 0, 0, 0) := by decide +kernel
theorem c_11_7 : zcode 11 7 = some (.if_icmp .ge 36, 3, 43, 0, 0) := by decide +kernel
theorem c_11_10 : zcode 11 10 = some (.aload_n 0, 1, 0, 0, 0) := by decide +kernel
theorem c_11_11 : zcode 11 11 = some (.iload_n 2, 1, 0, 0, 0) := by decide +kernel
theorem c_11_12 : zcode 11 12 = some (.invokevirtual 94, 3, 12, 0, 3061) := by decide +kernel
theorem c_11_15 : zcode 11 15 = some (.ifCond .eq 22, 3, 37, 0, 0) := by decide +kernel
theorem c_11_18 : zcode 11 18 = some (.iload_n 1, 1, 0, 0, 0) := by decide +kernel
theorem c_11_19 : zcode 11 19 = some (.ifCond .eq 11, 3, 30, 0, 0) := by decide +kernel
theorem c_11_22 : zcode 11 22 = some (.aload_n 0, 1, 0, 0, 0) := by decide +kernel
theorem c_11_23 : zcode 11 23 = some (.iload_n 2, 1, 0, 0, 0) := by decide +kernel
theorem c_11_24 : zcode 11 24 = some (.invokevirtual 104, 3, 13, 0, 3066) := by decide +kernel
theorem c_11_27 : zcode 11 27 = some (.ifCond .eq 10, 3, 37, 0, 0) := by decide +kernel
theorem c_11_30 : zcode 11 30 = some (.aload_n 0, 1, 0, 0, 0) := by decide +kernel
theorem c_11_31 : zcode 11 31 = some (.iload_n 2, 1, 0, 0, 0) := by decide +kernel
theorem c_11_32 : zcode 11 32 = some (.invokevirtual 107, 3, 14, 0, 3070) := by decide +kernel
theorem c_11_35 : zcode 11 35 = some (.iconst 1, 1, 0, 0, 0) := by decide +kernel
theorem c_11_36 : zcode 11 36 = some (.istore_n 1, 1, 0, 0, 0) := by decide +kernel
theorem c_11_37 : zcode 11 37 = some (.iinc 2 1, 3, 0, 0, 0) := by decide +kernel
theorem c_11_40 : zcode 11 40 = some (.goto (-36), 3, 4, 0, 0) := by decide +kernel
theorem c_11_43 : zcode 11 43 = some (.iload_n 1, 1, 0, 0, 0) := by decide +kernel
theorem c_11_44 : zcode 11 44 = some (.ireturn, 1, 0, 0, 0) := by decide +kernel
theorem c_12_0 : zcode 12 0 = some (.iload_n 1, 1, 0, 0, 0) := by decide +kernel
theorem c_12_1 : zcode 12 1 = some (.iconst 3, 1, 0, 0, 0) := by decide +kernel
theorem c_12_2 : zcode 12 2 = some (.invokestatic 37, 3, 6, 0, 3034) := by decide +kernel
theorem c_12_5 : zcode 12 5 = some (.istore_n 2, 1, 0, 0, 0) := by decide +kernel
theorem c_12_6 : zcode 12 6 = some (.iload_n 2, 1, 0, 0, 0) := by decide +kernel
theorem c_12_7 : zcode 12 7 = some (.ifCond .lt 25, 3, 32, 0, 0) := by decide +kernel
theorem c_12_10 : zcode 12 10 = some (.iload_n 2, 1, 0, 0, 0) := by decide +kernel
theorem c_12_11 : zcode 12 11 = some (.aload_n 0, 1, 0, 0, 0) := by decide +kernel
theorem c_12_12 : zcode 12 12 = some (.getfield 9, 3, 1, 0, 1169) := by decide +kernel
theorem c_12_15 : zcode 12 15 = some (.arraylength, 1, 0, 0, 0) := by decide +kernel
theorem c_12_16 : zcode 12 16 = some (.if_icmp .ge 16, 3, 32, 0, 0) := by decide +kernel
theorem c_12_19 : zcode 12 19 = some (.aload_n 0, 1, 0, 0, 0) := by decide +kernel
theorem c_12_20 : zcode 12 20 = some (.getfield 9, 3, 1, 0, 1169) := by decide +kernel
theorem c_12_23 : zcode 12 23 = some (.iload_n 2, 1, 0, 0, 0) := by decide +kernel
theorem c_12_24 : zcode 12 24 = some (.iaload, 1, 0, 0, 0) := by decide +kernel
theorem c_12_25 : zcode 12 25 = some (.ifCond .lt 7, 3, 32, 0, 0) := by decide +kernel
theorem c_12_28 : zcode 12 28 = some (.iconst 1, 1, 0, 0, 0) := by decide +kernel
theorem c_12_29 : zcode 12 29 = some (.goto 4, 3, 33, 0, 0) := by decide +kernel
theorem c_12_32 : zcode 12 32 = some (.iconst 0, 1, 0, 0, 0) := by decide +kernel
theorem c_12_33 : zcode 12 33 = some (.ireturn, 1, 0, 0, 0) := by decide +kernel
theorem c_13_0 : zcode 13 0 = some (.iload_n 1, 1, 0, 0, 0) := by decide +kernel
theorem c_13_1 : zcode 13 1 = some (.iconst 3, 1, 0, 0, 0) := by decide +kernel
theorem c_13_2 : zcode 13 2 = some (.invokestatic 37, 3, 6, 0, 3034) := by decide +kernel
theorem c_13_5 : zcode 13 5 = some (.istore_n 2, 1, 0, 0, 0) := by decide +kernel
theorem c_13_6 : zcode 13 6 = some (.iload_n 2, 1, 0, 0, 0) := by decide +kernel
theorem c_13_7 : zcode 13 7 = some (.ifCond .lt 21, 3, 28, 0, 0) := by decide +kernel
theorem c_13_10 : zcode 13 10 = some (.iload_n 2, 1, 0, 0, 0) := by decide +kernel
theorem c_13_11 : zcode 13 11 = some (.aload_n 0, 1, 0, 0, 0) := by decide +kernel
theorem c_13_12 : zcode 13 12 = some (.getfield 9, 3, 1, 0, 1169) := by decide +kernel
theorem c_13_15 : zcode 13 15 = some (.arraylength, 1, 0, 0, 0) := by decide +kernel
theorem c_13_16 : zcode 13 16 = some (.if_icmp .ge 12, 3, 28, 0, 0) := by decide +kernel
theorem c_13_19 : zcode 13 19 = some (.iload_n 2, 1, 0, 0, 0) := by decide +kernel
theorem c_13_20 : zcode 13 20 = some (.aload_n 0, 1, 0, 0, 0) := by decide +kernel
theorem c_13_21 : zcode 13 21 = some (.getfield 15, 3, 1, 1, 1170) := by decide +kernel
theorem c_13_24 : zcode 13 24 = some (.arraylength, 1, 0, 0, 0) := by decide +kernel
theorem c_13_25 : zcode 13 25 = some (.if_icmp .lt 5, 3, 30, 0, 0) := by decide +kernel
theorem c_13_28 : zcode 13 28 = some (.iconst 0, 1, 0, 0, 0) := by decide +kernel
theorem c_13_29 : zcode 13 29 = some (.ireturn, 1, 0, 0, 0) := by decide +kernel
theorem c_13_30 : zcode 13 30 = some (.aload_n 0, 1, 0, 0, 0) := by decide +kernel
theorem c_13_31 : zcode 13 31 = some (.getfield 9, 3, 1, 0, 1169) := by decide +kernel
theorem c_13_34 : zcode 13 34 = some (.iload_n 2, 1, 0, 0, 0) := by decide +kernel
theorem c_13_35 : zcode 13 35 = some (.iaload, 1, 0, 0, 0) := by decide +kernel
theorem c_13_36 : zcode 13 36 = some (.aload_n 0, 1, 0, 0, 0) := by decide +kernel
theorem c_13_37 : zcode 13 37 = some (.getfield 111, 3, 1, 4, 1174) := by decide +kernel
theorem c_13_40 : zcode 13 40 = some (.if_icmp .lt 29, 3, 69, 0, 0) := by decide +kernel
theorem c_13_43 : zcode 13 43 = some (.aload_n 0, 1, 0, 0, 0) := by decide +kernel
theorem c_13_44 : zcode 13 44 = some (.getfield 9, 3, 1, 0, 1169) := by decide +kernel
theorem c_13_47 : zcode 13 47 = some (.iload_n 2, 1, 0, 0, 0) := by decide +kernel
theorem c_13_48 : zcode 13 48 = some (.iaload, 1, 0, 0, 0) := by decide +kernel
theorem c_13_49 : zcode 13 49 = some (.aload_n 0, 1, 0, 0, 0) := by decide +kernel
theorem c_13_50 : zcode 13 50 = some (.getfield 111, 3, 1, 4, 1174) := by decide +kernel
theorem c_13_53 : zcode 13 53 = some (.if_icmp .ne 20, 3, 73, 0, 0) := by decide +kernel
theorem c_13_56 : zcode 13 56 = some (.aload_n 0, 1, 0, 0, 0) := by decide +kernel
theorem c_13_57 : zcode 13 57 = some (.getfield 15, 3, 1, 1, 1170) := by decide +kernel
theorem c_13_60 : zcode 13 60 = some (.iload_n 2, 1, 0, 0, 0) := by decide +kernel
theorem c_13_61 : zcode 13 61 = some (.iaload, 1, 0, 0, 0) := by decide +kernel
theorem c_13_62 : zcode 13 62 = some (.aload_n 0, 1, 0, 0, 0) := by decide +kernel
theorem c_13_63 : zcode 13 63 = some (.getfield 114, 3, 1, 5, 1176) := by decide +kernel
theorem c_13_66 : zcode 13 66 = some (.if_icmp .ge 7, 3, 73, 0, 0) := by decide +kernel
theorem c_13_69 : zcode 13 69 = some (.iconst 1, 1, 0, 0, 0) := by decide +kernel
theorem c_13_70 : zcode 13 70 = some (.goto 4, 3, 74, 0, 0) := by decide +kernel
theorem c_13_73 : zcode 13 73 = some (.iconst 0, 1, 0, 0, 0) := by decide +kernel
theorem c_13_74 : zcode 13 74 = some (.ireturn, 1, 0, 0, 0) := by decide +kernel
theorem c_14_0 : zcode 14 0 = some (.iload_n 1, 1, 0, 0, 0) := by decide +kernel
theorem c_14_1 : zcode 14 1 = some (.iconst 3, 1, 0, 0, 0) := by decide +kernel
theorem c_14_2 : zcode 14 2 = some (.invokestatic 37, 3, 6, 0, 3034) := by decide +kernel
theorem c_14_5 : zcode 14 5 = some (.istore_n 2, 1, 0, 0, 0) := by decide +kernel
theorem c_14_6 : zcode 14 6 = some (.iload_n 2, 1, 0, 0, 0) := by decide +kernel
theorem c_14_7 : zcode 14 7 = some (.ifCond .lt 41, 3, 48, 0, 0) := by decide +kernel
theorem c_14_10 : zcode 14 10 = some (.iload_n 2, 1, 0, 0, 0) := by decide +kernel
theorem c_14_11 : zcode 14 11 = some (.aload_n 0, 1, 0, 0, 0) := by decide +kernel
theorem c_14_12 : zcode 14 12 = some (.getfield 9, 3, 1, 0, 1169) := by decide +kernel
theorem c_14_15 : zcode 14 15 = some (.arraylength, 1, 0, 0, 0) := by decide +kernel
theorem c_14_16 : zcode 14 16 = some (.if_icmp .ge 32, 3, 48, 0, 0) := by decide +kernel
theorem c_14_19 : zcode 14 19 = some (.iload_n 2, 1, 0, 0, 0) := by decide +kernel
theorem c_14_20 : zcode 14 20 = some (.aload_n 0, 1, 0, 0, 0) := by decide +kernel
theorem c_14_21 : zcode 14 21 = some (.getfield 15, 3, 1, 1, 1170) := by decide +kernel
theorem c_14_24 : zcode 14 24 = some (.arraylength, 1, 0, 0, 0) := by decide +kernel
theorem c_14_25 : zcode 14 25 = some (.if_icmp .ge 23, 3, 48, 0, 0) := by decide +kernel
theorem c_14_28 : zcode 14 28 = some (.aload_n 0, 1, 0, 0, 0) := by decide +kernel
theorem c_14_29 : zcode 14 29 = some (.aload_n 0, 1, 0, 0, 0) := by decide +kernel
theorem c_14_30 : zcode 14 30 = some (.getfield 9, 3, 1, 0, 1169) := by decide +kernel
theorem c_14_33 : zcode 14 33 = some (.iload_n 2, 1, 0, 0, 0) := by decide +kernel
theorem c_14_34 : zcode 14 34 = some (.iaload, 1, 0, 0, 0) := by decide +kernel
theorem c_14_35 : zcode 14 35 = some (.putfield 111, 3, 1, 4, 1174) := by decide +kernel
theorem c_14_38 : zcode 14 38 = some (.aload_n 0, 1, 0, 0, 0) := by decide +kernel
theorem c_14_39 : zcode 14 39 = some (.aload_n 0, 1, 0, 0, 0) := by decide +kernel
theorem c_14_40 : zcode 14 40 = some (.getfield 15, 3, 1, 1, 1170) := by decide +kernel
theorem c_14_43 : zcode 14 43 = some (.iload_n 2, 1, 0, 0, 0) := by decide +kernel
theorem c_14_44 : zcode 14 44 = some (.iaload, 1, 0, 0, 0) := by decide +kernel
theorem c_14_45 : zcode 14 45 = some (.putfield 114, 3, 1, 5, 1176) := by decide +kernel
theorem c_14_48 : zcode 14 48 = some (.return_, 1, 0, 0, 0) := by decide +kernel
theorem c_15_0 : zcode 15 0 = some (.iconst 0, 1, 0, 0, 0) := by decide +kernel
theorem c_15_1 : zcode 15 1 = some (.istore_n 2, 1, 0, 0, 0) := by decide +kernel
theorem c_15_2 : zcode 15 2 = some (.iload_n 2, 1, 0, 0, 0) := by decide +kernel
theorem c_15_3 : zcode 15 3 = some (.aload_n 0, 1, 0, 0, 0) := by decide +kernel
theorem c_15_4 : zcode 15 4 = some (.getfield 18, 3, 1, 2, 1171) := by decide +kernel
theorem c_15_7 : zcode 15 7 = some (.arraylength, 1, 0, 0, 0) := by decide +kernel
theorem c_15_8 : zcode 15 8 = some (.if_icmp .ge 83, 3, 91, 0, 0) := by decide +kernel
theorem c_15_11 : zcode 15 11 = some (.aload_n 0, 1, 0, 0, 0) := by decide +kernel
theorem c_15_12 : zcode 15 12 = some (.iload_n 2, 1, 0, 0, 0) := by decide +kernel
theorem c_15_13 : zcode 15 13 = some (.invokevirtual 94, 3, 12, 0, 3061) := by decide +kernel
theorem c_15_16 : zcode 15 16 = some (.ifCond .eq 11, 3, 27, 0, 0) := by decide +kernel
theorem c_15_19 : zcode 15 19 = some (.aload_n 1, 1, 0, 0, 0) := by decide +kernel
theorem c_15_20 : zcode 15 20 = some (.iload_n 2, 1, 0, 0, 0) := by decide +kernel
theorem c_15_21 : zcode 15 21 = some (.invokevirtual 98, 3, 30, 0, 3065) := by decide +kernel
theorem c_15_24 : zcode 15 24 = some (.goto 4, 3, 28, 0, 0) := by decide +kernel
theorem c_15_27 : zcode 15 27 = some (.iconst 0, 1, 0, 0, 0) := by decide +kernel
theorem c_15_28 : zcode 15 28 = some (.istore_n 3, 1, 0, 0, 0) := by decide +kernel
theorem c_15_29 : zcode 15 29 = some (.iconst 0, 1, 0, 0, 0) := by decide +kernel
theorem c_15_30 : zcode 15 30 = some (.istore 4, 2, 0, 0, 0) := by decide +kernel
theorem c_15_32 : zcode 15 32 = some (.iload 4, 2, 0, 0, 0) := by decide +kernel
theorem c_15_34 : zcode 15 34 = some (.bipush 6, 2, 0, 0, 0) := by decide +kernel
theorem c_15_36 : zcode 15 36 = some (.if_icmp .ge 42, 3, 78, 0, 0) := by decide +kernel
theorem c_15_39 : zcode 15 39 = some (.iload_n 2, 1, 0, 0, 0) := by decide +kernel
theorem c_15_40 : zcode 15 40 = some (.iconst 1, 1, 0, 0, 0) := by decide +kernel
theorem c_15_41 : zcode 15 41 = some (.iload 4, 2, 0, 0, 0) := by decide +kernel
theorem c_15_43 : zcode 15 43 = some (.ishl, 1, 0, 0, 0) := by decide +kernel
theorem c_15_44 : zcode 15 44 = some (.iconst (-1), 1, 0, 0, 0) := by decide +kernel
theorem c_15_45 : zcode 15 45 = some (.ixor, 1, 0, 0, 0) := by decide +kernel
theorem c_15_46 : zcode 15 46 = some (.iand, 1, 0, 0, 0) := by decide +kernel
theorem c_15_47 : zcode 15 47 = some (.istore 5, 2, 0, 0, 0) := by decide +kernel
theorem c_15_49 : zcode 15 49 = some (.iload 5, 2, 0, 0, 0) := by decide +kernel
theorem c_15_51 : zcode 15 51 = some (.ifCond .lt 21, 3, 72, 0, 0) := by decide +kernel
theorem c_15_54 : zcode 15 54 = some (.iload 5, 2, 0, 0, 0) := by decide +kernel
theorem c_15_56 : zcode 15 56 = some (.iload_n 2, 1, 0, 0, 0) := by decide +kernel
theorem c_15_57 : zcode 15 57 = some (.if_icmp .ge 15, 3, 72, 0, 0) := by decide +kernel
theorem c_15_60 : zcode 15 60 = some (.iload_n 3, 1, 0, 0, 0) := by decide +kernel
theorem c_15_61 : zcode 15 61 = some (.aload_n 0, 1, 0, 0, 0) := by decide +kernel
theorem c_15_62 : zcode 15 62 = some (.getfield 18, 3, 1, 2, 1171) := by decide +kernel
theorem c_15_65 : zcode 15 65 = some (.iload 5, 2, 0, 0, 0) := by decide +kernel
theorem c_15_67 : zcode 15 67 = some (.iaload, 1, 0, 0, 0) := by decide +kernel
theorem c_15_68 : zcode 15 68 = some (.invokestatic 117, 3, 0, 3, 3132) := by decide +kernel
theorem c_15_71 : zcode 15 71 = some (.istore_n 3, 1, 0, 0, 0) := by decide +kernel
theorem c_15_72 : zcode 15 72 = some (.iinc 4 1, 3, 0, 0, 0) := by decide +kernel
theorem c_15_75 : zcode 15 75 = some (.goto (-43), 3, 32, 0, 0) := by decide +kernel
theorem c_15_78 : zcode 15 78 = some (.aload_n 0, 1, 0, 0, 0) := by decide +kernel
theorem c_15_79 : zcode 15 79 = some (.getfield 18, 3, 1, 2, 1171) := by decide +kernel
theorem c_15_82 : zcode 15 82 = some (.iload_n 2, 1, 0, 0, 0) := by decide +kernel
theorem c_15_83 : zcode 15 83 = some (.iload_n 3, 1, 0, 0, 0) := by decide +kernel
theorem c_15_84 : zcode 15 84 = some (.iastore, 1, 0, 0, 0) := by decide +kernel
theorem c_15_85 : zcode 15 85 = some (.iinc 2 1, 3, 0, 0, 0) := by decide +kernel
theorem c_15_88 : zcode 15 88 = some (.goto (-86), 3, 2, 0, 0) := by decide +kernel
theorem c_15_91 : zcode 15 91 = some (.return_, 1, 0, 0, 0) := by decide +kernel
theorem c_16_0 : zcode 16 0 = some (.iload_n 1, 1, 0, 0, 0) := by decide +kernel
theorem c_16_1 : zcode 16 1 = some (.iconst 1, 1, 0, 0, 0) := by decide +kernel
theorem c_16_2 : zcode 16 2 = some (.iload_n 2, 1, 0, 0, 0) := by decide +kernel
theorem c_16_3 : zcode 16 3 = some (.ishl, 1, 0, 0, 0) := by decide +kernel
theorem c_16_4 : zcode 16 4 = some (.ior, 1, 0, 0, 0) := by decide +kernel
theorem c_16_5 : zcode 16 5 = some (.istore_n 3, 1, 0, 0, 0) := by decide +kernel
theorem c_16_6 : zcode 16 6 = some (.iload_n 1, 1, 0, 0, 0) := by decide +kernel
theorem c_16_7 : zcode 16 7 = some (.ifCond .lt 25, 3, 32, 0, 0) := by decide +kernel
theorem c_16_10 : zcode 16 10 = some (.iload_n 1, 1, 0, 0, 0) := by decide +kernel
theorem c_16_11 : zcode 16 11 = some (.aload_n 0, 1, 0, 0, 0) := by decide +kernel
theorem c_16_12 : zcode 16 12 = some (.getfield 18, 3, 1, 2, 1171) := by decide +kernel
theorem c_16_15 : zcode 16 15 = some (.arraylength, 1, 0, 0, 0) := by decide +kernel
theorem c_16_16 : zcode 16 16 = some (.if_icmp .ge 16, 3, 32, 0, 0) := by decide +kernel
theorem c_16_19 : zcode 16 19 = some (.iload_n 3, 1, 0, 0, 0) := by decide +kernel
theorem c_16_20 : zcode 16 20 = some (.ifCond .lt 12, 3, 32, 0, 0) := by decide +kernel
theorem c_16_23 : zcode 16 23 = some (.iload_n 3, 1, 0, 0, 0) := by decide +kernel
theorem c_16_24 : zcode 16 24 = some (.aload_n 0, 1, 0, 0, 0) := by decide +kernel
theorem c_16_25 : zcode 16 25 = some (.getfield 18, 3, 1, 2, 1171) := by decide +kernel
theorem c_16_28 : zcode 16 28 = some (.arraylength, 1, 0, 0, 0) := by decide +kernel
theorem c_16_29 : zcode 16 29 = some (.if_icmp .lt 5, 3, 34, 0, 0) := by decide +kernel
theorem c_16_32 : zcode 16 32 = some (.iconst 0, 1, 0, 0, 0) := by decide +kernel
theorem c_16_33 : zcode 16 33 = some (.ireturn, 1, 0, 0, 0) := by decide +kernel
theorem c_16_34 : zcode 16 34 = some (.aload_n 0, 1, 0, 0, 0) := by decide +kernel
theorem c_16_35 : zcode 16 35 = some (.getfield 18, 3, 1, 2, 1171) := by decide +kernel
theorem c_16_38 : zcode 16 38 = some (.iload_n 3, 1, 0, 0, 0) := by decide +kernel
theorem c_16_39 : zcode 16 39 = some (.iaload, 1, 0, 0, 0) := by decide +kernel
theorem c_16_40 : zcode 16 40 = some (.aload_n 0, 1, 0, 0, 0) := by decide +kernel
theorem c_16_41 : zcode 16 41 = some (.getfield 18, 3, 1, 2, 1171) := by decide +kernel
theorem c_16_44 : zcode 16 44 = some (.iload_n 1, 1, 0, 0, 0) := by decide +kernel
theorem c_16_45 : zcode 16 45 = some (.iaload, 1, 0, 0, 0) := by decide +kernel
theorem c_16_46 : zcode 16 46 = some (.isub, 1, 0, 0, 0) := by decide +kernel
theorem c_16_47 : zcode 16 47 = some (.ireturn, 1, 0, 0, 0) := by decide +kernel
theorem c_18_0 : zcode 18 0 = some (.aload_n 0, 1, 0, 0, 0) := by decide +kernel
theorem c_18_1 : zcode 18 1 = some (.invokevirtual 38, 3, 20, 0, 2026) := by decide +kernel
theorem c_18_4 : zcode 18 4 = some (.aload_n 1, 1, 0, 0, 0) := by decide +kernel
theorem c_18_5 : zcode 18 5 = some (.iconst 0, 1, 0, 0, 0) := by decide +kernel
theorem c_18_6 : zcode 18 6 = some (.invokevirtual 41, 3, 36, 0, 2031) := by decide +kernel
theorem c_18_9 : zcode 18 9 = some (.bipush 69, 2, 0, 0, 0) := by decide +kernel
theorem c_18_11 : zcode 18 11 = some (.if_icmp .eq 5, 3, 16, 0, 0) := by decide +kernel
theorem c_18_14 : zcode 18 14 = some (.iconst 0, 1, 0, 0, 0) := by decide +kernel
theorem c_18_15 : zcode 18 15 = some (.ireturn, 1, 0, 0, 0) := by decide +kernel
theorem c_18_16 : zcode 18 16 = some (.iconst 0, 1, 0, 0, 0) := by decide +kernel
theorem c_18_17 : zcode 18 17 = some (.istore_n 2, 1, 0, 0, 0) := by decide +kernel
theorem c_18_18 : zcode 18 18 = some (.iconst 0, 1, 0, 0, 0) := by decide +kernel
theorem c_18_19 : zcode 18 19 = some (.istore_n 3, 1, 0, 0, 0) := by decide +kernel
theorem c_18_20 : zcode 18 20 = some (.iconst 1, 1, 0, 0, 0) := by decide +kernel
theorem c_18_21 : zcode 18 21 = some (.istore 4, 2, 0, 0, 0) := by decide +kernel
theorem c_18_23 : zcode 18 23 = some (.iload 4, 2, 0, 0, 0) := by decide +kernel
theorem c_18_25 : zcode 18 25 = some (.aload_n 1, 1, 0, 0, 0) := by decide +kernel
theorem c_18_26 : zcode 18 26 = some (.invokevirtual 45, 3, 32, 0, 2035) := by decide +kernel
theorem c_18_29 : zcode 18 29 = some (.if_icmp .ge 111, 3, 140, 0, 0) := by decide +kernel
theorem c_18_32 : zcode 18 32 = some (.aload_n 1, 1, 0, 0, 0) := by decide +kernel
theorem c_18_33 : zcode 18 33 = some (.iload 4, 2, 0, 0, 0) := by decide +kernel
theorem c_18_35 : zcode 18 35 = some (.invokevirtual 41, 3, 36, 0, 2031) := by decide +kernel
theorem c_18_38 : zcode 18 38 = some (.istore 5, 2, 0, 0, 0) := by decide +kernel
theorem c_18_40 : zcode 18 40 = some (.iload_n 2, 1, 0, 0, 0) := by decide +kernel
theorem c_18_41 : zcode 18 41 = some (.ifCond .ne 36, 3, 77, 0, 0) := by decide +kernel
theorem c_18_44 : zcode 18 44 = some (.aload_n 0, 1, 0, 0, 0) := by decide +kernel
theorem c_18_45 : zcode 18 45 = some (.iload 5, 2, 0, 0, 0) := by decide +kernel
theorem c_18_47 : zcode 18 47 = some (.iconst 0, 1, 0, 0, 0) := by decide +kernel
theorem c_18_48 : zcode 18 48 = some (.invokevirtual 49, 3, 19, 0, 2036) := by decide +kernel
theorem c_18_51 : zcode 18 51 = some (.astore 6, 2, 0, 0, 0) := by decide +kernel
theorem c_18_53 : zcode 18 53 = some (.aload 6, 2, 0, 0, 0) := by decide +kernel
theorem c_18_55 : zcode 18 55 = some (.ifnull 11, 3, 66, 0, 0) := by decide +kernel
theorem c_18_58 : zcode 18 58 = some (.aload 6, 2, 0, 0, 0) := by decide +kernel
theorem c_18_60 : zcode 18 60 = some (.invokevirtual 53, 3, 33, 0, 2040) := by decide +kernel
theorem c_18_63 : zcode 18 63 = some (.ifCond .eq 6, 3, 69, 0, 0) := by decide +kernel
theorem c_18_66 : zcode 18 66 = some (.iload 4, 2, 0, 0, 0) := by decide +kernel
theorem c_18_68 : zcode 18 68 = some (.ireturn, 1, 0, 0, 0) := by decide +kernel
theorem c_18_69 : zcode 18 69 = some (.iload 5, 2, 0, 0, 0) := by decide +kernel
theorem c_18_71 : zcode 18 71 = some (.istore_n 2, 1, 0, 0, 0) := by decide +kernel
theorem c_18_72 : zcode 18 72 = some (.iconst 0, 1, 0, 0, 0) := by decide +kernel
theorem c_18_73 : zcode 18 73 = some (.istore_n 3, 1, 0, 0, 0) := by decide +kernel
theorem c_18_74 : zcode 18 74 = some (.goto 60, 3, 134, 0, 0) := by decide +kernel
theorem c_18_77 : zcode 18 77 = some (.aload_n 0, 1, 0, 0, 0) := by decide +kernel
theorem c_18_78 : zcode 18 78 = some (.iload_n 2, 1, 0, 0, 0) := by decide +kernel
theorem c_18_79 : zcode 18 79 = some (.iload_n 3, 1, 0, 0, 0) := by decide +kernel
theorem c_18_80 : zcode 18 80 = some (.invokevirtual 49, 3, 19, 0, 2036) := by decide +kernel
theorem c_18_83 : zcode 18 83 = some (.astore 6, 2, 0, 0, 0) := by decide +kernel
theorem c_18_85 : zcode 18 85 = some (.aload 6, 2, 0, 0, 0) := by decide +kernel
theorem c_18_87 : zcode 18 87 = some (.ifnull 16, 3, 103, 0, 0) := by decide +kernel
theorem c_18_90 : zcode 18 90 = some (.aload 6, 2, 0, 0, 0) := by decide +kernel
theorem c_18_92 : zcode 18 92 = some (.iload 5, 2, 0, 0, 0) := by decide +kernel
theorem c_18_94 : zcode 18 94 = some (.bipush 48, 2, 0, 0, 0) := by decide +kernel
theorem c_18_96 : zcode 18 96 = some (.isub, 1, 0, 0, 0) := by decide +kernel
theorem c_18_97 : zcode 18 97 = some (.invokevirtual 57, 3, 34, 0, 2041) := by decide +kernel
theorem c_18_100 : zcode 18 100 = some (.ifCond .ne 6, 3, 106, 0, 0) := by decide +kernel
theorem c_18_103 : zcode 18 103 = some (.iload 4, 2, 0, 0, 0) := by decide +kernel
theorem c_18_105 : zcode 18 105 = some (.ireturn, 1, 0, 0, 0) := by decide +kernel
theorem c_18_106 : zcode 18 106 = some (.aload 6, 2, 0, 0, 0) := by decide +kernel
theorem c_18_108 : zcode 18 108 = some (.iload 5, 2, 0, 0, 0) := by decide +kernel
theorem c_18_110 : zcode 18 110 = some (.bipush 48, 2, 0, 0, 0) := by decide +kernel
theorem c_18_112 : zcode 18 112 = some (.isub, 1, 0, 0, 0) := by decide +kernel
theorem c_18_113 : zcode 18 113 = some (.invokevirtual 61, 3, 37, 0, 2042) := by decide +kernel
theorem c_18_116 : zcode 18 116 = some (.iinc 3 1, 3, 0, 0, 0) := by decide +kernel
theorem c_18_119 : zcode 18 119 = some (.aload_n 0, 1, 0, 0, 0) := by decide +kernel
theorem c_18_120 : zcode 18 120 = some (.iload_n 2, 1, 0, 0, 0) := by decide +kernel
theorem c_18_121 : zcode 18 121 = some (.iload_n 3, 1, 0, 0, 0) := by decide +kernel
theorem c_18_122 : zcode 18 122 = some (.invokevirtual 49, 3, 19, 0, 2036) := by decide +kernel
theorem c_18_125 : zcode 18 125 = some (.ifnonnull 7, 3, 132, 0, 0) := by decide +kernel
theorem c_18_128 : zcode 18 128 = some (.iconst 0, 1, 0, 0, 0) := by decide +kernel
theorem c_18_129 : zcode 18 129 = some (.goto 4, 3, 133, 0, 0) := by decide +kernel
theorem c_18_132 : zcode 18 132 = some (.iload_n 2, 1, 0, 0, 0) := by decide +kernel
theorem c_18_133 : zcode 18 133 = some (.istore_n 2, 1, 0, 0, 0) := by decide +kernel
theorem c_18_134 : zcode 18 134 = some (.iinc 4 1, 3, 0, 0, 0) := by decide +kernel
theorem c_18_137 : zcode 18 137 = some (.goto (-114), 3, 23, 0, 0) := by decide +kernel
theorem c_18_140 : zcode 18 140 = some (.iload_n 2, 1, 0, 0, 0) := by decide +kernel
theorem c_18_141 : zcode 18 141 = some (.ifCond .ne 8, 3, 149, 0, 0) := by decide +kernel
theorem c_18_144 : zcode 18 144 = some (.bipush (-9), 2, 0, 0, 0) := by decide +kernel
theorem c_18_146 : zcode 18 146 = some (.goto 7, 3, 153, 0, 0) := by decide +kernel
theorem c_18_149 : zcode 18 149 = some (.aload_n 1, 1, 0, 0, 0) := by decide +kernel
theorem c_18_150 : zcode 18 150 = some (.invokevirtual 45, 3, 32, 0, 2035) := by decide +kernel
theorem c_18_153 : zcode 18 153 = some (.ireturn, 1, 0, 0, 0) := by decide +kernel
theorem c_19_0 : zcode 19 0 = some (.iload_n 1, 1, 0, 0, 0) := by decide +kernel
theorem c_19_1 : zcode 19 1 = some (.lookupswitch 122 #[(71, 35), (83, 60), (89, 85)], 35, 0, 0, 0) := by decide +kernel
theorem c_19_36 : zcode 19 36 = some (.iload_n 2, 1, 0, 0, 0) := by decide +kernel
theorem c_19_37 : zcode 19 37 = some (.ifCond .ne 10, 3, 47, 0, 0) := by decide +kernel
theorem c_19_40 : zcode 19 40 = some (.aload_n 0, 1, 0, 0, 0) := by decide +kernel
theorem c_19_41 : zcode 19 41 = some (.getfield 14, 3, 2, 0, 1052) := by decide +kernel
theorem c_19_44 : zcode 19 44 = some (.goto 16, 3, 60, 0, 0) := by decide +kernel
theorem c_19_47 : zcode 19 47 = some (.iload_n 2, 1, 0, 0, 0) := by decide +kernel
theorem c_19_48 : zcode 19 48 = some (.iconst 1, 1, 0, 0, 0) := by decide +kernel
theorem c_19_49 : zcode 19 49 = some (.if_icmp .ne 10, 3, 59, 0, 0) := by decide +kernel
theorem c_19_52 : zcode 19 52 = some (.aload_n 0, 1, 0, 0, 0) := by decide +kernel
theorem c_19_53 : zcode 19 53 = some (.getfield 20, 3, 2, 1, 1054) := by decide +kernel
theorem c_19_56 : zcode 19 56 = some (.goto 4, 3, 60, 0, 0) := by decide +kernel
theorem c_19_59 : zcode 19 59 = some (.aconst_null, 1, 0, 0, 0) := by decide +kernel
theorem c_19_60 : zcode 19 60 = some (.areturn, 1, 0, 0, 0) := by decide +kernel
theorem c_19_61 : zcode 19 61 = some (.iload_n 2, 1, 0, 0, 0) := by decide +kernel
theorem c_19_62 : zcode 19 62 = some (.ifCond .ne 10, 3, 72, 0, 0) := by decide +kernel
theorem c_19_65 : zcode 19 65 = some (.aload_n 0, 1, 0, 0, 0) := by decide +kernel
theorem c_19_66 : zcode 19 66 = some (.getfield 23, 3, 2, 2, 1057) := by decide +kernel
theorem c_19_69 : zcode 19 69 = some (.goto 16, 3, 85, 0, 0) := by decide +kernel
theorem c_19_72 : zcode 19 72 = some (.iload_n 2, 1, 0, 0, 0) := by decide +kernel
theorem c_19_73 : zcode 19 73 = some (.iconst 1, 1, 0, 0, 0) := by decide +kernel
theorem c_19_74 : zcode 19 74 = some (.if_icmp .ne 10, 3, 84, 0, 0) := by decide +kernel
theorem c_19_77 : zcode 19 77 = some (.aload_n 0, 1, 0, 0, 0) := by decide +kernel
theorem c_19_78 : zcode 19 78 = some (.getfield 26, 3, 2, 3, 1059) := by decide +kernel
theorem c_19_81 : zcode 19 81 = some (.goto 4, 3, 85, 0, 0) := by decide +kernel
theorem c_19_84 : zcode 19 84 = some (.aconst_null, 1, 0, 0, 0) := by decide +kernel
theorem c_19_85 : zcode 19 85 = some (.areturn, 1, 0, 0, 0) := by decide +kernel
theorem c_19_86 : zcode 19 86 = some (.iload_n 2, 1, 0, 0, 0) := by decide +kernel
theorem c_19_87 : zcode 19 87 = some (.ifCond .ne 10, 3, 97, 0, 0) := by decide +kernel
theorem c_19_90 : zcode 19 90 = some (.aload_n 0, 1, 0, 0, 0) := by decide +kernel
theorem c_19_91 : zcode 19 91 = some (.getfield 29, 3, 2, 4, 1061) := by decide +kernel
theorem c_19_94 : zcode 19 94 = some (.goto 28, 3, 122, 0, 0) := by decide +kernel
theorem c_19_97 : zcode 19 97 = some (.iload_n 2, 1, 0, 0, 0) := by decide +kernel
theorem c_19_98 : zcode 19 98 = some (.iconst 1, 1, 0, 0, 0) := by decide +kernel
theorem c_19_99 : zcode 19 99 = some (.if_icmp .ne 10, 3, 109, 0, 0) := by decide +kernel
theorem c_19_102 : zcode 19 102 = some (.aload_n 0, 1, 0, 0, 0) := by decide +kernel
theorem c_19_103 : zcode 19 103 = some (.getfield 32, 3, 2, 5, 1063) := by decide +kernel
theorem c_19_106 : zcode 19 106 = some (.goto 16, 3, 122, 0, 0) := by decide +kernel
theorem c_19_109 : zcode 19 109 = some (.iload_n 2, 1, 0, 0, 0) := by decide +kernel
theorem c_19_110 : zcode 19 110 = some (.iconst 2, 1, 0, 0, 0) := by decide +kernel
theorem c_19_111 : zcode 19 111 = some (.if_icmp .ne 10, 3, 121, 0, 0) := by decide +kernel
theorem c_19_114 : zcode 19 114 = some (.aload_n 0, 1, 0, 0, 0) := by decide +kernel
theorem c_19_115 : zcode 19 115 = some (.getfield 35, 3, 2, 6, 1065) := by decide +kernel
theorem c_19_118 : zcode 19 118 = some (.goto 4, 3, 122, 0, 0) := by decide +kernel
theorem c_19_121 : zcode 19 121 = some (.aconst_null, 1, 0, 0, 0) := by decide +kernel
theorem c_19_122 : zcode 19 122 = some (.areturn, 1, 0, 0, 0) := by decide +kernel
theorem c_19_123 : zcode 19 123 = some (.aconst_null, 1, 0, 0, 0) := by decide +kernel
theorem c_19_124 : zcode 19 124 = some (.areturn, 1, 0, 0, 0) := by decide +kernel
theorem c_20_0 : zcode 20 0 = some (.aload_n 0, 1, 0, 0, 0) := by decide +kernel
theorem c_20_1 : zcode 20 1 = some (.getfield 14, 3, 2, 0, 1052) := by decide +kernel
theorem c_20_4 : zcode 20 4 = some (.invokevirtual 65, 3, 38, 0, 2030) := by decide +kernel
theorem c_20_7 : zcode 20 7 = some (.aload_n 0, 1, 0, 0, 0) := by decide +kernel
theorem c_20_8 : zcode 20 8 = some (.getfield 20, 3, 2, 1, 1054) := by decide +kernel
theorem c_20_11 : zcode 20 11 = some (.invokevirtual 65, 3, 38, 0, 2030) := by decide +kernel
theorem c_20_14 : zcode 20 14 = some (.aload_n 0, 1, 0, 0, 0) := by decide +kernel
theorem c_20_15 : zcode 20 15 = some (.getfield 23, 3, 2, 2, 1057) := by decide +kernel
theorem c_20_18 : zcode 20 18 = some (.invokevirtual 65, 3, 38, 0, 2030) := by decide +kernel
theorem c_20_21 : zcode 20 21 = some (.aload_n 0, 1, 0, 0, 0) := by decide +kernel
theorem c_20_22 : zcode 20 22 = some (.getfield 26, 3, 2, 3, 1059) := by decide +kernel
theorem c_20_25 : zcode 20 25 = some (.invokevirtual 65, 3, 38, 0, 2030) := by decide +kernel
theorem c_20_28 : zcode 20 28 = some (.aload_n 0, 1, 0, 0, 0) := by decide +kernel
theorem c_20_29 : zcode 20 29 = some (.getfield 29, 3, 2, 4, 1061) := by decide +kernel
theorem c_20_32 : zcode 20 32 = some (.invokevirtual 65, 3, 38, 0, 2030) := by decide +kernel
theorem c_20_35 : zcode 20 35 = some (.aload_n 0, 1, 0, 0, 0) := by decide +kernel
theorem c_20_36 : zcode 20 36 = some (.getfield 32, 3, 2, 5, 1063) := by decide +kernel
theorem c_20_39 : zcode 20 39 = some (.invokevirtual 65, 3, 38, 0, 2030) := by decide +kernel
theorem c_20_42 : zcode 20 42 = some (.aload_n 0, 1, 0, 0, 0) := by decide +kernel
theorem c_20_43 : zcode 20 43 = some (.getfield 35, 3, 2, 6, 1065) := by decide +kernel
theorem c_20_46 : zcode 20 46 = some (.invokevirtual 65, 3, 38, 0, 2030) := by decide +kernel
theorem c_20_49 : zcode 20 49 = some (.return_, 1, 0, 0, 0) := by decide +kernel
theorem c_21_0 : zcode 21 0 = some (.aload_n 0, 1, 0, 0, 0) := by decide +kernel
theorem c_21_1 : zcode 21 1 = some (.getfield 14, 3, 2, 0, 1052) := by decide +kernel
theorem c_21_4 : zcode 21 4 = some (.invokevirtual 45, 3, 32, 0, 2035) := by decide +kernel
theorem c_21_7 : zcode 21 7 = some (.ireturn, 1, 0, 0, 0) := by decide +kernel
theorem c_22_0 : zcode 22 0 = some (.aload_n 0, 1, 0, 0, 0) := by decide +kernel
theorem c_22_1 : zcode 22 1 = some (.getfield 23, 3, 2, 2, 1057) := by decide +kernel
theorem c_22_4 : zcode 22 4 = some (.invokevirtual 45, 3, 32, 0, 2035) := by decide +kernel
theorem c_22_7 : zcode 22 7 = some (.ireturn, 1, 0, 0, 0) := by decide +kernel
theorem c_23_0 : zcode 23 0 = some (.aload_n 0, 1, 0, 0, 0) := by decide +kernel
theorem c_23_1 : zcode 23 1 = some (.getfield 29, 3, 2, 4, 1061) := by decide +kernel
theorem c_23_4 : zcode 23 4 = some (.invokevirtual 45, 3, 32, 0, 2035) := by decide +kernel
theorem c_23_7 : zcode 23 7 = some (.ireturn, 1, 0, 0, 0) := by decide +kernel
theorem c_24_0 : zcode 24 0 = some (.aload_n 0, 1, 0, 0, 0) := by decide +kernel
theorem c_24_1 : zcode 24 1 = some (.getfield 14, 3, 2, 0, 1052) := by decide +kernel
theorem c_24_4 : zcode 24 4 = some (.iload_n 1, 1, 0, 0, 0) := by decide +kernel
theorem c_24_5 : zcode 24 5 = some (.invokevirtual 66, 3, 35, 0, 2122) := by decide +kernel
theorem c_24_8 : zcode 24 8 = some (.ireturn, 1, 0, 0, 0) := by decide +kernel
theorem c_25_0 : zcode 25 0 = some (.aload_n 0, 1, 0, 0, 0) := by decide +kernel
theorem c_25_1 : zcode 25 1 = some (.getfield 23, 3, 2, 2, 1057) := by decide +kernel
theorem c_25_4 : zcode 25 4 = some (.iload_n 1, 1, 0, 0, 0) := by decide +kernel
theorem c_25_5 : zcode 25 5 = some (.invokevirtual 66, 3, 35, 0, 2122) := by decide +kernel
theorem c_25_8 : zcode 25 8 = some (.ireturn, 1, 0, 0, 0) := by decide +kernel
theorem c_26_0 : zcode 26 0 = some (.aload_n 0, 1, 0, 0, 0) := by decide +kernel
theorem c_26_1 : zcode 26 1 = some (.getfield 29, 3, 2, 4, 1061) := by decide +kernel
theorem c_26_4 : zcode 26 4 = some (.iload_n 1, 1, 0, 0, 0) := by decide +kernel
theorem c_26_5 : zcode 26 5 = some (.invokevirtual 66, 3, 35, 0, 2122) := by decide +kernel
theorem c_26_8 : zcode 26 8 = some (.ireturn, 1, 0, 0, 0) := by decide +kernel
theorem c_27_0 : zcode 27 0 = some (.bipush 10, 2, 0, 0, 0) := by decide +kernel
theorem c_27_2 : zcode 27 2 = some (.aload_n 0, 1, 0, 0, 0) := by decide +kernel
theorem c_27_3 : zcode 27 3 = some (.getfield 14, 3, 2, 0, 1052) := by decide +kernel
theorem c_27_6 : zcode 27 6 = some (.iload_n 1, 1, 0, 0, 0) := by decide +kernel
theorem c_27_7 : zcode 27 7 = some (.invokevirtual 41, 3, 36, 0, 2031) := by decide +kernel
theorem c_27_10 : zcode 27 10 = some (.imul, 1, 0, 0, 0) := by decide +kernel
theorem c_27_11 : zcode 27 11 = some (.istore_n 2, 1, 0, 0, 0) := by decide +kernel
theorem c_27_12 : zcode 27 12 = some (.aload_n 0, 1, 0, 0, 0) := by decide +kernel
theorem c_27_13 : zcode 27 13 = some (.getfield 20, 3, 2, 1, 1054) := by decide +kernel
theorem c_27_16 : zcode 27 16 = some (.iload_n 1, 1, 0, 0, 0) := by decide +kernel
theorem c_27_17 : zcode 27 17 = some (.invokevirtual 41, 3, 36, 0, 2031) := by decide +kernel
theorem c_27_20 : zcode 27 20 = some (.iconst 2, 1, 0, 0, 0) := by decide +kernel
theorem c_27_21 : zcode 27 21 = some (.if_icmp .ne 11, 3, 32, 0, 0) := by decide +kernel
theorem c_27_24 : zcode 27 24 = some (.iload_n 2, 1, 0, 0, 0) := by decide +kernel
theorem c_27_25 : zcode 27 25 = some (.iload_n 2, 1, 0, 0, 0) := by decide +kernel
theorem c_27_26 : zcode 27 26 = some (.iconst 2, 1, 0, 0, 0) := by decide +kernel
theorem c_27_27 : zcode 27 27 = some (.idiv, 1, 0, 0, 0) := by decide +kernel
theorem c_27_28 : zcode 27 28 = some (.iadd, 1, 0, 0, 0) := by decide +kernel
theorem c_27_29 : zcode 27 29 = some (.goto 4, 3, 33, 0, 0) := by decide +kernel
theorem c_27_32 : zcode 27 32 = some (.iload_n 2, 1, 0, 0, 0) := by decide +kernel
theorem c_27_33 : zcode 27 33 = some (.ireturn, 1, 0, 0, 0) := by decide +kernel
theorem c_28_0 : zcode 28 0 = some (.aload_n 0, 1, 0, 0, 0) := by decide +kernel
theorem c_28_1 : zcode 28 1 = some (.aload_n 0, 1, 0, 0, 0) := by decide +kernel
theorem c_28_2 : zcode 28 2 = some (.getfield 26, 3, 2, 3, 1059) := by decide +kernel
theorem c_28_5 : zcode 28 5 = some (.iload_n 2, 1, 0, 0, 0) := by decide +kernel
theorem c_28_6 : zcode 28 6 = some (.invokevirtual 41, 3, 36, 0, 2031) := by decide +kernel
theorem c_28_9 : zcode 28 9 = some (.aload_n 0, 1, 0, 0, 0) := by decide +kernel
theorem c_28_10 : zcode 28 10 = some (.getfield 23, 3, 2, 2, 1057) := by decide +kernel
theorem c_28_13 : zcode 28 13 = some (.iload_n 2, 1, 0, 0, 0) := by decide +kernel
theorem c_28_14 : zcode 28 14 = some (.invokevirtual 41, 3, 36, 0, 2031) := by decide +kernel
theorem c_28_17 : zcode 28 17 = some (.aload_n 0, 1, 0, 0, 0) := by decide +kernel
theorem c_28_18 : zcode 28 18 = some (.getfield 20, 3, 2, 1, 1054) := by decide +kernel
theorem c_28_21 : zcode 28 21 = some (.iload_n 3, 1, 0, 0, 0) := by decide +kernel
theorem c_28_22 : zcode 28 22 = some (.invokevirtual 41, 3, 36, 0, 2031) := by decide +kernel
theorem c_28_25 : zcode 28 25 = some (.iload_n 1, 1, 0, 0, 0) := by decide +kernel
theorem c_28_26 : zcode 28 26 = some (.iload 4, 2, 0, 0, 0) := by decide +kernel
theorem c_28_28 : zcode 28 28 = some (.invokevirtual 69, 3, 29, 0, 2165) := by decide +kernel
theorem c_28_31 : zcode 28 31 = some (.ireturn, 1, 0, 0, 0) := by decide +kernel
theorem c_29_0 : zcode 29 0 = some (.aload_n 0, 1, 0, 0, 0) := by decide +kernel
theorem c_29_1 : zcode 29 1 = some (.getfield 29, 3, 2, 4, 1061) := by decide +kernel
theorem c_29_4 : zcode 29 4 = some (.iload 4, 2, 0, 0, 0) := by decide +kernel
theorem c_29_6 : zcode 29 6 = some (.invokevirtual 41, 3, 36, 0, 2031) := by decide +kernel
theorem c_29_9 : zcode 29 9 = some (.iload_n 2, 1, 0, 0, 0) := by decide +kernel
theorem c_29_10 : zcode 29 10 = some (.imul, 1, 0, 0, 0) := by decide +kernel
theorem c_29_11 : zcode 29 11 = some (.istore 6, 2, 0, 0, 0) := by decide +kernel
theorem c_29_13 : zcode 29 13 = some (.iload_n 1, 1, 0, 0, 0) := by decide +kernel
theorem c_29_14 : zcode 29 14 = some (.iconst 1, 1, 0, 0, 0) := by decide +kernel
theorem c_29_15 : zcode 29 15 = some (.if_icmp .ne 24, 3, 39, 0, 0) := by decide +kernel
theorem c_29_18 : zcode 29 18 = some (.aload_n 0, 1, 0, 0, 0) := by decide +kernel
theorem c_29_19 : zcode 29 19 = some (.getfield 35, 3, 2, 6, 1065) := by decide +kernel
theorem c_29_22 : zcode 29 22 = some (.iload 4, 2, 0, 0, 0) := by decide +kernel
theorem c_29_24 : zcode 29 24 = some (.invokevirtual 41, 3, 36, 0, 2031) := by decide +kernel
theorem c_29_27 : zcode 29 27 = some (.ifCond .ne 12, 3, 39, 0, 0) := by decide +kernel
theorem c_29_30 : zcode 29 30 = some (.iload 6, 2, 0, 0, 0) := by decide +kernel
theorem c_29_32 : zcode 29 32 = some (.iconst 2, 1, 0, 0, 0) := by decide +kernel
theorem c_29_33 : zcode 29 33 = some (.idiv, 1, 0, 0, 0) := by decide +kernel
theorem c_29_34 : zcode 29 34 = some (.istore 6, 2, 0, 0, 0) := by decide +kernel
theorem c_29_36 : zcode 29 36 = some (.goto 34, 3, 70, 0, 0) := by decide +kernel
theorem c_29_39 : zcode 29 39 = some (.iload_n 1, 1, 0, 0, 0) := by decide +kernel
theorem c_29_40 : zcode 29 40 = some (.iconst 2, 1, 0, 0, 0) := by decide +kernel
theorem c_29_41 : zcode 29 41 = some (.if_icmp .ne 17, 3, 58, 0, 0) := by decide +kernel
theorem c_29_44 : zcode 29 44 = some (.iload 5, 2, 0, 0, 0) := by decide +kernel
theorem c_29_46 : zcode 29 46 = some (.ifCond .ne 12, 3, 58, 0, 0) := by decide +kernel
theorem c_29_49 : zcode 29 49 = some (.iload 6, 2, 0, 0, 0) := by decide +kernel
theorem c_29_51 : zcode 29 51 = some (.iconst 2, 1, 0, 0, 0) := by decide +kernel
theorem c_29_52 : zcode 29 52 = some (.imul, 1, 0, 0, 0) := by decide +kernel
theorem c_29_53 : zcode 29 53 = some (.istore 6, 2, 0, 0, 0) := by decide +kernel
theorem c_29_55 : zcode 29 55 = some (.goto 15, 3, 70, 0, 0) := by decide +kernel
theorem c_29_58 : zcode 29 58 = some (.iload_n 1, 1, 0, 0, 0) := by decide +kernel
theorem c_29_59 : zcode 29 59 = some (.iconst 3, 1, 0, 0, 0) := by decide +kernel
theorem c_29_60 : zcode 29 60 = some (.if_icmp .ne 10, 3, 70, 0, 0) := by decide +kernel
theorem c_29_63 : zcode 29 63 = some (.iload 6, 2, 0, 0, 0) := by decide +kernel
theorem c_29_65 : zcode 29 65 = some (.iload 5, 2, 0, 0, 0) := by decide +kernel
theorem c_29_67 : zcode 29 67 = some (.iadd, 1, 0, 0, 0) := by decide +kernel
theorem c_29_68 : zcode 29 68 = some (.istore 6, 2, 0, 0, 0) := by decide +kernel
theorem c_29_70 : zcode 29 70 = some (.iload_n 3, 1, 0, 0, 0) := by decide +kernel
theorem c_29_71 : zcode 29 71 = some (.iconst 1, 1, 0, 0, 0) := by decide +kernel
theorem c_29_72 : zcode 29 72 = some (.if_icmp .ne 10, 3, 82, 0, 0) := by decide +kernel
theorem c_29_75 : zcode 29 75 = some (.iload 6, 2, 0, 0, 0) := by decide +kernel
theorem c_29_77 : zcode 29 77 = some (.iconst 2, 1, 0, 0, 0) := by decide +kernel
theorem c_29_78 : zcode 29 78 = some (.iadd, 1, 0, 0, 0) := by decide +kernel
theorem c_29_79 : zcode 29 79 = some (.goto 5, 3, 84, 0, 0) := by decide +kernel
theorem c_29_82 : zcode 29 82 = some (.iload 6, 2, 0, 0, 0) := by decide +kernel
theorem c_29_84 : zcode 29 84 = some (.ireturn, 1, 0, 0, 0) := by decide +kernel
theorem c_30_0 : zcode 30 0 = some (.iconst 0, 1, 0, 0, 0) := by decide +kernel
theorem c_30_1 : zcode 30 1 = some (.istore_n 2, 1, 0, 0, 0) := by decide +kernel
theorem c_30_2 : zcode 30 2 = some (.iconst 0, 1, 0, 0, 0) := by decide +kernel
theorem c_30_3 : zcode 30 3 = some (.istore_n 3, 1, 0, 0, 0) := by decide +kernel
theorem c_30_4 : zcode 30 4 = some (.iload_n 3, 1, 0, 0, 0) := by decide +kernel
theorem c_30_5 : zcode 30 5 = some (.aload_n 0, 1, 0, 0, 0) := by decide +kernel
theorem c_30_6 : zcode 30 6 = some (.invokevirtual 73, 3, 23, 0, 2099) := by decide +kernel
theorem c_30_9 : zcode 30 9 = some (.if_icmp .ge 28, 3, 37, 0, 0) := by decide +kernel
theorem c_30_12 : zcode 30 12 = some (.iload_n 1, 1, 0, 0, 0) := by decide +kernel
theorem c_30_13 : zcode 30 13 = some (.iload_n 3, 1, 0, 0, 0) := by decide +kernel
theorem c_30_14 : zcode 30 14 = some (.invokestatic 76, 3, 114, 1, 2100) := by decide +kernel
theorem c_30_17 : zcode 30 17 = some (.ifCond .eq 14, 3, 31, 0, 0) := by decide +kernel
theorem c_30_20 : zcode 30 20 = some (.iload_n 2, 1, 0, 0, 0) := by decide +kernel
theorem c_30_21 : zcode 30 21 = some (.aload_n 0, 1, 0, 0, 0) := by decide +kernel
theorem c_30_22 : zcode 30 22 = some (.getfield 32, 3, 2, 5, 1063) := by decide +kernel
theorem c_30_25 : zcode 30 25 = some (.iload_n 3, 1, 0, 0, 0) := by decide +kernel
theorem c_30_26 : zcode 30 26 = some (.invokevirtual 41, 3, 36, 0, 2031) := by decide +kernel
theorem c_30_29 : zcode 30 29 = some (.iadd, 1, 0, 0, 0) := by decide +kernel
theorem c_30_30 : zcode 30 30 = some (.istore_n 2, 1, 0, 0, 0) := by decide +kernel
theorem c_30_31 : zcode 30 31 = some (.iinc 3 1, 3, 0, 0, 0) := by decide +kernel
theorem c_30_34 : zcode 30 34 = some (.goto (-30), 3, 4, 0, 0) := by decide +kernel
theorem c_30_37 : zcode 30 37 = some (.iload_n 2, 1, 0, 0, 0) := by decide +kernel
theorem c_30_38 : zcode 30 38 = some (.ireturn, 1, 0, 0, 0) := by decide +kernel
theorem c_32_0 : zcode 32 0 = some (.aload_n 0, 1, 0, 0, 0) := by decide +kernel
theorem c_32_1 : zcode 32 1 = some (.getfield 28, 3, 3, 3, 1033) := by decide +kernel
theorem c_32_4 : zcode 32 4 = some (.ireturn, 1, 0, 0, 0) := by decide +kernel
theorem c_33_0 : zcode 33 0 = some (.aload_n 0, 1, 0, 0, 0) := by decide +kernel
theorem c_33_1 : zcode 33 1 = some (.getfield 28, 3, 3, 3, 1033) := by decide +kernel
theorem c_33_4 : zcode 33 4 = some (.aload_n 0, 1, 0, 0, 0) := by decide +kernel
theorem c_33_5 : zcode 33 5 = some (.getfield 15, 3, 3, 0, 1030) := by decide +kernel
theorem c_33_8 : zcode 33 8 = some (.arraylength, 1, 0, 0, 0) := by decide +kernel
theorem c_33_9 : zcode 33 9 = some (.if_icmp .lt 7, 3, 16, 0, 0) := by decide +kernel
theorem c_33_12 : zcode 33 12 = some (.iconst 1, 1, 0, 0, 0) := by decide +kernel
theorem c_33_13 : zcode 33 13 = some (.goto 4, 3, 17, 0, 0) := by decide +kernel
theorem c_33_16 : zcode 33 16 = some (.iconst 0, 1, 0, 0, 0) := by decide +kernel
theorem c_33_17 : zcode 33 17 = some (.ireturn, 1, 0, 0, 0) := by decide +kernel
theorem c_34_0 : zcode 34 0 = some (.iload_n 1, 1, 0, 0, 0) := by decide +kernel
theorem c_34_1 : zcode 34 1 = some (.aload_n 0, 1, 0, 0, 0) := by decide +kernel
theorem c_34_2 : zcode 34 2 = some (.getfield 21, 3, 3, 1, 1031) := by decide +kernel
theorem c_34_5 : zcode 34 5 = some (.if_icmp .lt 15, 3, 20, 0, 0) := by decide +kernel
theorem c_34_8 : zcode 34 8 = some (.iload_n 1, 1, 0, 0, 0) := by decide +kernel
theorem c_34_9 : zcode 34 9 = some (.aload_n 0, 1, 0, 0, 0) := by decide +kernel
theorem c_34_10 : zcode 34 10 = some (.getfield 25, 3, 3, 2, 1032) := by decide +kernel
theorem c_34_13 : zcode 34 13 = some (.if_icmp .gt 7, 3, 20, 0, 0) := by decide +kernel
theorem c_34_16 : zcode 34 16 = some (.iconst 1, 1, 0, 0, 0) := by decide +kernel
theorem c_34_17 : zcode 34 17 = some (.goto 4, 3, 21, 0, 0) := by decide +kernel
theorem c_34_20 : zcode 34 20 = some (.iconst 0, 1, 0, 0, 0) := by decide +kernel
theorem c_34_21 : zcode 34 21 = some (.ireturn, 1, 0, 0, 0) := by decide +kernel
theorem c_35_0 : zcode 35 0 = some (.iload_n 1, 1, 0, 0, 0) := by decide +kernel
theorem c_35_1 : zcode 35 1 = some (.ifCond .lt 15, 3, 16, 0, 0) := by decide +kernel
theorem c_35_4 : zcode 35 4 = some (.iload_n 1, 1, 0, 0, 0) := by decide +kernel
theorem c_35_5 : zcode 35 5 = some (.aload_n 0, 1, 0, 0, 0) := by decide +kernel
theorem c_35_6 : zcode 35 6 = some (.getfield 28, 3, 3, 3, 1033) := by decide +kernel
theorem c_35_9 : zcode 35 9 = some (.if_icmp .ge 7, 3, 16, 0, 0) := by decide +kernel
theorem c_35_12 : zcode 35 12 = some (.iconst 1, 1, 0, 0, 0) := by decide +kernel
theorem c_35_13 : zcode 35 13 = some (.goto 4, 3, 17, 0, 0) := by decide +kernel
theorem c_35_16 : zcode 35 16 = some (.iconst 0, 1, 0, 0, 0) := by decide +kernel
theorem c_35_17 : zcode 35 17 = some (.ireturn, 1, 0, 0, 0) := by decide +kernel
theorem c_36_0 : zcode 36 0 = some (.iload_n 1, 1, 0, 0, 0) := by decide +kernel
theorem c_36_1 : zcode 36 1 = some (.ifCond .lt 29, 3, 30, 0, 0) := by decide +kernel
theorem c_36_4 : zcode 36 4 = some (.iload_n 1, 1, 0, 0, 0) := by decide +kernel
theorem c_36_5 : zcode 36 5 = some (.aload_n 0, 1, 0, 0, 0) := by decide +kernel
theorem c_36_6 : zcode 36 6 = some (.getfield 28, 3, 3, 3, 1033) := by decide +kernel
theorem c_36_9 : zcode 36 9 = some (.if_icmp .ge 21, 3, 30, 0, 0) := by decide +kernel
theorem c_36_12 : zcode 36 12 = some (.iload_n 1, 1, 0, 0, 0) := by decide +kernel
theorem c_36_13 : zcode 36 13 = some (.aload_n 0, 1, 0, 0, 0) := by decide +kernel
theorem c_36_14 : zcode 36 14 = some (.getfield 15, 3, 3, 0, 1030) := by decide +kernel
theorem c_36_17 : zcode 36 17 = some (.arraylength, 1, 0, 0, 0) := by decide +kernel
theorem c_36_18 : zcode 36 18 = some (.if_icmp .ge 12, 3, 30, 0, 0) := by decide +kernel
theorem c_36_21 : zcode 36 21 = some (.aload_n 0, 1, 0, 0, 0) := by decide +kernel
theorem c_36_22 : zcode 36 22 = some (.getfield 15, 3, 3, 0, 1030) := by decide +kernel
theorem c_36_25 : zcode 36 25 = some (.iload_n 1, 1, 0, 0, 0) := by decide +kernel
theorem c_36_26 : zcode 36 26 = some (.iaload, 1, 0, 0, 0) := by decide +kernel
theorem c_36_27 : zcode 36 27 = some (.goto 5, 3, 32, 0, 0) := by decide +kernel
theorem c_36_30 : zcode 36 30 = some (.bipush (-9), 2, 0, 0, 0) := by decide +kernel
theorem c_36_32 : zcode 36 32 = some (.ireturn, 1, 0, 0, 0) := by decide +kernel
theorem c_37_0 : zcode 37 0 = some (.aload_n 0, 1, 0, 0, 0) := by decide +kernel
theorem c_37_1 : zcode 37 1 = some (.getfield 28, 3, 3, 3, 1033) := by decide +kernel
theorem c_37_4 : zcode 37 4 = some (.ifCond .lt 35, 3, 39, 0, 0) := by decide +kernel
theorem c_37_7 : zcode 37 7 = some (.aload_n 0, 1, 0, 0, 0) := by decide +kernel
theorem c_37_8 : zcode 37 8 = some (.getfield 28, 3, 3, 3, 1033) := by decide +kernel
theorem c_37_11 : zcode 37 11 = some (.aload_n 0, 1, 0, 0, 0) := by decide +kernel
theorem c_37_12 : zcode 37 12 = some (.getfield 15, 3, 3, 0, 1030) := by decide +kernel
theorem c_37_15 : zcode 37 15 = some (.arraylength, 1, 0, 0, 0) := by decide +kernel
theorem c_37_16 : zcode 37 16 = some (.if_icmp .ge 23, 3, 39, 0, 0) := by decide +kernel
theorem c_37_19 : zcode 37 19 = some (.aload_n 0, 1, 0, 0, 0) := by decide +kernel
theorem c_37_20 : zcode 37 20 = some (.getfield 15, 3, 3, 0, 1030) := by decide +kernel
theorem c_37_23 : zcode 37 23 = some (.aload_n 0, 1, 0, 0, 0) := by decide +kernel
theorem c_37_24 : zcode 37 24 = some (.getfield 28, 3, 3, 3, 1033) := by decide +kernel
theorem c_37_27 : zcode 37 27 = some (.iload_n 1, 1, 0, 0, 0) := by decide +kernel
theorem c_37_28 : zcode 37 28 = some (.iastore, 1, 0, 0, 0) := by decide +kernel
theorem c_37_29 : zcode 37 29 = some (.aload_n 0, 1, 0, 0, 0) := by decide +kernel
theorem c_37_30 : zcode 37 30 = some (.dup, 1, 0, 0, 0) := by decide +kernel
theorem c_37_31 : zcode 37 31 = some (.getfield 28, 3, 3, 3, 1033) := by decide +kernel
theorem c_37_34 : zcode 37 34 = some (.iconst 1, 1, 0, 0, 0) := by decide +kernel
theorem c_37_35 : zcode 37 35 = some (.iadd, 1, 0, 0, 0) := by decide +kernel
theorem c_37_36 : zcode 37 36 = some (.putfield 28, 3, 3, 3, 1033) := by decide +kernel
theorem c_37_39 : zcode 37 39 = some (.return_, 1, 0, 0, 0) := by decide +kernel
theorem c_38_0 : zcode 38 0 = some (.aload_n 0, 1, 0, 0, 0) := by decide +kernel
theorem c_38_1 : zcode 38 1 = some (.iconst 0, 1, 0, 0, 0) := by decide +kernel
theorem c_38_2 : zcode 38 2 = some (.putfield 28, 3, 3, 3, 1033) := by decide +kernel
theorem c_38_5 : zcode 38 5 = some (.return_, 1, 0, 0, 0) := by decide +kernel
theorem c_39_0 : zcode 39 0 = some (.aload_n 0, 1, 0, 0, 0) := by decide +kernel
theorem c_39_1 : zcode 39 1 = some (.invokevirtual 31, 3, 38, 0, 2203) := by decide +kernel
theorem c_39_4 : zcode 39 4 = some (.iconst 0, 1, 0, 0, 0) := by decide +kernel
theorem c_39_5 : zcode 39 5 = some (.istore_n 2, 1, 0, 0, 0) := by decide +kernel
theorem c_39_6 : zcode 39 6 = some (.iload_n 2, 1, 0, 0, 0) := by decide +kernel
theorem c_39_7 : zcode 39 7 = some (.aload_n 1, 1, 0, 0, 0) := by decide +kernel
theorem c_39_8 : zcode 39 8 = some (.getfield 28, 3, 3, 3, 1033) := by decide +kernel
theorem c_39_11 : zcode 39 11 = some (.if_icmp .ge 18, 3, 29, 0, 0) := by decide +kernel
theorem c_39_14 : zcode 39 14 = some (.aload_n 0, 1, 0, 0, 0) := by decide +kernel
theorem c_39_15 : zcode 39 15 = some (.aload_n 1, 1, 0, 0, 0) := by decide +kernel
theorem c_39_16 : zcode 39 16 = some (.iload_n 2, 1, 0, 0, 0) := by decide +kernel
theorem c_39_17 : zcode 39 17 = some (.invokevirtual 34, 3, 36, 0, 2204) := by decide +kernel
theorem c_39_20 : zcode 39 20 = some (.invokevirtual 38, 3, 37, 0, 2205) := by decide +kernel
theorem c_39_23 : zcode 39 23 = some (.iinc 2 1, 3, 0, 0, 0) := by decide +kernel
theorem c_39_26 : zcode 39 26 = some (.goto (-20), 3, 6, 0, 0) := by decide +kernel
theorem c_39_29 : zcode 39 29 = some (.return_, 1, 0, 0, 0) := by decide +kernel
theorem c_41_0 : zcode 41 0 = some (.aload_n 0, 1, 0, 0, 0) := by decide +kernel
theorem c_41_1 : zcode 41 1 = some (.bipush (-9), 2, 0, 0, 0) := by decide +kernel
theorem c_41_3 : zcode 41 3 = some (.putfield 9, 3, 4, 0, 1092) := by decide +kernel
theorem c_41_6 : zcode 41 6 = some (.aload_n 0, 1, 0, 0, 0) := by decide +kernel
theorem c_41_7 : zcode 41 7 = some (.bipush (-9), 2, 0, 0, 0) := by decide +kernel
theorem c_41_9 : zcode 41 9 = some (.putfield 15, 3, 4, 1, 1095) := by decide +kernel
theorem c_41_12 : zcode 41 12 = some (.aload_n 0, 1, 0, 0, 0) := by decide +kernel
theorem c_41_13 : zcode 41 13 = some (.iconst 0, 1, 0, 0, 0) := by decide +kernel
theorem c_41_14 : zcode 41 14 = some (.putfield 27, 3, 4, 2, 1098) := by decide +kernel
theorem c_41_17 : zcode 41 17 = some (.aload_n 0, 1, 0, 0, 0) := by decide +kernel
theorem c_41_18 : zcode 41 18 = some (.getfield 23, 3, 4, 3, 1101) := by decide +kernel
theorem c_41_21 : zcode 41 21 = some (.invokevirtual 30, 3, 38, 0, 2051) := by decide +kernel
theorem c_41_24 : zcode 41 24 = some (.return_, 1, 0, 0, 0) := by decide +kernel
theorem c_42_0 : zcode 42 0 = some (.aload_n 0, 1, 0, 0, 0) := by decide +kernel
theorem c_42_1 : zcode 42 1 = some (.iload_n 2, 1, 0, 0, 0) := by decide +kernel
theorem c_42_2 : zcode 42 2 = some (.putfield 9, 3, 4, 0, 1092) := by decide +kernel
theorem c_42_5 : zcode 42 5 = some (.aload_n 0, 1, 0, 0, 0) := by decide +kernel
theorem c_42_6 : zcode 42 6 = some (.iload_n 3, 1, 0, 0, 0) := by decide +kernel
theorem c_42_7 : zcode 42 7 = some (.putfield 15, 3, 4, 1, 1095) := by decide +kernel
theorem c_42_10 : zcode 42 10 = some (.aload_n 0, 1, 0, 0, 0) := by decide +kernel
theorem c_42_11 : zcode 42 11 = some (.aload_n 1, 1, 0, 0, 0) := by decide +kernel
theorem c_42_12 : zcode 42 12 = some (.iload_n 2, 1, 0, 0, 0) := by decide +kernel
theorem c_42_13 : zcode 42 13 = some (.invokevirtual 33, 3, 27, 0, 2213) := by decide +kernel
theorem c_42_16 : zcode 42 16 = some (.putfield 27, 3, 4, 2, 1098) := by decide +kernel
theorem c_42_19 : zcode 42 19 = some (.aload_n 0, 1, 0, 0, 0) := by decide +kernel
theorem c_42_20 : zcode 42 20 = some (.getfield 23, 3, 4, 3, 1101) := by decide +kernel
theorem c_42_23 : zcode 42 23 = some (.invokevirtual 30, 3, 38, 0, 2051) := by decide +kernel
theorem c_42_26 : zcode 42 26 = some (.return_, 1, 0, 0, 0) := by decide +kernel
theorem c_43_0 : zcode 43 0 = some (.aload_n 0, 1, 0, 0, 0) := by decide +kernel
theorem c_43_1 : zcode 43 1 = some (.aload_n 1, 1, 0, 0, 0) := by decide +kernel
theorem c_43_2 : zcode 43 2 = some (.getfield 9, 3, 4, 0, 1092) := by decide +kernel
theorem c_43_5 : zcode 43 5 = some (.putfield 9, 3, 4, 0, 1092) := by decide +kernel
theorem c_43_8 : zcode 43 8 = some (.aload_n 0, 1, 0, 0, 0) := by decide +kernel
theorem c_43_9 : zcode 43 9 = some (.aload_n 1, 1, 0, 0, 0) := by decide +kernel
theorem c_43_10 : zcode 43 10 = some (.getfield 15, 3, 4, 1, 1095) := by decide +kernel
theorem c_43_13 : zcode 43 13 = some (.putfield 15, 3, 4, 1, 1095) := by decide +kernel
theorem c_43_16 : zcode 43 16 = some (.aload_n 0, 1, 0, 0, 0) := by decide +kernel
theorem c_43_17 : zcode 43 17 = some (.aload_n 1, 1, 0, 0, 0) := by decide +kernel
theorem c_43_18 : zcode 43 18 = some (.getfield 27, 3, 4, 2, 1098) := by decide +kernel
theorem c_43_21 : zcode 43 21 = some (.putfield 27, 3, 4, 2, 1098) := by decide +kernel
theorem c_43_24 : zcode 43 24 = some (.aload_n 0, 1, 0, 0, 0) := by decide +kernel
theorem c_43_25 : zcode 43 25 = some (.getfield 23, 3, 4, 3, 1101) := by decide +kernel
theorem c_43_28 : zcode 43 28 = some (.aload_n 1, 1, 0, 0, 0) := by decide +kernel
theorem c_43_29 : zcode 43 29 = some (.getfield 23, 3, 4, 3, 1101) := by decide +kernel
theorem c_43_32 : zcode 43 32 = some (.invokevirtual 39, 3, 39, 0, 2199) := by decide +kernel
theorem c_43_35 : zcode 43 35 = some (.return_, 1, 0, 0, 0) := by decide +kernel
theorem c_44_0 : zcode 44 0 = some (.aload_n 0, 1, 0, 0, 0) := by decide +kernel
theorem c_44_1 : zcode 44 1 = some (.getfield 9, 3, 4, 0, 1092) := by decide +kernel
theorem c_44_4 : zcode 44 4 = some (.bipush (-9), 2, 0, 0, 0) := by decide +kernel
theorem c_44_6 : zcode 44 6 = some (.if_icmp .eq 7, 3, 13, 0, 0) := by decide +kernel
theorem c_44_9 : zcode 44 9 = some (.iconst 1, 1, 0, 0, 0) := by decide +kernel
theorem c_44_10 : zcode 44 10 = some (.goto 4, 3, 14, 0, 0) := by decide +kernel
theorem c_44_13 : zcode 44 13 = some (.iconst 0, 1, 0, 0, 0) := by decide +kernel
theorem c_44_14 : zcode 44 14 = some (.ireturn, 1, 0, 0, 0) := by decide +kernel
theorem c_45_0 : zcode 45 0 = some (.aload_n 0, 1, 0, 0, 0) := by decide +kernel
theorem c_45_1 : zcode 45 1 = some (.getfield 23, 3, 4, 3, 1101) := by decide +kernel
theorem c_45_4 : zcode 45 4 = some (.invokevirtual 43, 3, 32, 0, 2089) := by decide +kernel
theorem c_45_7 : zcode 45 7 = some (.ireturn, 1, 0, 0, 0) := by decide +kernel
theorem c_46_0 : zcode 46 0 = some (.iconst 0, 1, 0, 0, 0) := by decide +kernel
theorem c_46_1 : zcode 46 1 = some (.istore_n 1, 1, 0, 0, 0) := by decide +kernel
theorem c_46_2 : zcode 46 2 = some (.iconst 0, 1, 0, 0, 0) := by decide +kernel
theorem c_46_3 : zcode 46 3 = some (.istore_n 2, 1, 0, 0, 0) := by decide +kernel
theorem c_46_4 : zcode 46 4 = some (.iload_n 2, 1, 0, 0, 0) := by decide +kernel
theorem c_46_5 : zcode 46 5 = some (.aload_n 0, 1, 0, 0, 0) := by decide +kernel
theorem c_46_6 : zcode 46 6 = some (.getfield 23, 3, 4, 3, 1101) := by decide +kernel
theorem c_46_9 : zcode 46 9 = some (.invokevirtual 43, 3, 32, 0, 2089) := by decide +kernel
theorem c_46_12 : zcode 46 12 = some (.if_icmp .ge 22, 3, 34, 0, 0) := by decide +kernel
theorem c_46_15 : zcode 46 15 = some (.iload_n 1, 1, 0, 0, 0) := by decide +kernel
theorem c_46_16 : zcode 46 16 = some (.iconst 1, 1, 0, 0, 0) := by decide +kernel
theorem c_46_17 : zcode 46 17 = some (.aload_n 0, 1, 0, 0, 0) := by decide +kernel
theorem c_46_18 : zcode 46 18 = some (.getfield 23, 3, 4, 3, 1101) := by decide +kernel
theorem c_46_21 : zcode 46 21 = some (.iload_n 2, 1, 0, 0, 0) := by decide +kernel
theorem c_46_22 : zcode 46 22 = some (.invokevirtual 47, 3, 36, 0, 2094) := by decide +kernel
theorem c_46_25 : zcode 46 25 = some (.ishl, 1, 0, 0, 0) := by decide +kernel
theorem c_46_26 : zcode 46 26 = some (.ior, 1, 0, 0, 0) := by decide +kernel
theorem c_46_27 : zcode 46 27 = some (.istore_n 1, 1, 0, 0, 0) := by decide +kernel
theorem c_46_28 : zcode 46 28 = some (.iinc 2 1, 3, 0, 0, 0) := by decide +kernel
theorem c_46_31 : zcode 46 31 = some (.goto (-27), 3, 4, 0, 0) := by decide +kernel
theorem c_46_34 : zcode 46 34 = some (.iload_n 1, 1, 0, 0, 0) := by decide +kernel
theorem c_46_35 : zcode 46 35 = some (.ireturn, 1, 0, 0, 0) := by decide +kernel
theorem c_47_0 : zcode 47 0 = some (.aload_n 0, 1, 0, 0, 0) := by decide +kernel
theorem c_47_1 : zcode 47 1 = some (.invokevirtual 50, 3, 46, 0, 2155) := by decide +kernel
theorem c_47_4 : zcode 47 4 = some (.iload_n 1, 1, 0, 0, 0) := by decide +kernel
theorem c_47_5 : zcode 47 5 = some (.invokestatic 53, 3, 114, 1, 2156) := by decide +kernel
theorem c_47_8 : zcode 47 8 = some (.ireturn, 1, 0, 0, 0) := by decide +kernel
theorem c_48_0 : zcode 48 0 = some (.iconst 0, 1, 0, 0, 0) := by decide +kernel
theorem c_48_1 : zcode 48 1 = some (.istore_n 2, 1, 0, 0, 0) := by decide +kernel
theorem c_48_2 : zcode 48 2 = some (.iconst 0, 1, 0, 0, 0) := by decide +kernel
theorem c_48_3 : zcode 48 3 = some (.istore_n 3, 1, 0, 0, 0) := by decide +kernel
theorem c_48_4 : zcode 48 4 = some (.iload_n 3, 1, 0, 0, 0) := by decide +kernel
theorem c_48_5 : zcode 48 5 = some (.aload_n 0, 1, 0, 0, 0) := by decide +kernel
theorem c_48_6 : zcode 48 6 = some (.getfield 23, 3, 4, 3, 1101) := by decide +kernel
theorem c_48_9 : zcode 48 9 = some (.invokevirtual 43, 3, 32, 0, 2089) := by decide +kernel
theorem c_48_12 : zcode 48 12 = some (.if_icmp .ge 29, 3, 41, 0, 0) := by decide +kernel
theorem c_48_15 : zcode 48 15 = some (.iload_n 2, 1, 0, 0, 0) := by decide +kernel
theorem c_48_16 : zcode 48 16 = some (.aload_n 1, 1, 0, 0, 0) := by decide +kernel
theorem c_48_17 : zcode 48 17 = some (.getfield 57, 3, 2, 6, 1067) := by decide +kernel
theorem c_48_20 : zcode 48 20 = some (.aload_n 0, 1, 0, 0, 0) := by decide +kernel
theorem c_48_21 : zcode 48 21 = some (.getfield 23, 3, 4, 3, 1101) := by decide +kernel
theorem c_48_24 : zcode 48 24 = some (.iload_n 3, 1, 0, 0, 0) := by decide +kernel
theorem c_48_25 : zcode 48 25 = some (.invokevirtual 47, 3, 36, 0, 2094) := by decide +kernel
theorem c_48_28 : zcode 48 28 = some (.invokevirtual 47, 3, 36, 0, 2094) := by decide +kernel
theorem c_48_31 : zcode 48 31 = some (.invokestatic 60, 3, 115, 1, 2111) := by decide +kernel
theorem c_48_34 : zcode 48 34 = some (.istore_n 2, 1, 0, 0, 0) := by decide +kernel
theorem c_48_35 : zcode 48 35 = some (.iinc 3 1, 3, 0, 0, 0) := by decide +kernel
theorem c_48_38 : zcode 48 38 = some (.goto (-34), 3, 4, 0, 0) := by decide +kernel
theorem c_48_41 : zcode 48 41 = some (.iload_n 2, 1, 0, 0, 0) := by decide +kernel
theorem c_48_42 : zcode 48 42 = some (.ireturn, 1, 0, 0, 0) := by decide +kernel
theorem c_49_0 : zcode 49 0 = some (.aload_n 0, 1, 0, 0, 0) := by decide +kernel
theorem c_49_1 : zcode 49 1 = some (.aload_n 1, 1, 0, 0, 0) := by decide +kernel
theorem c_49_2 : zcode 49 2 = some (.invokevirtual 64, 3, 48, 0, 2107) := by decide +kernel
theorem c_49_5 : zcode 49 5 = some (.iconst 3, 1, 0, 0, 0) := by decide +kernel
theorem c_49_6 : zcode 49 6 = some (.if_icmp .ne 7, 3, 13, 0, 0) := by decide +kernel
theorem c_49_9 : zcode 49 9 = some (.iconst 1, 1, 0, 0, 0) := by decide +kernel
theorem c_49_10 : zcode 49 10 = some (.goto 4, 3, 14, 0, 0) := by decide +kernel
theorem c_49_13 : zcode 49 13 = some (.iconst 0, 1, 0, 0, 0) := by decide +kernel
theorem c_49_14 : zcode 49 14 = some (.ireturn, 1, 0, 0, 0) := by decide +kernel
theorem c_50_0 : zcode 50 0 = some (.aload_n 1, 1, 0, 0, 0) := by decide +kernel
theorem c_50_1 : zcode 50 1 = some (.iload_n 2, 1, 0, 0, 0) := by decide +kernel
theorem c_50_2 : zcode 50 2 = some (.aload_n 0, 1, 0, 0, 0) := by decide +kernel
theorem c_50_3 : zcode 50 3 = some (.getfield 15, 3, 4, 1, 1095) := by decide +kernel
theorem c_50_6 : zcode 50 6 = some (.aload_n 0, 1, 0, 0, 0) := by decide +kernel
theorem c_50_7 : zcode 50 7 = some (.getfield 9, 3, 4, 0, 1092) := by decide +kernel
theorem c_50_10 : zcode 50 10 = some (.aload_n 0, 1, 0, 0, 0) := by decide +kernel
theorem c_50_11 : zcode 50 11 = some (.getfield 23, 3, 4, 3, 1101) := by decide +kernel
theorem c_50_14 : zcode 50 14 = some (.invokevirtual 43, 3, 32, 0, 2089) := by decide +kernel
theorem c_50_17 : zcode 50 17 = some (.invokevirtual 68, 3, 28, 0, 2161) := by decide +kernel
theorem c_50_20 : zcode 50 20 = some (.ireturn, 1, 0, 0, 0) := by decide +kernel
theorem c_51_0 : zcode 51 0 = some (.aload_n 0, 1, 0, 0, 0) := by decide +kernel
theorem c_51_1 : zcode 51 1 = some (.invokevirtual 72, 3, 44, 0, 2223) := by decide +kernel
theorem c_51_4 : zcode 51 4 = some (.ifCond .eq 32, 3, 36, 0, 0) := by decide +kernel
theorem c_51_7 : zcode 51 7 = some (.aload_n 1, 1, 0, 0, 0) := by decide +kernel
theorem c_51_8 : zcode 51 8 = some (.iload_n 2, 1, 0, 0, 0) := by decide +kernel
theorem c_51_9 : zcode 51 9 = some (.invokevirtual 76, 3, 26, 0, 2224) := by decide +kernel
theorem c_51_12 : zcode 51 12 = some (.ifCond .eq 24, 3, 36, 0, 0) := by decide +kernel
theorem c_51_15 : zcode 51 15 = some (.aload_n 0, 1, 0, 0, 0) := by decide +kernel
theorem c_51_16 : zcode 51 16 = some (.iload_n 2, 1, 0, 0, 0) := by decide +kernel
theorem c_51_17 : zcode 51 17 = some (.invokevirtual 80, 3, 47, 0, 2225) := by decide +kernel
theorem c_51_20 : zcode 51 20 = some (.ifCond .ne 16, 3, 36, 0, 0) := by decide +kernel
theorem c_51_23 : zcode 51 23 = some (.aload_n 0, 1, 0, 0, 0) := by decide +kernel
theorem c_51_24 : zcode 51 24 = some (.aload_n 1, 1, 0, 0, 0) := by decide +kernel
theorem c_51_25 : zcode 51 25 = some (.iload_n 2, 1, 0, 0, 0) := by decide +kernel
theorem c_51_26 : zcode 51 26 = some (.invokevirtual 83, 3, 50, 0, 2226) := by decide +kernel
theorem c_51_29 : zcode 51 29 = some (.aload_n 0, 1, 0, 0, 0) := by decide +kernel
theorem c_51_30 : zcode 51 30 = some (.getfield 27, 3, 4, 2, 1098) := by decide +kernel
theorem c_51_33 : zcode 51 33 = some (.if_icmp .le 5, 3, 38, 0, 0) := by decide +kernel
theorem c_51_36 : zcode 51 36 = some (.iconst 0, 1, 0, 0, 0) := by decide +kernel
theorem c_51_37 : zcode 51 37 = some (.ireturn, 1, 0, 0, 0) := by decide +kernel
theorem c_51_38 : zcode 51 38 = some (.aload_n 0, 1, 0, 0, 0) := by decide +kernel
theorem c_51_39 : zcode 51 39 = some (.dup, 1, 0, 0, 0) := by decide +kernel
theorem c_51_40 : zcode 51 40 = some (.getfield 27, 3, 4, 2, 1098) := by decide +kernel
theorem c_51_43 : zcode 51 43 = some (.aload_n 0, 1, 0, 0, 0) := by decide +kernel
theorem c_51_44 : zcode 51 44 = some (.aload_n 1, 1, 0, 0, 0) := by decide +kernel
theorem c_51_45 : zcode 51 45 = some (.iload_n 2, 1, 0, 0, 0) := by decide +kernel
theorem c_51_46 : zcode 51 46 = some (.invokevirtual 83, 3, 50, 0, 2226) := by decide +kernel
theorem c_51_49 : zcode 51 49 = some (.isub, 1, 0, 0, 0) := by decide +kernel
theorem c_51_50 : zcode 51 50 = some (.putfield 27, 3, 4, 2, 1098) := by decide +kernel
theorem c_51_53 : zcode 51 53 = some (.aload_n 0, 1, 0, 0, 0) := by decide +kernel
theorem c_51_54 : zcode 51 54 = some (.getfield 23, 3, 4, 3, 1101) := by decide +kernel
theorem c_51_57 : zcode 51 57 = some (.iload_n 2, 1, 0, 0, 0) := by decide +kernel
theorem c_51_58 : zcode 51 58 = some (.invokevirtual 86, 3, 37, 0, 2227) := by decide +kernel
theorem c_51_61 : zcode 51 61 = some (.iconst 1, 1, 0, 0, 0) := by decide +kernel
theorem c_51_62 : zcode 51 62 = some (.ireturn, 1, 0, 0, 0) := by decide +kernel
theorem c_52_0 : zcode 52 0 = some (.aload_n 1, 1, 0, 0, 0) := by decide +kernel
theorem c_52_1 : zcode 52 1 = some (.getfield 90, 3, 2, 1, 1056) := by decide +kernel
theorem c_52_4 : zcode 52 4 = some (.aload_n 0, 1, 0, 0, 0) := by decide +kernel
theorem c_52_5 : zcode 52 5 = some (.getfield 9, 3, 4, 0, 1092) := by decide +kernel
theorem c_52_8 : zcode 52 8 = some (.invokevirtual 47, 3, 36, 0, 2094) := by decide +kernel
theorem c_52_11 : zcode 52 11 = some (.iconst 3, 1, 0, 0, 0) := by decide +kernel
theorem c_52_12 : zcode 52 12 = some (.if_icmp .ne 7, 3, 19, 0, 0) := by decide +kernel
theorem c_52_15 : zcode 52 15 = some (.iconst 0, 1, 0, 0, 0) := by decide +kernel
theorem c_52_16 : zcode 52 16 = some (.goto 4, 3, 20, 0, 0) := by decide +kernel
theorem c_52_19 : zcode 52 19 = some (.iconst 1, 1, 0, 0, 0) := by decide +kernel
theorem c_52_20 : zcode 52 20 = some (.istore_n 2, 1, 0, 0, 0) := by decide +kernel
theorem c_52_21 : zcode 52 21 = some (.aload_n 0, 1, 0, 0, 0) := by decide +kernel
theorem c_52_22 : zcode 52 22 = some (.invokevirtual 72, 3, 44, 0, 2223) := by decide +kernel
theorem c_52_25 : zcode 52 25 = some (.ifCond .eq 11, 3, 36, 0, 0) := by decide +kernel
theorem c_52_28 : zcode 52 28 = some (.iload_n 2, 1, 0, 0, 0) := by decide +kernel
theorem c_52_29 : zcode 52 29 = some (.aload_n 0, 1, 0, 0, 0) := by decide +kernel
theorem c_52_30 : zcode 52 30 = some (.getfield 27, 3, 4, 2, 1098) := by decide +kernel
theorem c_52_33 : zcode 52 33 = some (.if_icmp .le 5, 3, 38, 0, 0) := by decide +kernel
theorem c_52_36 : zcode 52 36 = some (.iconst 0, 1, 0, 0, 0) := by decide +kernel
theorem c_52_37 : zcode 52 37 = some (.ireturn, 1, 0, 0, 0) := by decide +kernel
theorem c_52_38 : zcode 52 38 = some (.aload_n 0, 1, 0, 0, 0) := by decide +kernel
theorem c_52_39 : zcode 52 39 = some (.dup, 1, 0, 0, 0) := by decide +kernel
theorem c_52_40 : zcode 52 40 = some (.getfield 27, 3, 4, 2, 1098) := by decide +kernel
theorem c_52_43 : zcode 52 43 = some (.iload_n 2, 1, 0, 0, 0) := by decide +kernel
theorem c_52_44 : zcode 52 44 = some (.isub, 1, 0, 0, 0) := by decide +kernel
theorem c_52_45 : zcode 52 45 = some (.putfield 27, 3, 4, 2, 1098) := by decide +kernel
theorem c_52_48 : zcode 52 48 = some (.iconst 1, 1, 0, 0, 0) := by decide +kernel
theorem c_52_49 : zcode 52 49 = some (.ireturn, 1, 0, 0, 0) := by decide +kernel
theorem c_53_0 : zcode 53 0 = some (.aload_n 0, 1, 0, 0, 0) := by decide +kernel
theorem c_53_1 : zcode 53 1 = some (.invokevirtual 72, 3, 44, 0, 2223) := by decide +kernel
theorem c_53_4 : zcode 53 4 = some (.ifCond .eq 11, 3, 15, 0, 0) := by decide +kernel
theorem c_53_7 : zcode 53 7 = some (.aload_n 0, 1, 0, 0, 0) := by decide +kernel
theorem c_53_8 : zcode 53 8 = some (.getfield 27, 3, 4, 2, 1098) := by decide +kernel
theorem c_53_11 : zcode 53 11 = some (.iconst 1, 1, 0, 0, 0) := by decide +kernel
theorem c_53_12 : zcode 53 12 = some (.if_icmp .ge 5, 3, 17, 0, 0) := by decide +kernel
theorem c_53_15 : zcode 53 15 = some (.iconst 0, 1, 0, 0, 0) := by decide +kernel
theorem c_53_16 : zcode 53 16 = some (.ireturn, 1, 0, 0, 0) := by decide +kernel
theorem c_53_17 : zcode 53 17 = some (.aload_n 0, 1, 0, 0, 0) := by decide +kernel
theorem c_53_18 : zcode 53 18 = some (.iconst 0, 1, 0, 0, 0) := by decide +kernel
theorem c_53_19 : zcode 53 19 = some (.aload_n 0, 1, 0, 0, 0) := by decide +kernel
theorem c_53_20 : zcode 53 20 = some (.getfield 27, 3, 4, 2, 1098) := by decide +kernel
theorem c_53_23 : zcode 53 23 = some (.iload_n 1, 1, 0, 0, 0) := by decide +kernel
theorem c_53_24 : zcode 53 24 = some (.isub, 1, 0, 0, 0) := by decide +kernel
theorem c_53_25 : zcode 53 25 = some (.invokestatic 93, 3, 0, 3, 3008) := by decide +kernel
theorem c_53_28 : zcode 53 28 = some (.putfield 27, 3, 4, 2, 1098) := by decide +kernel
theorem c_53_31 : zcode 53 31 = some (.iconst 1, 1, 0, 0, 0) := by decide +kernel
theorem c_53_32 : zcode 53 32 = some (.ireturn, 1, 0, 0, 0) := by decide +kernel
theorem c_55_0 : zcode 55 0 = some (.iload_n 1, 1, 0, 0, 0) := by decide +kernel
theorem c_55_1 : zcode 55 1 = some (.ifCond .lt 21, 3, 22, 0, 0) := by decide +kernel
theorem c_55_4 : zcode 55 4 = some (.iload_n 1, 1, 0, 0, 0) := by decide +kernel
theorem c_55_5 : zcode 55 5 = some (.aload_n 0, 1, 0, 0, 0) := by decide +kernel
theorem c_55_6 : zcode 55 6 = some (.getfield 15, 3, 5, 0, 1128) := by decide +kernel
theorem c_55_9 : zcode 55 9 = some (.arraylength, 1, 0, 0, 0) := by decide +kernel
theorem c_55_10 : zcode 55 10 = some (.if_icmp .ge 12, 3, 22, 0, 0) := by decide +kernel
theorem c_55_13 : zcode 55 13 = some (.aload_n 0, 1, 0, 0, 0) := by decide +kernel
theorem c_55_14 : zcode 55 14 = some (.getfield 15, 3, 5, 0, 1128) := by decide +kernel
theorem c_55_17 : zcode 55 17 = some (.iload_n 1, 1, 0, 0, 0) := by decide +kernel
theorem c_55_18 : zcode 55 18 = some (.aaload, 1, 0, 0, 0) := by decide +kernel
theorem c_55_19 : zcode 55 19 = some (.goto 4, 3, 23, 0, 0) := by decide +kernel
theorem c_55_22 : zcode 55 22 = some (.aconst_null, 1, 0, 0, 0) := by decide +kernel
theorem c_55_23 : zcode 55 23 = some (.areturn, 1, 0, 0, 0) := by decide +kernel
theorem c_56_0 : zcode 56 0 = some (.aload_n 0, 1, 0, 0, 0) := by decide +kernel
theorem c_56_1 : zcode 56 1 = some (.iload_n 1, 1, 0, 0, 0) := by decide +kernel
theorem c_56_2 : zcode 56 2 = some (.invokevirtual 22, 3, 55, 0, 2191) := by decide +kernel
theorem c_56_5 : zcode 56 5 = some (.astore_n 3, 1, 0, 0, 0) := by decide +kernel
theorem c_56_6 : zcode 56 6 = some (.aload_n 3, 1, 0, 0, 0) := by decide +kernel
theorem c_56_7 : zcode 56 7 = some (.ifnull 8, 3, 15, 0, 0) := by decide +kernel
theorem c_56_10 : zcode 56 10 = some (.aload_n 3, 1, 0, 0, 0) := by decide +kernel
theorem c_56_11 : zcode 56 11 = some (.aload_n 2, 1, 0, 0, 0) := by decide +kernel
theorem c_56_12 : zcode 56 12 = some (.invokevirtual 26, 3, 43, 0, 2195) := by decide +kernel
theorem c_56_15 : zcode 56 15 = some (.return_, 1, 0, 0, 0) := by decide +kernel
theorem c_57_0 : zcode 57 0 = some (.aload_n 0, 1, 0, 0, 0) := by decide +kernel
theorem c_57_1 : zcode 57 1 = some (.iload_n 1, 1, 0, 0, 0) := by decide +kernel
theorem c_57_2 : zcode 57 2 = some (.invokevirtual 22, 3, 55, 0, 2191) := by decide +kernel
theorem c_57_5 : zcode 57 5 = some (.astore_n 3, 1, 0, 0, 0) := by decide +kernel
theorem c_57_6 : zcode 57 6 = some (.aload_n 3, 1, 0, 0, 0) := by decide +kernel
theorem c_57_7 : zcode 57 7 = some (.ifnull 8, 3, 15, 0, 0) := by decide +kernel
theorem c_57_10 : zcode 57 10 = some (.aload_n 2, 1, 0, 0, 0) := by decide +kernel
theorem c_57_11 : zcode 57 11 = some (.aload_n 3, 1, 0, 0, 0) := by decide +kernel
theorem c_57_12 : zcode 57 12 = some (.invokevirtual 26, 3, 43, 0, 2195) := by decide +kernel
theorem c_57_15 : zcode 57 15 = some (.return_, 1, 0, 0, 0) := by decide +kernel
theorem c_59_0 : zcode 59 0 = some (.aload_n 0, 1, 0, 0, 0) := by decide +kernel
theorem c_59_1 : zcode 59 1 = some (.getfield 14, 3, 6, 0, 1150) := by decide +kernel
theorem c_59_4 : zcode 59 4 = some (.invokevirtual 29, 3, 32, 0, 2080) := by decide +kernel
theorem c_59_7 : zcode 59 7 = some (.ireturn, 1, 0, 0, 0) := by decide +kernel
theorem c_60_0 : zcode 60 0 = some (.aload_n 0, 1, 0, 0, 0) := by decide +kernel
theorem c_60_1 : zcode 60 1 = some (.getfield 14, 3, 6, 0, 1150) := by decide +kernel
theorem c_60_4 : zcode 60 4 = some (.invokevirtual 33, 3, 33, 0, 3160) := by decide +kernel
theorem c_60_7 : zcode 60 7 = some (.ireturn, 1, 0, 0, 0) := by decide +kernel
theorem c_61_0 : zcode 61 0 = some (.aload_n 0, 1, 0, 0, 0) := by decide +kernel
theorem c_61_1 : zcode 61 1 = some (.getfield 14, 3, 6, 0, 1150) := by decide +kernel
theorem c_61_4 : zcode 61 4 = some (.invokevirtual 37, 3, 38, 0, 3174) := by decide +kernel
theorem c_61_7 : zcode 61 7 = some (.aload_n 0, 1, 0, 0, 0) := by decide +kernel
theorem c_61_8 : zcode 61 8 = some (.getfield 20, 3, 6, 1, 1151) := by decide +kernel
theorem c_61_11 : zcode 61 11 = some (.invokevirtual 37, 3, 38, 0, 3174) := by decide +kernel
theorem c_61_14 : zcode 61 14 = some (.aload_n 0, 1, 0, 0, 0) := by decide +kernel
theorem c_61_15 : zcode 61 15 = some (.getfield 23, 3, 6, 2, 1152) := by decide +kernel
theorem c_61_18 : zcode 61 18 = some (.invokevirtual 37, 3, 38, 0, 3174) := by decide +kernel
theorem c_61_21 : zcode 61 21 = some (.aload_n 0, 1, 0, 0, 0) := by decide +kernel
theorem c_61_22 : zcode 61 22 = some (.getfield 26, 3, 6, 3, 1153) := by decide +kernel
theorem c_61_25 : zcode 61 25 = some (.invokevirtual 37, 3, 38, 0, 3174) := by decide +kernel
theorem c_61_28 : zcode 61 28 = some (.return_, 1, 0, 0, 0) := by decide +kernel
theorem c_62_0 : zcode 62 0 = some (.aload_n 0, 1, 0, 0, 0) := by decide +kernel
theorem c_62_1 : zcode 62 1 = some (.getfield 20, 3, 6, 1, 1151) := by decide +kernel
theorem c_62_4 : zcode 62 4 = some (.iload_n 1, 1, 0, 0, 0) := by decide +kernel
theorem c_62_5 : zcode 62 5 = some (.invokevirtual 40, 3, 34, 0, 3155) := by decide +kernel
theorem c_62_8 : zcode 62 8 = some (.ifCond .eq 29, 3, 37, 0, 0) := by decide +kernel
theorem c_62_11 : zcode 62 11 = some (.aload_n 0, 1, 0, 0, 0) := by decide +kernel
theorem c_62_12 : zcode 62 12 = some (.getfield 23, 3, 6, 2, 1152) := by decide +kernel
theorem c_62_15 : zcode 62 15 = some (.iload_n 2, 1, 0, 0, 0) := by decide +kernel
theorem c_62_16 : zcode 62 16 = some (.invokevirtual 40, 3, 34, 0, 3155) := by decide +kernel
theorem c_62_19 : zcode 62 19 = some (.ifCond .eq 18, 3, 37, 0, 0) := by decide +kernel
theorem c_62_22 : zcode 62 22 = some (.aload_n 0, 1, 0, 0, 0) := by decide +kernel
theorem c_62_23 : zcode 62 23 = some (.getfield 26, 3, 6, 3, 1153) := by decide +kernel
theorem c_62_26 : zcode 62 26 = some (.iload_n 3, 1, 0, 0, 0) := by decide +kernel
theorem c_62_27 : zcode 62 27 = some (.invokevirtual 40, 3, 34, 0, 3155) := by decide +kernel
theorem c_62_30 : zcode 62 30 = some (.ifCond .eq 7, 3, 37, 0, 0) := by decide +kernel
theorem c_62_33 : zcode 62 33 = some (.iconst 1, 1, 0, 0, 0) := by decide +kernel
theorem c_62_34 : zcode 62 34 = some (.goto 4, 3, 38, 0, 0) := by decide +kernel
theorem c_62_37 : zcode 62 37 = some (.iconst 0, 1, 0, 0, 0) := by decide +kernel
theorem c_62_38 : zcode 62 38 = some (.ireturn, 1, 0, 0, 0) := by decide +kernel
theorem c_63_0 : zcode 63 0 = some (.aload_n 0, 1, 0, 0, 0) := by decide +kernel
theorem c_63_1 : zcode 63 1 = some (.getfield 14, 3, 6, 0, 1150) := by decide +kernel
theorem c_63_4 : zcode 63 4 = some (.iload_n 1, 1, 0, 0, 0) := by decide +kernel
theorem c_63_5 : zcode 63 5 = some (.invokevirtual 44, 3, 37, 0, 3165) := by decide +kernel
theorem c_63_8 : zcode 63 8 = some (.aload_n 0, 1, 0, 0, 0) := by decide +kernel
theorem c_63_9 : zcode 63 9 = some (.getfield 20, 3, 6, 1, 1151) := by decide +kernel
theorem c_63_12 : zcode 63 12 = some (.iload_n 2, 1, 0, 0, 0) := by decide +kernel
theorem c_63_13 : zcode 63 13 = some (.invokevirtual 44, 3, 37, 0, 3165) := by decide +kernel
theorem c_63_16 : zcode 63 16 = some (.aload_n 0, 1, 0, 0, 0) := by decide +kernel
theorem c_63_17 : zcode 63 17 = some (.getfield 23, 3, 6, 2, 1152) := by decide +kernel
theorem c_63_20 : zcode 63 20 = some (.iload_n 3, 1, 0, 0, 0) := by decide +kernel
theorem c_63_21 : zcode 63 21 = some (.invokevirtual 44, 3, 37, 0, 3165) := by decide +kernel
theorem c_63_24 : zcode 63 24 = some (.aload_n 0, 1, 0, 0, 0) := by decide +kernel
theorem c_63_25 : zcode 63 25 = some (.getfield 26, 3, 6, 3, 1153) := by decide +kernel
theorem c_63_28 : zcode 63 28 = some (.iload 4, 2, 0, 0, 0) := by decide +kernel
theorem c_63_30 : zcode 63 30 = some (.invokevirtual 44, 3, 37, 0, 3165) := by decide +kernel
theorem c_63_33 : zcode 63 33 = some (.return_, 1, 0, 0, 0) := by decide +kernel
theorem c_64_0 : zcode 64 0 = some (.iconst 0, 1, 0, 0, 0) := by decide +kernel
theorem c_64_1 : zcode 64 1 = some (.istore_n 3, 1, 0, 0, 0) := by decide +kernel
theorem c_64_2 : zcode 64 2 = some (.iload_n 3, 1, 0, 0, 0) := by decide +kernel
theorem c_64_3 : zcode 64 3 = some (.aload_n 0, 1, 0, 0, 0) := by decide +kernel
theorem c_64_4 : zcode 64 4 = some (.invokevirtual 48, 3, 59, 0, 3183) := by decide +kernel
theorem c_64_7 : zcode 64 7 = some (.if_icmp .ge 65, 3, 72, 0, 0) := by decide +kernel
theorem c_64_10 : zcode 64 10 = some (.aload_n 0, 1, 0, 0, 0) := by decide +kernel
theorem c_64_11 : zcode 64 11 = some (.getfield 14, 3, 6, 0, 1150) := by decide +kernel
theorem c_64_14 : zcode 64 14 = some (.iload_n 3, 1, 0, 0, 0) := by decide +kernel
theorem c_64_15 : zcode 64 15 = some (.invokevirtual 49, 3, 36, 0, 3184) := by decide +kernel
theorem c_64_18 : zcode 64 18 = some (.istore 4, 2, 0, 0, 0) := by decide +kernel
theorem c_64_20 : zcode 64 20 = some (.aload_n 1, 1, 0, 0, 0) := by decide +kernel
theorem c_64_21 : zcode 64 21 = some (.iload 4, 2, 0, 0, 0) := by decide +kernel
theorem c_64_23 : zcode 64 23 = some (.invokevirtual 53, 3, 26, 0, 3185) := by decide +kernel
theorem c_64_26 : zcode 64 26 = some (.ifCond .eq 40, 3, 66, 0, 0) := by decide +kernel
theorem c_64_29 : zcode 64 29 = some (.aload_n 1, 1, 0, 0, 0) := by decide +kernel
theorem c_64_30 : zcode 64 30 = some (.iload_n 2, 1, 0, 0, 0) := by decide +kernel
theorem c_64_31 : zcode 64 31 = some (.aload_n 0, 1, 0, 0, 0) := by decide +kernel
theorem c_64_32 : zcode 64 32 = some (.getfield 23, 3, 6, 2, 1152) := by decide +kernel
theorem c_64_35 : zcode 64 35 = some (.iload_n 3, 1, 0, 0, 0) := by decide +kernel
theorem c_64_36 : zcode 64 36 = some (.invokevirtual 49, 3, 36, 0, 3184) := by decide +kernel
theorem c_64_39 : zcode 64 39 = some (.iconst 0, 1, 0, 0, 0) := by decide +kernel
theorem c_64_40 : zcode 64 40 = some (.iload 4, 2, 0, 0, 0) := by decide +kernel
theorem c_64_42 : zcode 64 42 = some (.aload_n 0, 1, 0, 0, 0) := by decide +kernel
theorem c_64_43 : zcode 64 43 = some (.getfield 20, 3, 6, 1, 1151) := by decide +kernel
theorem c_64_46 : zcode 64 46 = some (.iload_n 3, 1, 0, 0, 0) := by decide +kernel
theorem c_64_47 : zcode 64 47 = some (.invokevirtual 49, 3, 36, 0, 3184) := by decide +kernel
theorem c_64_50 : zcode 64 50 = some (.invokevirtual 58, 3, 29, 0, 3186) := by decide +kernel
theorem c_64_53 : zcode 64 53 = some (.aload_n 0, 1, 0, 0, 0) := by decide +kernel
theorem c_64_54 : zcode 64 54 = some (.getfield 26, 3, 6, 3, 1153) := by decide +kernel
theorem c_64_57 : zcode 64 57 = some (.iload_n 3, 1, 0, 0, 0) := by decide +kernel
theorem c_64_58 : zcode 64 58 = some (.invokevirtual 49, 3, 36, 0, 3184) := by decide +kernel
theorem c_64_61 : zcode 64 61 = some (.if_icmp .eq 5, 3, 66, 0, 0) := by decide +kernel
theorem c_64_64 : zcode 64 64 = some (.iconst 0, 1, 0, 0, 0) := by decide +kernel
theorem c_64_65 : zcode 64 65 = some (.ireturn, 1, 0, 0, 0) := by decide +kernel
theorem c_64_66 : zcode 64 66 = some (.iinc 3 1, 3, 0, 0, 0) := by decide +kernel
theorem c_64_69 : zcode 64 69 = some (.goto (-67), 3, 2, 0, 0) := by decide +kernel
theorem c_64_72 : zcode 64 72 = some (.iconst 1, 1, 0, 0, 0) := by decide +kernel
theorem c_64_73 : zcode 64 73 = some (.ireturn, 1, 0, 0, 0) := by decide +kernel
theorem c_66_0 : zcode 66 0 = some (.aload_n 0, 1, 0, 0, 0) := by decide +kernel
theorem c_66_1 : zcode 66 1 = some (.getfield 14, 3, 7, 0, 1193) := by decide +kernel
theorem c_66_4 : zcode 66 4 = some (.iload_n 1, 1, 0, 0, 0) := by decide +kernel
theorem c_66_5 : zcode 66 5 = some (.invokevirtual 72, 3, 34, 0, 1234) := by decide +kernel
theorem c_66_8 : zcode 66 8 = some (.ifCond .ne 6, 3, 14, 0, 0) := by decide +kernel
theorem c_66_11 : zcode 66 11 = some (.bipush (-2), 2, 0, 0, 0) := by decide +kernel
theorem c_66_13 : zcode 66 13 = some (.ireturn, 1, 0, 0, 0) := by decide +kernel
theorem c_66_14 : zcode 66 14 = some (.aload_n 0, 1, 0, 0, 0) := by decide +kernel
theorem c_66_15 : zcode 66 15 = some (.getfield 14, 3, 7, 0, 1193) := by decide +kernel
theorem c_66_18 : zcode 66 18 = some (.invokevirtual 76, 3, 33, 0, 1238) := by decide +kernel
theorem c_66_21 : zcode 66 21 = some (.ifCond .eq 6, 3, 27, 0, 0) := by decide +kernel
theorem c_66_24 : zcode 66 24 = some (.bipush (-4), 2, 0, 0, 0) := by decide +kernel
theorem c_66_26 : zcode 66 26 = some (.ireturn, 1, 0, 0, 0) := by decide +kernel
theorem c_66_27 : zcode 66 27 = some (.aload_n 0, 1, 0, 0, 0) := by decide +kernel
theorem c_66_28 : zcode 66 28 = some (.getfield 14, 3, 7, 0, 1193) := by decide +kernel
theorem c_66_31 : zcode 66 31 = some (.iload_n 1, 1, 0, 0, 0) := by decide +kernel
theorem c_66_32 : zcode 66 32 = some (.invokevirtual 80, 3, 37, 0, 2002) := by decide +kernel
theorem c_66_35 : zcode 66 35 = some (.aload_n 0, 1, 0, 0, 0) := by decide +kernel
theorem c_66_36 : zcode 66 36 = some (.getfield 14, 3, 7, 0, 1193) := by decide +kernel
theorem c_66_39 : zcode 66 39 = some (.invokevirtual 83, 3, 32, 0, 2006) := by decide +kernel
theorem c_66_42 : zcode 66 42 = some (.ireturn, 1, 0, 0, 0) := by decide +kernel
theorem c_67_0 : zcode 67 0 = some (.aload_n 0, 1, 0, 0, 0) := by decide +kernel
theorem c_67_1 : zcode 67 1 = some (.getfield 14, 3, 7, 0, 1193) := by decide +kernel
theorem c_67_4 : zcode 67 4 = some (.invokevirtual 83, 3, 32, 0, 2006) := by decide +kernel
theorem c_67_7 : zcode 67 7 = some (.istore_n 1, 1, 0, 0, 0) := by decide +kernel
theorem c_67_8 : zcode 67 8 = some (.aload_n 0, 1, 0, 0, 0) := by decide +kernel
theorem c_67_9 : zcode 67 9 = some (.getfield 14, 3, 7, 0, 1193) := by decide +kernel
theorem c_67_12 : zcode 67 12 = some (.invokevirtual 87, 3, 38, 0, 2014) := by decide +kernel
theorem c_67_15 : zcode 67 15 = some (.iload_n 1, 1, 0, 0, 0) := by decide +kernel
theorem c_67_16 : zcode 67 16 = some (.ireturn, 1, 0, 0, 0) := by decide +kernel
theorem c_68_0 : zcode 68 0 = some (.aload_n 0, 1, 0, 0, 0) := by decide +kernel
theorem c_68_1 : zcode 68 1 = some (.getfield 25, 3, 7, 2, 1195) := by decide +kernel
theorem c_68_4 : zcode 68 4 = some (.aload_n 0, 1, 0, 0, 0) := by decide +kernel
theorem c_68_5 : zcode 68 5 = some (.getfield 14, 3, 7, 0, 1193) := by decide +kernel
theorem c_68_8 : zcode 68 8 = some (.invokevirtual 90, 3, 18, 0, 2022) := by decide +kernel
theorem c_68_11 : zcode 68 11 = some (.ireturn, 1, 0, 0, 0) := by decide +kernel
theorem c_69_0 : zcode 69 0 = some (.aload_n 0, 1, 0, 0, 0) := by decide +kernel
theorem c_69_1 : zcode 69 1 = some (.getfield 25, 3, 7, 2, 1195) := by decide +kernel
theorem c_69_4 : zcode 69 4 = some (.aload_n 0, 1, 0, 0, 0) := by decide +kernel
theorem c_69_5 : zcode 69 5 = some (.getfield 14, 3, 7, 0, 1193) := by decide +kernel
theorem c_69_8 : zcode 69 8 = some (.invokevirtual 90, 3, 18, 0, 2022) := by decide +kernel
theorem c_69_11 : zcode 69 11 = some (.bipush (-9), 2, 0, 0, 0) := by decide +kernel
theorem c_69_13 : zcode 69 13 = some (.if_icmp .eq 6, 3, 19, 0, 0) := by decide +kernel
theorem c_69_16 : zcode 69 16 = some (.bipush (-3), 2, 0, 0, 0) := by decide +kernel
theorem c_69_18 : zcode 69 18 = some (.ireturn, 1, 0, 0, 0) := by decide +kernel
theorem c_69_19 : zcode 69 19 = some (.aload_n 0, 1, 0, 0, 0) := by decide +kernel
theorem c_69_20 : zcode 69 20 = some (.getfield 25, 3, 7, 2, 1195) := by decide +kernel
theorem c_69_23 : zcode 69 23 = some (.astore_n 1, 1, 0, 0, 0) := by decide +kernel
theorem c_69_24 : zcode 69 24 = some (.aload_n 0, 1, 0, 0, 0) := by decide +kernel
theorem c_69_25 : zcode 69 25 = some (.aload_n 0, 1, 0, 0, 0) := by decide +kernel
theorem c_69_26 : zcode 69 26 = some (.getfield 21, 3, 7, 1, 1194) := by decide +kernel
theorem c_69_29 : zcode 69 29 = some (.putfield 25, 3, 7, 2, 1195) := by decide +kernel
theorem c_69_32 : zcode 69 32 = some (.aload_n 0, 1, 0, 0, 0) := by decide +kernel
theorem c_69_33 : zcode 69 33 = some (.aload_n 1, 1, 0, 0, 0) := by decide +kernel
theorem c_69_34 : zcode 69 34 = some (.putfield 21, 3, 7, 1, 1194) := by decide +kernel
theorem c_69_37 : zcode 69 37 = some (.aload_n 0, 1, 0, 0, 0) := by decide +kernel
theorem c_69_38 : zcode 69 38 = some (.getfield 31, 3, 7, 3, 1196) := by decide +kernel
theorem c_69_41 : zcode 69 41 = some (.invokevirtual 94, 3, 41, 0, 2047) := by decide +kernel
theorem c_69_44 : zcode 69 44 = some (.aload_n 0, 1, 0, 0, 0) := by decide +kernel
theorem c_69_45 : zcode 69 45 = some (.getfield 41, 3, 7, 5, 1198) := by decide +kernel
theorem c_69_48 : zcode 69 48 = some (.invokevirtual 97, 3, 2, 0, 2052) := by decide +kernel
theorem c_69_51 : zcode 69 51 = some (.aload_n 0, 1, 0, 0, 0) := by decide +kernel
theorem c_69_52 : zcode 69 52 = some (.iconst 0, 1, 0, 0, 0) := by decide +kernel
theorem c_69_53 : zcode 69 53 = some (.putfield 98, 3, 7, 9, 1202) := by decide +kernel
theorem c_69_56 : zcode 69 56 = some (.bipush 100, 2, 0, 0, 0) := by decide +kernel
theorem c_69_58 : zcode 69 58 = some (.aload_n 0, 1, 0, 0, 0) := by decide +kernel
theorem c_69_59 : zcode 69 59 = some (.getfield 21, 3, 7, 1, 1194) := by decide +kernel
theorem c_69_62 : zcode 69 62 = some (.invokevirtual 102, 3, 21, 0, 2056) := by decide +kernel
theorem c_69_65 : zcode 69 65 = some (.imul, 1, 0, 0, 0) := by decide +kernel
theorem c_69_66 : zcode 69 66 = some (.bipush 10, 2, 0, 0, 0) := by decide +kernel
theorem c_69_68 : zcode 69 68 = some (.aload_n 0, 1, 0, 0, 0) := by decide +kernel
theorem c_69_69 : zcode 69 69 = some (.getfield 21, 3, 7, 1, 1194) := by decide +kernel
theorem c_69_72 : zcode 69 72 = some (.invokevirtual 105, 3, 22, 0, 2060) := by decide +kernel
theorem c_69_75 : zcode 69 75 = some (.imul, 1, 0, 0, 0) := by decide +kernel
theorem c_69_76 : zcode 69 76 = some (.iadd, 1, 0, 0, 0) := by decide +kernel
theorem c_69_77 : zcode 69 77 = some (.aload_n 0, 1, 0, 0, 0) := by decide +kernel
theorem c_69_78 : zcode 69 78 = some (.getfield 21, 3, 7, 1, 1194) := by decide +kernel
theorem c_69_81 : zcode 69 81 = some (.invokevirtual 108, 3, 23, 0, 2064) := by decide +kernel
theorem c_69_84 : zcode 69 84 = some (.iadd, 1, 0, 0, 0) := by decide +kernel
theorem c_69_85 : zcode 69 85 = some (.ireturn, 1, 0, 0, 0) := by decide +kernel
theorem c_70_0 : zcode 70 0 = some (.iload_n 1, 1, 0, 0, 0) := by decide +kernel
theorem c_70_1 : zcode 70 1 = some (.tableswitch 115 0 12 #[67, 75, 83, 115, 115, 115, 115, 115, 115, 115, 91, 99, 107], 67, 0, 0, 0) := by decide +kernel
theorem c_70_68 : zcode 70 68 = some (.aload_n 0, 1, 0, 0, 0) := by decide +kernel
theorem c_70_69 : zcode 70 69 = some (.getfield 21, 3, 7, 1, 1194) := by decide +kernel
theorem c_70_72 : zcode 70 72 = some (.invokevirtual 102, 3, 21, 0, 2056) := by decide +kernel
theorem c_70_75 : zcode 70 75 = some (.ireturn, 1, 0, 0, 0) := by decide +kernel
theorem c_70_76 : zcode 70 76 = some (.aload_n 0, 1, 0, 0, 0) := by decide +kernel
theorem c_70_77 : zcode 70 77 = some (.getfield 21, 3, 7, 1, 1194) := by decide +kernel
theorem c_70_80 : zcode 70 80 = some (.invokevirtual 105, 3, 22, 0, 2060) := by decide +kernel
theorem c_70_83 : zcode 70 83 = some (.ireturn, 1, 0, 0, 0) := by decide +kernel
theorem c_70_84 : zcode 70 84 = some (.aload_n 0, 1, 0, 0, 0) := by decide +kernel
theorem c_70_85 : zcode 70 85 = some (.getfield 21, 3, 7, 1, 1194) := by decide +kernel
theorem c_70_88 : zcode 70 88 = some (.invokevirtual 108, 3, 23, 0, 2064) := by decide +kernel
theorem c_70_91 : zcode 70 91 = some (.ireturn, 1, 0, 0, 0) := by decide +kernel
theorem c_70_92 : zcode 70 92 = some (.aload_n 0, 1, 0, 0, 0) := by decide +kernel
theorem c_70_93 : zcode 70 93 = some (.getfield 41, 3, 7, 5, 1198) := by decide +kernel
theorem c_70_96 : zcode 70 96 = some (.invokevirtual 111, 3, 1, 0, 2072) := by decide +kernel
theorem c_70_99 : zcode 70 99 = some (.ireturn, 1, 0, 0, 0) := by decide +kernel
theorem c_70_100 : zcode 70 100 = some (.aload_n 0, 1, 0, 0, 0) := by decide +kernel
theorem c_70_101 : zcode 70 101 = some (.getfield 48, 3, 7, 6, 1199) := by decide +kernel
theorem c_70_104 : zcode 70 104 = some (.invokevirtual 112, 3, 59, 0, 2076) := by decide +kernel
theorem c_70_107 : zcode 70 107 = some (.ireturn, 1, 0, 0, 0) := by decide +kernel
theorem c_70_108 : zcode 70 108 = some (.aload_n 0, 1, 0, 0, 0) := by decide +kernel
theorem c_70_109 : zcode 70 109 = some (.getfield 14, 3, 7, 0, 1193) := by decide +kernel
theorem c_70_112 : zcode 70 112 = some (.invokevirtual 83, 3, 32, 0, 2006) := by decide +kernel
theorem c_70_115 : zcode 70 115 = some (.ireturn, 1, 0, 0, 0) := by decide +kernel
theorem c_70_116 : zcode 70 116 = some (.aload_n 0, 1, 0, 0, 0) := by decide +kernel
theorem c_70_117 : zcode 70 117 = some (.iload_n 1, 1, 0, 0, 0) := by decide +kernel
theorem c_70_118 : zcode 70 118 = some (.invokevirtual 113, 3, 71, 0, 2081) := by decide +kernel
theorem c_70_121 : zcode 70 121 = some (.ireturn, 1, 0, 0, 0) := by decide +kernel
theorem c_71_0 : zcode 71 0 = some (.iload_n 1, 1, 0, 0, 0) := by decide +kernel
theorem c_71_1 : zcode 71 1 = some (.tableswitch 118 3 9 #[43, 51, 59, 67, 75, 83, 98], 43, 0, 0, 0) := by decide +kernel
theorem c_71_44 : zcode 71 44 = some (.aload_n 0, 1, 0, 0, 0) := by decide +kernel
theorem c_71_45 : zcode 71 45 = some (.getfield 31, 3, 7, 3, 1196) := by decide +kernel
theorem c_71_48 : zcode 71 48 = some (.getfield 117, 3, 4, 0, 1094) := by decide +kernel
theorem c_71_51 : zcode 71 51 = some (.ireturn, 1, 0, 0, 0) := by decide +kernel
theorem c_71_52 : zcode 71 52 = some (.aload_n 0, 1, 0, 0, 0) := by decide +kernel
theorem c_71_53 : zcode 71 53 = some (.getfield 31, 3, 7, 3, 1196) := by decide +kernel
theorem c_71_56 : zcode 71 56 = some (.getfield 120, 3, 4, 1, 1097) := by decide +kernel
theorem c_71_59 : zcode 71 59 = some (.ireturn, 1, 0, 0, 0) := by decide +kernel
theorem c_71_60 : zcode 71 60 = some (.aload_n 0, 1, 0, 0, 0) := by decide +kernel
theorem c_71_61 : zcode 71 61 = some (.getfield 31, 3, 7, 3, 1196) := by decide +kernel
theorem c_71_64 : zcode 71 64 = some (.getfield 123, 3, 4, 2, 1100) := by decide +kernel
theorem c_71_67 : zcode 71 67 = some (.ireturn, 1, 0, 0, 0) := by decide +kernel
theorem c_71_68 : zcode 71 68 = some (.aload_n 0, 1, 0, 0, 0) := by decide +kernel
theorem c_71_69 : zcode 71 69 = some (.getfield 31, 3, 7, 3, 1196) := by decide +kernel
theorem c_71_72 : zcode 71 72 = some (.invokevirtual 126, 3, 45, 0, 2085) := by decide +kernel
theorem c_71_75 : zcode 71 75 = some (.ireturn, 1, 0, 0, 0) := by decide +kernel
theorem c_71_76 : zcode 71 76 = some (.aload_n 0, 1, 0, 0, 0) := by decide +kernel
theorem c_71_77 : zcode 71 77 = some (.getfield 31, 3, 7, 3, 1196) := by decide +kernel
theorem c_71_80 : zcode 71 80 = some (.invokevirtual 127, 3, 46, 0, 2090) := by decide +kernel
theorem c_71_83 : zcode 71 83 = some (.ireturn, 1, 0, 0, 0) := by decide +kernel
theorem c_71_84 : zcode 71 84 = some (.aload_n 0, 1, 0, 0, 0) := by decide +kernel
theorem c_71_85 : zcode 71 85 = some (.getfield 21, 3, 7, 1, 1194) := by decide +kernel
theorem c_71_88 : zcode 71 88 = some (.aload_n 0, 1, 0, 0, 0) := by decide +kernel
theorem c_71_89 : zcode 71 89 = some (.getfield 31, 3, 7, 3, 1196) := by decide +kernel
theorem c_71_92 : zcode 71 92 = some (.invokevirtual 127, 3, 46, 0, 2090) := by decide +kernel
theorem c_71_95 : zcode 71 95 = some (.invokevirtual 130, 3, 30, 0, 2095) := by decide +kernel
theorem c_71_98 : zcode 71 98 = some (.ireturn, 1, 0, 0, 0) := by decide +kernel
theorem c_71_99 : zcode 71 99 = some (.aload_n 0, 1, 0, 0, 0) := by decide +kernel
theorem c_71_100 : zcode 71 100 = some (.getfield 31, 3, 7, 3, 1196) := by decide +kernel
theorem c_71_103 : zcode 71 103 = some (.aload_n 0, 1, 0, 0, 0) := by decide +kernel
theorem c_71_104 : zcode 71 104 = some (.getfield 21, 3, 7, 1, 1194) := by decide +kernel
theorem c_71_107 : zcode 71 107 = some (.invokevirtual 133, 3, 49, 0, 2103) := by decide +kernel
theorem c_71_110 : zcode 71 110 = some (.ifCond .eq 7, 3, 117, 0, 0) := by decide +kernel
theorem c_71_113 : zcode 71 113 = some (.iconst 1, 1, 0, 0, 0) := by decide +kernel
theorem c_71_114 : zcode 71 114 = some (.goto 4, 3, 118, 0, 0) := by decide +kernel
theorem c_71_117 : zcode 71 117 = some (.iconst 0, 1, 0, 0, 0) := by decide +kernel
theorem c_71_118 : zcode 71 118 = some (.ireturn, 1, 0, 0, 0) := by decide +kernel
theorem c_71_119 : zcode 71 119 = some (.bipush (-2), 2, 0, 0, 0) := by decide +kernel
theorem c_71_121 : zcode 71 121 = some (.ireturn, 1, 0, 0, 0) := by decide +kernel
theorem c_72_0 : zcode 72 0 = some (.aload_n 0, 1, 0, 0, 0) := by decide +kernel
theorem c_72_1 : zcode 72 1 = some (.getfield 21, 3, 7, 1, 1194) := by decide +kernel
theorem c_72_4 : zcode 72 4 = some (.iload_n 1, 1, 0, 0, 0) := by decide +kernel
theorem c_72_5 : zcode 72 5 = some (.invokevirtual 137, 3, 24, 0, 2118) := by decide +kernel
theorem c_72_8 : zcode 72 8 = some (.ifCond .ne 5, 3, 13, 0, 0) := by decide +kernel
theorem c_72_11 : zcode 72 11 = some (.iconst (-1), 1, 0, 0, 0) := by decide +kernel
theorem c_72_12 : zcode 72 12 = some (.ireturn, 1, 0, 0, 0) := by decide +kernel
theorem c_72_13 : zcode 72 13 = some (.iload_n 2, 1, 0, 0, 0) := by decide +kernel
theorem c_72_14 : zcode 72 14 = some (.tableswitch 59 0 2 #[26, 38, 50], 26, 0, 0, 0) := by decide +kernel
theorem c_72_40 : zcode 72 40 = some (.aload_n 0, 1, 0, 0, 0) := by decide +kernel
theorem c_72_41 : zcode 72 41 = some (.getfield 21, 3, 7, 1, 1194) := by decide +kernel
theorem c_72_44 : zcode 72 44 = some (.getfield 140, 3, 2, 0, 1053) := by decide +kernel
theorem c_72_47 : zcode 72 47 = some (.iload_n 1, 1, 0, 0, 0) := by decide +kernel
theorem c_72_48 : zcode 72 48 = some (.invokevirtual 143, 3, 36, 0, 2126) := by decide +kernel
theorem c_72_51 : zcode 72 51 = some (.ireturn, 1, 0, 0, 0) := by decide +kernel
theorem c_72_52 : zcode 72 52 = some (.aload_n 0, 1, 0, 0, 0) := by decide +kernel
theorem c_72_53 : zcode 72 53 = some (.getfield 21, 3, 7, 1, 1194) := by decide +kernel
theorem c_72_56 : zcode 72 56 = some (.getfield 146, 3, 2, 1, 1055) := by decide +kernel
theorem c_72_59 : zcode 72 59 = some (.iload_n 1, 1, 0, 0, 0) := by decide +kernel
theorem c_72_60 : zcode 72 60 = some (.invokevirtual 143, 3, 36, 0, 2126) := by decide +kernel
theorem c_72_63 : zcode 72 63 = some (.ireturn, 1, 0, 0, 0) := by decide +kernel
theorem c_72_64 : zcode 72 64 = some (.aload_n 0, 1, 0, 0, 0) := by decide +kernel
theorem c_72_65 : zcode 72 65 = some (.getfield 21, 3, 7, 1, 1194) := by decide +kernel
theorem c_72_68 : zcode 72 68 = some (.iload_n 1, 1, 0, 0, 0) := by decide +kernel
theorem c_72_69 : zcode 72 69 = some (.invokevirtual 149, 3, 27, 0, 2127) := by decide +kernel
theorem c_72_72 : zcode 72 72 = some (.ireturn, 1, 0, 0, 0) := by decide +kernel
theorem c_72_73 : zcode 72 73 = some (.bipush (-2), 2, 0, 0, 0) := by decide +kernel
theorem c_72_75 : zcode 72 75 = some (.ireturn, 1, 0, 0, 0) := by decide +kernel
theorem c_73_0 : zcode 73 0 = some (.aload_n 0, 1, 0, 0, 0) := by decide +kernel
theorem c_73_1 : zcode 73 1 = some (.getfield 21, 3, 7, 1, 1194) := by decide +kernel
theorem c_73_4 : zcode 73 4 = some (.iload_n 1, 1, 0, 0, 0) := by decide +kernel
theorem c_73_5 : zcode 73 5 = some (.invokevirtual 152, 3, 25, 0, 2135) := by decide +kernel
theorem c_73_8 : zcode 73 8 = some (.ifCond .ne 5, 3, 13, 0, 0) := by decide +kernel
theorem c_73_11 : zcode 73 11 = some (.iconst (-1), 1, 0, 0, 0) := by decide +kernel
theorem c_73_12 : zcode 73 12 = some (.ireturn, 1, 0, 0, 0) := by decide +kernel
theorem c_73_13 : zcode 73 13 = some (.iload_n 2, 1, 0, 0, 0) := by decide +kernel
theorem c_73_14 : zcode 73 14 = some (.lookupswitch 50 #[(0, 26), (1, 38)], 26, 0, 0, 0) := by decide +kernel
theorem c_73_40 : zcode 73 40 = some (.aload_n 0, 1, 0, 0, 0) := by decide +kernel
theorem c_73_41 : zcode 73 41 = some (.getfield 21, 3, 7, 1, 1194) := by decide +kernel
theorem c_73_44 : zcode 73 44 = some (.getfield 155, 3, 2, 2, 1058) := by decide +kernel
theorem c_73_47 : zcode 73 47 = some (.iload_n 1, 1, 0, 0, 0) := by decide +kernel
theorem c_73_48 : zcode 73 48 = some (.invokevirtual 143, 3, 36, 0, 2126) := by decide +kernel
theorem c_73_51 : zcode 73 51 = some (.ireturn, 1, 0, 0, 0) := by decide +kernel
theorem c_73_52 : zcode 73 52 = some (.aload_n 0, 1, 0, 0, 0) := by decide +kernel
theorem c_73_53 : zcode 73 53 = some (.getfield 21, 3, 7, 1, 1194) := by decide +kernel
theorem c_73_56 : zcode 73 56 = some (.getfield 158, 3, 2, 3, 1060) := by decide +kernel
theorem c_73_59 : zcode 73 59 = some (.iload_n 1, 1, 0, 0, 0) := by decide +kernel
theorem c_73_60 : zcode 73 60 = some (.invokevirtual 143, 3, 36, 0, 2126) := by decide +kernel
theorem c_73_63 : zcode 73 63 = some (.ireturn, 1, 0, 0, 0) := by decide +kernel
theorem c_73_64 : zcode 73 64 = some (.bipush (-2), 2, 0, 0, 0) := by decide +kernel
theorem c_73_66 : zcode 73 66 = some (.ireturn, 1, 0, 0, 0) := by decide +kernel
theorem c_74_0 : zcode 74 0 = some (.aload_n 0, 1, 0, 0, 0) := by decide +kernel
theorem c_74_1 : zcode 74 1 = some (.getfield 21, 3, 7, 1, 1194) := by decide +kernel
theorem c_74_4 : zcode 74 4 = some (.iload_n 1, 1, 0, 0, 0) := by decide +kernel
theorem c_74_5 : zcode 74 5 = some (.invokevirtual 161, 3, 26, 0, 2143) := by decide +kernel
theorem c_74_8 : zcode 74 8 = some (.ifCond .ne 5, 3, 13, 0, 0) := by decide +kernel
theorem c_74_11 : zcode 74 11 = some (.iconst (-1), 1, 0, 0, 0) := by decide +kernel
theorem c_74_12 : zcode 74 12 = some (.ireturn, 1, 0, 0, 0) := by decide +kernel
theorem c_74_13 : zcode 74 13 = some (.iload_n 2, 1, 0, 0, 0) := by decide +kernel
theorem c_74_14 : zcode 74 14 = some (.tableswitch 105 0 3 #[30, 42, 54, 66], 30, 0, 0, 0) := by decide +kernel
theorem c_74_44 : zcode 74 44 = some (.aload_n 0, 1, 0, 0, 0) := by decide +kernel
theorem c_74_45 : zcode 74 45 = some (.getfield 21, 3, 7, 1, 1194) := by decide +kernel
theorem c_74_48 : zcode 74 48 = some (.getfield 164, 3, 2, 4, 1062) := by decide +kernel
theorem c_74_51 : zcode 74 51 = some (.iload_n 1, 1, 0, 0, 0) := by decide +kernel
theorem c_74_52 : zcode 74 52 = some (.invokevirtual 143, 3, 36, 0, 2126) := by decide +kernel
theorem c_74_55 : zcode 74 55 = some (.ireturn, 1, 0, 0, 0) := by decide +kernel
theorem c_74_56 : zcode 74 56 = some (.aload_n 0, 1, 0, 0, 0) := by decide +kernel
theorem c_74_57 : zcode 74 57 = some (.getfield 21, 3, 7, 1, 1194) := by decide +kernel
theorem c_74_60 : zcode 74 60 = some (.getfield 167, 3, 2, 5, 1064) := by decide +kernel
theorem c_74_63 : zcode 74 63 = some (.iload_n 1, 1, 0, 0, 0) := by decide +kernel
theorem c_74_64 : zcode 74 64 = some (.invokevirtual 143, 3, 36, 0, 2126) := by decide +kernel
theorem c_74_67 : zcode 74 67 = some (.ireturn, 1, 0, 0, 0) := by decide +kernel
theorem c_74_68 : zcode 74 68 = some (.aload_n 0, 1, 0, 0, 0) := by decide +kernel
theorem c_74_69 : zcode 74 69 = some (.getfield 21, 3, 7, 1, 1194) := by decide +kernel
theorem c_74_72 : zcode 74 72 = some (.getfield 170, 3, 2, 6, 1068) := by decide +kernel
theorem c_74_75 : zcode 74 75 = some (.iload_n 1, 1, 0, 0, 0) := by decide +kernel
theorem c_74_76 : zcode 74 76 = some (.invokevirtual 143, 3, 36, 0, 2126) := by decide +kernel
theorem c_74_79 : zcode 74 79 = some (.ireturn, 1, 0, 0, 0) := by decide +kernel
theorem c_74_80 : zcode 74 80 = some (.aload_n 0, 1, 0, 0, 0) := by decide +kernel
theorem c_74_81 : zcode 74 81 = some (.getfield 31, 3, 7, 3, 1196) := by decide +kernel
theorem c_74_84 : zcode 74 84 = some (.invokevirtual 173, 3, 44, 0, 2147) := by decide +kernel
theorem c_74_87 : zcode 74 87 = some (.ifCond .eq 29, 3, 116, 0, 0) := by decide +kernel
theorem c_74_90 : zcode 74 90 = some (.aload_n 0, 1, 0, 0, 0) := by decide +kernel
theorem c_74_91 : zcode 74 91 = some (.getfield 31, 3, 7, 3, 1196) := by decide +kernel
theorem c_74_94 : zcode 74 94 = some (.iload_n 1, 1, 0, 0, 0) := by decide +kernel
theorem c_74_95 : zcode 74 95 = some (.invokevirtual 176, 3, 47, 0, 2151) := by decide +kernel
theorem c_74_98 : zcode 74 98 = some (.ifCond .ne 18, 3, 116, 0, 0) := by decide +kernel
theorem c_74_101 : zcode 74 101 = some (.aload_n 0, 1, 0, 0, 0) := by decide +kernel
theorem c_74_102 : zcode 74 102 = some (.getfield 31, 3, 7, 3, 1196) := by decide +kernel
theorem c_74_105 : zcode 74 105 = some (.aload_n 0, 1, 0, 0, 0) := by decide +kernel
theorem c_74_106 : zcode 74 106 = some (.getfield 21, 3, 7, 1, 1194) := by decide +kernel
theorem c_74_109 : zcode 74 109 = some (.iload_n 1, 1, 0, 0, 0) := by decide +kernel
theorem c_74_110 : zcode 74 110 = some (.invokevirtual 179, 3, 50, 0, 2157) := by decide +kernel
theorem c_74_113 : zcode 74 113 = some (.goto 5, 3, 118, 0, 0) := by decide +kernel
theorem c_74_116 : zcode 74 116 = some (.bipush (-9), 2, 0, 0, 0) := by decide +kernel
theorem c_74_118 : zcode 74 118 = some (.ireturn, 1, 0, 0, 0) := by decide +kernel
theorem c_74_119 : zcode 74 119 = some (.bipush (-2), 2, 0, 0, 0) := by decide +kernel
theorem c_74_121 : zcode 74 121 = some (.ireturn, 1, 0, 0, 0) := by decide +kernel
theorem c_75_0 : zcode 75 0 = some (.aload_n 0, 1, 0, 0, 0) := by decide +kernel
theorem c_75_1 : zcode 75 1 = some (.getfield 31, 3, 7, 3, 1196) := by decide +kernel
theorem c_75_4 : zcode 75 4 = some (.getfield 183, 3, 4, 3, 1102) := by decide +kernel
theorem c_75_7 : zcode 75 7 = some (.iload_n 1, 1, 0, 0, 0) := by decide +kernel
theorem c_75_8 : zcode 75 8 = some (.invokevirtual 186, 3, 35, 0, 2173) := by decide +kernel
theorem c_75_11 : zcode 75 11 = some (.ifCond .eq 17, 3, 28, 0, 0) := by decide +kernel
theorem c_75_14 : zcode 75 14 = some (.aload_n 0, 1, 0, 0, 0) := by decide +kernel
theorem c_75_15 : zcode 75 15 = some (.getfield 31, 3, 7, 3, 1196) := by decide +kernel
theorem c_75_18 : zcode 75 18 = some (.getfield 183, 3, 4, 3, 1102) := by decide +kernel
theorem c_75_21 : zcode 75 21 = some (.iload_n 1, 1, 0, 0, 0) := by decide +kernel
theorem c_75_22 : zcode 75 22 = some (.invokevirtual 143, 3, 36, 0, 2126) := by decide +kernel
theorem c_75_25 : zcode 75 25 = some (.goto 4, 3, 29, 0, 0) := by decide +kernel
theorem c_75_28 : zcode 75 28 = some (.iconst (-1), 1, 0, 0, 0) := by decide +kernel
theorem c_75_29 : zcode 75 29 = some (.ireturn, 1, 0, 0, 0) := by decide +kernel
theorem c_76_0 : zcode 76 0 = some (.aload_n 0, 1, 0, 0, 0) := by decide +kernel
theorem c_76_1 : zcode 76 1 = some (.getfield 21, 3, 7, 1, 1194) := by decide +kernel
theorem c_76_4 : zcode 76 4 = some (.iload_n 1, 1, 0, 0, 0) := by decide +kernel
theorem c_76_5 : zcode 76 5 = some (.invokevirtual 161, 3, 26, 0, 2143) := by decide +kernel
theorem c_76_8 : zcode 76 8 = some (.ifCond .eq 25, 3, 33, 0, 0) := by decide +kernel
theorem c_76_11 : zcode 76 11 = some (.aload_n 0, 1, 0, 0, 0) := by decide +kernel
theorem c_76_12 : zcode 76 12 = some (.getfield 21, 3, 7, 1, 1194) := by decide +kernel
theorem c_76_15 : zcode 76 15 = some (.iload_n 2, 1, 0, 0, 0) := by decide +kernel
theorem c_76_16 : zcode 76 16 = some (.invokevirtual 152, 3, 25, 0, 2135) := by decide +kernel
theorem c_76_19 : zcode 76 19 = some (.ifCond .eq 14, 3, 33, 0, 0) := by decide +kernel
theorem c_76_22 : zcode 76 22 = some (.aload_n 0, 1, 0, 0, 0) := by decide +kernel
theorem c_76_23 : zcode 76 23 = some (.getfield 21, 3, 7, 1, 1194) := by decide +kernel
theorem c_76_26 : zcode 76 26 = some (.iload_n 3, 1, 0, 0, 0) := by decide +kernel
theorem c_76_27 : zcode 76 27 = some (.invokevirtual 137, 3, 24, 0, 2118) := by decide +kernel
theorem c_76_30 : zcode 76 30 = some (.ifCond .ne 5, 3, 35, 0, 0) := by decide +kernel
theorem c_76_33 : zcode 76 33 = some (.iconst (-1), 1, 0, 0, 0) := by decide +kernel
theorem c_76_34 : zcode 76 34 = some (.ireturn, 1, 0, 0, 0) := by decide +kernel
theorem c_76_35 : zcode 76 35 = some (.iload 4, 2, 0, 0, 0) := by decide +kernel
theorem c_76_37 : zcode 76 37 = some (.ifCond .lt 10, 3, 47, 0, 0) := by decide +kernel
theorem c_76_40 : zcode 76 40 = some (.iload 4, 2, 0, 0, 0) := by decide +kernel
theorem c_76_42 : zcode 76 42 = some (.bipush 6, 2, 0, 0, 0) := by decide +kernel
theorem c_76_44 : zcode 76 44 = some (.if_icmp .lt 6, 3, 50, 0, 0) := by decide +kernel
theorem c_76_47 : zcode 76 47 = some (.bipush (-2), 2, 0, 0, 0) := by decide +kernel
theorem c_76_49 : zcode 76 49 = some (.ireturn, 1, 0, 0, 0) := by decide +kernel
theorem c_76_50 : zcode 76 50 = some (.aload_n 0, 1, 0, 0, 0) := by decide +kernel
theorem c_76_51 : zcode 76 51 = some (.getfield 21, 3, 7, 1, 1194) := by decide +kernel
theorem c_76_54 : zcode 76 54 = some (.iload_n 1, 1, 0, 0, 0) := by decide +kernel
theorem c_76_55 : zcode 76 55 = some (.iload_n 2, 1, 0, 0, 0) := by decide +kernel
theorem c_76_56 : zcode 76 56 = some (.iload_n 3, 1, 0, 0, 0) := by decide +kernel
theorem c_76_57 : zcode 76 57 = some (.iload 4, 2, 0, 0, 0) := by decide +kernel
theorem c_76_59 : zcode 76 59 = some (.invokevirtual 189, 3, 28, 0, 2178) := by decide +kernel
theorem c_76_62 : zcode 76 62 = some (.ireturn, 1, 0, 0, 0) := by decide +kernel
theorem c_77_0 : zcode 77 0 = some (.aload_n 0, 1, 0, 0, 0) := by decide +kernel
theorem c_77_1 : zcode 77 1 = some (.getfield 21, 3, 7, 1, 1194) := by decide +kernel
theorem c_77_4 : zcode 77 4 = some (.iload_n 1, 1, 0, 0, 0) := by decide +kernel
theorem c_77_5 : zcode 77 5 = some (.invokevirtual 137, 3, 24, 0, 2118) := by decide +kernel
theorem c_77_8 : zcode 77 8 = some (.ifCond .eq 14, 3, 22, 0, 0) := by decide +kernel
theorem c_77_11 : zcode 77 11 = some (.aload_n 0, 1, 0, 0, 0) := by decide +kernel
theorem c_77_12 : zcode 77 12 = some (.getfield 21, 3, 7, 1, 1194) := by decide +kernel
theorem c_77_15 : zcode 77 15 = some (.iload_n 2, 1, 0, 0, 0) := by decide +kernel
theorem c_77_16 : zcode 77 16 = some (.invokevirtual 152, 3, 25, 0, 2135) := by decide +kernel
theorem c_77_19 : zcode 77 19 = some (.ifCond .ne 5, 3, 24, 0, 0) := by decide +kernel
theorem c_77_22 : zcode 77 22 = some (.iconst (-1), 1, 0, 0, 0) := by decide +kernel
theorem c_77_23 : zcode 77 23 = some (.ireturn, 1, 0, 0, 0) := by decide +kernel
theorem c_77_24 : zcode 77 24 = some (.aload_n 0, 1, 0, 0, 0) := by decide +kernel
theorem c_77_25 : zcode 77 25 = some (.getfield 41, 3, 7, 5, 1198) := by decide +kernel
theorem c_77_28 : zcode 77 28 = some (.aload_n 0, 1, 0, 0, 0) := by decide +kernel
theorem c_77_29 : zcode 77 29 = some (.getfield 31, 3, 7, 3, 1196) := by decide +kernel
theorem c_77_32 : zcode 77 32 = some (.invokevirtual 192, 3, 3, 0, 2183) := by decide +kernel
theorem c_77_35 : zcode 77 35 = some (.aload_n 0, 1, 0, 0, 0) := by decide +kernel
theorem c_77_36 : zcode 77 36 = some (.getfield 31, 3, 7, 3, 1196) := by decide +kernel
theorem c_77_39 : zcode 77 39 = some (.aload_n 0, 1, 0, 0, 0) := by decide +kernel
theorem c_77_40 : zcode 77 40 = some (.getfield 21, 3, 7, 1, 1194) := by decide +kernel
theorem c_77_43 : zcode 77 43 = some (.iload_n 1, 1, 0, 0, 0) := by decide +kernel
theorem c_77_44 : zcode 77 44 = some (.iload_n 2, 1, 0, 0, 0) := by decide +kernel
theorem c_77_45 : zcode 77 45 = some (.invokevirtual 196, 3, 42, 0, 2209) := by decide +kernel
theorem c_77_48 : zcode 77 48 = some (.aload_n 0, 1, 0, 0, 0) := by decide +kernel
theorem c_77_49 : zcode 77 49 = some (.getfield 31, 3, 7, 3, 1196) := by decide +kernel
theorem c_77_52 : zcode 77 52 = some (.getfield 123, 3, 4, 2, 1100) := by decide +kernel
theorem c_77_55 : zcode 77 55 = some (.ireturn, 1, 0, 0, 0) := by decide +kernel
theorem c_78_0 : zcode 78 0 = some (.aload_n 0, 1, 0, 0, 0) := by decide +kernel
theorem c_78_1 : zcode 78 1 = some (.getfield 21, 3, 7, 1, 1194) := by decide +kernel
theorem c_78_4 : zcode 78 4 = some (.iload_n 1, 1, 0, 0, 0) := by decide +kernel
theorem c_78_5 : zcode 78 5 = some (.invokevirtual 161, 3, 26, 0, 2143) := by decide +kernel
theorem c_78_8 : zcode 78 8 = some (.ifCond .ne 5, 3, 13, 0, 0) := by decide +kernel
theorem c_78_11 : zcode 78 11 = some (.iconst (-1), 1, 0, 0, 0) := by decide +kernel
theorem c_78_12 : zcode 78 12 = some (.ireturn, 1, 0, 0, 0) := by decide +kernel
theorem c_78_13 : zcode 78 13 = some (.aload_n 0, 1, 0, 0, 0) := by decide +kernel
theorem c_78_14 : zcode 78 14 = some (.getfield 35, 3, 7, 4, 1197) := by decide +kernel
theorem c_78_17 : zcode 78 17 = some (.aload_n 0, 1, 0, 0, 0) := by decide +kernel
theorem c_78_18 : zcode 78 18 = some (.getfield 31, 3, 7, 3, 1196) := by decide +kernel
theorem c_78_21 : zcode 78 21 = some (.invokevirtual 200, 3, 43, 0, 2218) := by decide +kernel
theorem c_78_24 : zcode 78 24 = some (.aload_n 0, 1, 0, 0, 0) := by decide +kernel
theorem c_78_25 : zcode 78 25 = some (.aload_n 0, 1, 0, 0, 0) := by decide +kernel
theorem c_78_26 : zcode 78 26 = some (.getfield 35, 3, 7, 4, 1197) := by decide +kernel
theorem c_78_29 : zcode 78 29 = some (.aload_n 0, 1, 0, 0, 0) := by decide +kernel
theorem c_78_30 : zcode 78 30 = some (.getfield 21, 3, 7, 1, 1194) := by decide +kernel
theorem c_78_33 : zcode 78 33 = some (.iload_n 1, 1, 0, 0, 0) := by decide +kernel
theorem c_78_34 : zcode 78 34 = some (.invokevirtual 203, 3, 51, 0, 2219) := by decide +kernel
theorem c_78_37 : zcode 78 37 = some (.invokevirtual 207, 3, 81, 0, 2228) := by decide +kernel
theorem c_78_40 : zcode 78 40 = some (.ireturn, 1, 0, 0, 0) := by decide +kernel
theorem c_79_0 : zcode 79 0 = some (.aload_n 0, 1, 0, 0, 0) := by decide +kernel
theorem c_79_1 : zcode 79 1 = some (.getfield 35, 3, 7, 4, 1197) := by decide +kernel
theorem c_79_4 : zcode 79 4 = some (.aload_n 0, 1, 0, 0, 0) := by decide +kernel
theorem c_79_5 : zcode 79 5 = some (.getfield 31, 3, 7, 3, 1196) := by decide +kernel
theorem c_79_8 : zcode 79 8 = some (.invokevirtual 200, 3, 43, 0, 2218) := by decide +kernel
theorem c_79_11 : zcode 79 11 = some (.aload_n 0, 1, 0, 0, 0) := by decide +kernel
theorem c_79_12 : zcode 79 12 = some (.aload_n 0, 1, 0, 0, 0) := by decide +kernel
theorem c_79_13 : zcode 79 13 = some (.getfield 35, 3, 7, 4, 1197) := by decide +kernel
theorem c_79_16 : zcode 79 16 = some (.aload_n 0, 1, 0, 0, 0) := by decide +kernel
theorem c_79_17 : zcode 79 17 = some (.getfield 21, 3, 7, 1, 1194) := by decide +kernel
theorem c_79_20 : zcode 79 20 = some (.invokevirtual 211, 3, 52, 0, 2236) := by decide +kernel
theorem c_79_23 : zcode 79 23 = some (.invokevirtual 207, 3, 81, 0, 2228) := by decide +kernel
theorem c_79_26 : zcode 79 26 = some (.ireturn, 1, 0, 0, 0) := by decide +kernel
theorem c_80_0 : zcode 80 0 = some (.iload_n 1, 1, 0, 0, 0) := by decide +kernel
theorem c_80_1 : zcode 80 1 = some (.iconst 1, 1, 0, 0, 0) := by decide +kernel
theorem c_80_2 : zcode 80 2 = some (.if_icmp .lt 9, 3, 11, 0, 0) := by decide +kernel
theorem c_80_5 : zcode 80 5 = some (.iload_n 1, 1, 0, 0, 0) := by decide +kernel
theorem c_80_6 : zcode 80 6 = some (.bipush 9, 2, 0, 0, 0) := by decide +kernel
theorem c_80_8 : zcode 80 8 = some (.if_icmp .le 6, 3, 14, 0, 0) := by decide +kernel
theorem c_80_11 : zcode 80 11 = some (.bipush (-2), 2, 0, 0, 0) := by decide +kernel
theorem c_80_13 : zcode 80 13 = some (.ireturn, 1, 0, 0, 0) := by decide +kernel
theorem c_80_14 : zcode 80 14 = some (.aload_n 0, 1, 0, 0, 0) := by decide +kernel
theorem c_80_15 : zcode 80 15 = some (.getfield 35, 3, 7, 4, 1197) := by decide +kernel
theorem c_80_18 : zcode 80 18 = some (.aload_n 0, 1, 0, 0, 0) := by decide +kernel
theorem c_80_19 : zcode 80 19 = some (.getfield 31, 3, 7, 3, 1196) := by decide +kernel
theorem c_80_22 : zcode 80 22 = some (.invokevirtual 200, 3, 43, 0, 2218) := by decide +kernel
theorem c_80_25 : zcode 80 25 = some (.aload_n 0, 1, 0, 0, 0) := by decide +kernel
theorem c_80_26 : zcode 80 26 = some (.aload_n 0, 1, 0, 0, 0) := by decide +kernel
theorem c_80_27 : zcode 80 27 = some (.getfield 35, 3, 7, 4, 1197) := by decide +kernel
theorem c_80_30 : zcode 80 30 = some (.iload_n 1, 1, 0, 0, 0) := by decide +kernel
theorem c_80_31 : zcode 80 31 = some (.invokevirtual 214, 3, 53, 0, 3004) := by decide +kernel
theorem c_80_34 : zcode 80 34 = some (.invokevirtual 207, 3, 81, 0, 2228) := by decide +kernel
theorem c_80_37 : zcode 80 37 = some (.ireturn, 1, 0, 0, 0) := by decide +kernel
theorem c_81_0 : zcode 81 0 = some (.iload_n 1, 1, 0, 0, 0) := by decide +kernel
theorem c_81_1 : zcode 81 1 = some (.ifCond .ne 6, 3, 7, 0, 0) := by decide +kernel
theorem c_81_4 : zcode 81 4 = some (.bipush (-3), 2, 0, 0, 0) := by decide +kernel
theorem c_81_6 : zcode 81 6 = some (.ireturn, 1, 0, 0, 0) := by decide +kernel
theorem c_81_7 : zcode 81 7 = some (.aload_n 0, 1, 0, 0, 0) := by decide +kernel
theorem c_81_8 : zcode 81 8 = some (.getfield 41, 3, 7, 5, 1198) := by decide +kernel
theorem c_81_11 : zcode 81 11 = some (.aload_n 0, 1, 0, 0, 0) := by decide +kernel
theorem c_81_12 : zcode 81 12 = some (.getfield 31, 3, 7, 3, 1196) := by decide +kernel
theorem c_81_15 : zcode 81 15 = some (.invokevirtual 192, 3, 3, 0, 2183) := by decide +kernel
theorem c_81_18 : zcode 81 18 = some (.aload_n 0, 1, 0, 0, 0) := by decide +kernel
theorem c_81_19 : zcode 81 19 = some (.getfield 31, 3, 7, 3, 1196) := by decide +kernel
theorem c_81_22 : zcode 81 22 = some (.aload_n 0, 1, 0, 0, 0) := by decide +kernel
theorem c_81_23 : zcode 81 23 = some (.getfield 35, 3, 7, 4, 1197) := by decide +kernel
theorem c_81_26 : zcode 81 26 = some (.invokevirtual 200, 3, 43, 0, 2218) := by decide +kernel
theorem c_81_29 : zcode 81 29 = some (.aload_n 0, 1, 0, 0, 0) := by decide +kernel
theorem c_81_30 : zcode 81 30 = some (.getfield 31, 3, 7, 3, 1196) := by decide +kernel
theorem c_81_33 : zcode 81 33 = some (.getfield 123, 3, 4, 2, 1100) := by decide +kernel
theorem c_81_36 : zcode 81 36 = some (.ireturn, 1, 0, 0, 0) := by decide +kernel
theorem c_82_0 : zcode 82 0 = some (.aload_n 0, 1, 0, 0, 0) := by decide +kernel
theorem c_82_1 : zcode 82 1 = some (.getfield 41, 3, 7, 5, 1198) := by decide +kernel
theorem c_82_4 : zcode 82 4 = some (.aload_n 0, 1, 0, 0, 0) := by decide +kernel
theorem c_82_5 : zcode 82 5 = some (.getfield 31, 3, 7, 3, 1196) := by decide +kernel
theorem c_82_8 : zcode 82 8 = some (.invokevirtual 217, 3, 4, 0, 3013) := by decide +kernel
theorem c_82_11 : zcode 82 11 = some (.ifCond .eq 13, 3, 24, 0, 0) := by decide +kernel
theorem c_82_14 : zcode 82 14 = some (.aload_n 0, 1, 0, 0, 0) := by decide +kernel
theorem c_82_15 : zcode 82 15 = some (.getfield 41, 3, 7, 5, 1198) := by decide +kernel
theorem c_82_18 : zcode 82 18 = some (.invokevirtual 111, 3, 1, 0, 2072) := by decide +kernel
theorem c_82_21 : zcode 82 21 = some (.goto 5, 3, 26, 0, 0) := by decide +kernel
theorem c_82_24 : zcode 82 24 = some (.bipush (-3), 2, 0, 0, 0) := by decide +kernel
theorem c_82_26 : zcode 82 26 = some (.ireturn, 1, 0, 0, 0) := by decide +kernel
theorem c_83_0 : zcode 83 0 = some (.aload_n 0, 1, 0, 0, 0) := by decide +kernel
theorem c_83_1 : zcode 83 1 = some (.getfield 55, 3, 7, 7, 1200) := by decide +kernel
theorem c_83_4 : zcode 83 4 = some (.aload_n 0, 1, 0, 0, 0) := by decide +kernel
theorem c_83_5 : zcode 83 5 = some (.getfield 21, 3, 7, 1, 1194) := by decide +kernel
theorem c_83_8 : zcode 83 8 = some (.aload_n 0, 1, 0, 0, 0) := by decide +kernel
theorem c_83_9 : zcode 83 9 = some (.getfield 31, 3, 7, 3, 1196) := by decide +kernel
theorem c_83_12 : zcode 83 12 = some (.invokevirtual 221, 3, 7, 0, 3025) := by decide +kernel
theorem c_83_15 : zcode 83 15 = some (.aload_n 0, 1, 0, 0, 0) := by decide +kernel
theorem c_83_16 : zcode 83 16 = some (.getfield 55, 3, 7, 7, 1200) := by decide +kernel
theorem c_83_19 : zcode 83 19 = some (.aload_n 0, 1, 0, 0, 0) := by decide +kernel
theorem c_83_20 : zcode 83 20 = some (.getfield 21, 3, 7, 1, 1194) := by decide +kernel
theorem c_83_23 : zcode 83 23 = some (.invokevirtual 225, 3, 10, 0, 3057) := by decide +kernel
theorem c_83_26 : zcode 83 26 = some (.ifCond .ne 6, 3, 32, 0, 0) := by decide +kernel
theorem c_83_29 : zcode 83 29 = some (.bipush (-9), 2, 0, 0, 0) := by decide +kernel
theorem c_83_31 : zcode 83 31 = some (.ireturn, 1, 0, 0, 0) := by decide +kernel
theorem c_83_32 : zcode 83 32 = some (.iload_n 1, 1, 0, 0, 0) := by decide +kernel
theorem c_83_33 : zcode 83 33 = some (.ifCond .eq 13, 3, 46, 0, 0) := by decide +kernel
theorem c_83_36 : zcode 83 36 = some (.aload_n 0, 1, 0, 0, 0) := by decide +kernel
theorem c_83_37 : zcode 83 37 = some (.getfield 55, 3, 7, 7, 1200) := by decide +kernel
theorem c_83_40 : zcode 83 40 = some (.getfield 228, 3, 1, 5, 1177) := by decide +kernel
theorem c_83_43 : zcode 83 43 = some (.goto 25, 3, 68, 0, 0) := by decide +kernel
theorem c_83_46 : zcode 83 46 = some (.aload_n 0, 1, 0, 0, 0) := by decide +kernel
theorem c_83_47 : zcode 83 47 = some (.getfield 55, 3, 7, 7, 1200) := by decide +kernel
theorem c_83_50 : zcode 83 50 = some (.getfield 230, 3, 1, 3, 1173) := by decide +kernel
theorem c_83_53 : zcode 83 53 = some (.aload_n 0, 1, 0, 0, 0) := by decide +kernel
theorem c_83_54 : zcode 83 54 = some (.getfield 21, 3, 7, 1, 1194) := by decide +kernel
theorem c_83_57 : zcode 83 57 = some (.aload_n 0, 1, 0, 0, 0) := by decide +kernel
theorem c_83_58 : zcode 83 58 = some (.getfield 31, 3, 7, 3, 1196) := by decide +kernel
theorem c_83_61 : zcode 83 61 = some (.invokevirtual 127, 3, 46, 0, 2090) := by decide +kernel
theorem c_83_64 : zcode 83 64 = some (.invokevirtual 130, 3, 30, 0, 2095) := by decide +kernel
theorem c_83_67 : zcode 83 67 = some (.iadd, 1, 0, 0, 0) := by decide +kernel
theorem c_83_68 : zcode 83 68 = some (.ireturn, 1, 0, 0, 0) := by decide +kernel
theorem c_84_0 : zcode 84 0 = some (.aload_n 0, 1, 0, 0, 0) := by decide +kernel
theorem c_84_1 : zcode 84 1 = some (.getfield 55, 3, 7, 7, 1200) := by decide +kernel
theorem c_84_4 : zcode 84 4 = some (.aload_n 0, 1, 0, 0, 0) := by decide +kernel
theorem c_84_5 : zcode 84 5 = some (.getfield 21, 3, 7, 1, 1194) := by decide +kernel
theorem c_84_8 : zcode 84 8 = some (.aload_n 0, 1, 0, 0, 0) := by decide +kernel
theorem c_84_9 : zcode 84 9 = some (.getfield 31, 3, 7, 3, 1196) := by decide +kernel
theorem c_84_12 : zcode 84 12 = some (.invokevirtual 221, 3, 7, 0, 3025) := by decide +kernel
theorem c_84_15 : zcode 84 15 = some (.aload_n 0, 1, 0, 0, 0) := by decide +kernel
theorem c_84_16 : zcode 84 16 = some (.getfield 55, 3, 7, 7, 1200) := by decide +kernel
theorem c_84_19 : zcode 84 19 = some (.invokevirtual 232, 3, 11, 0, 3078) := by decide +kernel
theorem c_84_22 : zcode 84 22 = some (.ifCond .ne 6, 3, 28, 0, 0) := by decide +kernel
theorem c_84_25 : zcode 84 25 = some (.bipush (-9), 2, 0, 0, 0) := by decide +kernel
theorem c_84_27 : zcode 84 27 = some (.ireturn, 1, 0, 0, 0) := by decide +kernel
theorem c_84_28 : zcode 84 28 = some (.iload_n 1, 1, 0, 0, 0) := by decide +kernel
theorem c_84_29 : zcode 84 29 = some (.ifCond .eq 13, 3, 42, 0, 0) := by decide +kernel
theorem c_84_32 : zcode 84 32 = some (.aload_n 0, 1, 0, 0, 0) := by decide +kernel
theorem c_84_33 : zcode 84 33 = some (.getfield 55, 3, 7, 7, 1200) := by decide +kernel
theorem c_84_36 : zcode 84 36 = some (.getfield 228, 3, 1, 5, 1177) := by decide +kernel
theorem c_84_39 : zcode 84 39 = some (.goto 10, 3, 49, 0, 0) := by decide +kernel
theorem c_84_42 : zcode 84 42 = some (.aload_n 0, 1, 0, 0, 0) := by decide +kernel
theorem c_84_43 : zcode 84 43 = some (.getfield 55, 3, 7, 7, 1200) := by decide +kernel
theorem c_84_46 : zcode 84 46 = some (.getfield 235, 3, 1, 4, 1175) := by decide +kernel
theorem c_84_49 : zcode 84 49 = some (.ireturn, 1, 0, 0, 0) := by decide +kernel
theorem c_85_0 : zcode 85 0 = some (.aload_n 0, 1, 0, 0, 0) := by decide +kernel
theorem c_85_1 : zcode 85 1 = some (.getfield 21, 3, 7, 1, 1194) := by decide +kernel
theorem c_85_4 : zcode 85 4 = some (.iload_n 1, 1, 0, 0, 0) := by decide +kernel
theorem c_85_5 : zcode 85 5 = some (.invokevirtual 137, 3, 24, 0, 2118) := by decide +kernel
theorem c_85_8 : zcode 85 8 = some (.ifCond .ne 5, 3, 13, 0, 0) := by decide +kernel
theorem c_85_11 : zcode 85 11 = some (.iconst (-1), 1, 0, 0, 0) := by decide +kernel
theorem c_85_12 : zcode 85 12 = some (.ireturn, 1, 0, 0, 0) := by decide +kernel
theorem c_85_13 : zcode 85 13 = some (.iconst 0, 1, 0, 0, 0) := by decide +kernel
theorem c_85_14 : zcode 85 14 = some (.istore_n 2, 1, 0, 0, 0) := by decide +kernel
theorem c_85_15 : zcode 85 15 = some (.iconst 0, 1, 0, 0, 0) := by decide +kernel
theorem c_85_16 : zcode 85 16 = some (.istore_n 3, 1, 0, 0, 0) := by decide +kernel
theorem c_85_17 : zcode 85 17 = some (.iload_n 3, 1, 0, 0, 0) := by decide +kernel
theorem c_85_18 : zcode 85 18 = some (.aload_n 0, 1, 0, 0, 0) := by decide +kernel
theorem c_85_19 : zcode 85 19 = some (.getfield 21, 3, 7, 1, 1194) := by decide +kernel
theorem c_85_22 : zcode 85 22 = some (.invokevirtual 105, 3, 22, 0, 2060) := by decide +kernel
theorem c_85_25 : zcode 85 25 = some (.if_icmp .ge 24, 3, 49, 0, 0) := by decide +kernel
theorem c_85_28 : zcode 85 28 = some (.aload_n 0, 1, 0, 0, 0) := by decide +kernel
theorem c_85_29 : zcode 85 29 = some (.iload_n 3, 1, 0, 0, 0) := by decide +kernel
theorem c_85_30 : zcode 85 30 = some (.iload_n 1, 1, 0, 0, 0) := by decide +kernel
theorem c_85_31 : zcode 85 31 = some (.invokevirtual 237, 3, 86, 0, 3086) := by decide +kernel
theorem c_85_34 : zcode 85 34 = some (.ifCond .eq 9, 3, 43, 0, 0) := by decide +kernel
theorem c_85_37 : zcode 85 37 = some (.iload_n 2, 1, 0, 0, 0) := by decide +kernel
theorem c_85_38 : zcode 85 38 = some (.iconst 1, 1, 0, 0, 0) := by decide +kernel
theorem c_85_39 : zcode 85 39 = some (.iload_n 3, 1, 0, 0, 0) := by decide +kernel
theorem c_85_40 : zcode 85 40 = some (.ishl, 1, 0, 0, 0) := by decide +kernel
theorem c_85_41 : zcode 85 41 = some (.ior, 1, 0, 0, 0) := by decide +kernel
theorem c_85_42 : zcode 85 42 = some (.istore_n 2, 1, 0, 0, 0) := by decide +kernel
theorem c_85_43 : zcode 85 43 = some (.iinc 3 1, 3, 0, 0, 0) := by decide +kernel
theorem c_85_46 : zcode 85 46 = some (.goto (-29), 3, 17, 0, 0) := by decide +kernel
theorem c_85_49 : zcode 85 49 = some (.iload_n 2, 1, 0, 0, 0) := by decide +kernel
theorem c_85_50 : zcode 85 50 = some (.ireturn, 1, 0, 0, 0) := by decide +kernel
theorem c_86_0 : zcode 86 0 = some (.aload_n 0, 1, 0, 0, 0) := by decide +kernel
theorem c_86_1 : zcode 86 1 = some (.getfield 35, 3, 7, 4, 1197) := by decide +kernel
theorem c_86_4 : zcode 86 4 = some (.aload_n 0, 1, 0, 0, 0) := by decide +kernel
theorem c_86_5 : zcode 86 5 = some (.getfield 21, 3, 7, 1, 1194) := by decide +kernel
theorem c_86_8 : zcode 86 8 = some (.iload_n 2, 1, 0, 0, 0) := by decide +kernel
theorem c_86_9 : zcode 86 9 = some (.iload_n 1, 1, 0, 0, 0) := by decide +kernel
theorem c_86_10 : zcode 86 10 = some (.invokevirtual 196, 3, 42, 0, 2209) := by decide +kernel
theorem c_86_13 : zcode 86 13 = some (.aload_n 0, 1, 0, 0, 0) := by decide +kernel
theorem c_86_14 : zcode 86 14 = some (.getfield 55, 3, 7, 7, 1200) := by decide +kernel
theorem c_86_17 : zcode 86 17 = some (.aload_n 0, 1, 0, 0, 0) := by decide +kernel
theorem c_86_18 : zcode 86 18 = some (.getfield 21, 3, 7, 1, 1194) := by decide +kernel
theorem c_86_21 : zcode 86 21 = some (.aload_n 0, 1, 0, 0, 0) := by decide +kernel
theorem c_86_22 : zcode 86 22 = some (.getfield 35, 3, 7, 4, 1197) := by decide +kernel
theorem c_86_25 : zcode 86 25 = some (.invokevirtual 221, 3, 7, 0, 3025) := by decide +kernel
theorem c_86_28 : zcode 86 28 = some (.aload_n 0, 1, 0, 0, 0) := by decide +kernel
theorem c_86_29 : zcode 86 29 = some (.getfield 55, 3, 7, 7, 1200) := by decide +kernel
theorem c_86_32 : zcode 86 32 = some (.invokevirtual 232, 3, 11, 0, 3078) := by decide +kernel
theorem c_86_35 : zcode 86 35 = some (.ireturn, 1, 0, 0, 0) := by decide +kernel
theorem c_87_0 : zcode 87 0 = some (.aload_n 0, 1, 0, 0, 0) := by decide +kernel
theorem c_87_1 : zcode 87 1 = some (.getfield 21, 3, 7, 1, 1194) := by decide +kernel
theorem c_87_4 : zcode 87 4 = some (.iload_n 1, 1, 0, 0, 0) := by decide +kernel
theorem c_87_5 : zcode 87 5 = some (.invokevirtual 152, 3, 25, 0, 2135) := by decide +kernel
theorem c_87_8 : zcode 87 8 = some (.ifCond .ne 5, 3, 13, 0, 0) := by decide +kernel
theorem c_87_11 : zcode 87 11 = some (.iconst (-1), 1, 0, 0, 0) := by decide +kernel
theorem c_87_12 : zcode 87 12 = some (.ireturn, 1, 0, 0, 0) := by decide +kernel
theorem c_87_13 : zcode 87 13 = some (.bipush (-9), 2, 0, 0, 0) := by decide +kernel
theorem c_87_15 : zcode 87 15 = some (.istore_n 2, 1, 0, 0, 0) := by decide +kernel
theorem c_87_16 : zcode 87 16 = some (.iconst 0, 1, 0, 0, 0) := by decide +kernel
theorem c_87_17 : zcode 87 17 = some (.istore_n 3, 1, 0, 0, 0) := by decide +kernel
theorem c_87_18 : zcode 87 18 = some (.iload_n 3, 1, 0, 0, 0) := by decide +kernel
theorem c_87_19 : zcode 87 19 = some (.aload_n 0, 1, 0, 0, 0) := by decide +kernel
theorem c_87_20 : zcode 87 20 = some (.getfield 21, 3, 7, 1, 1194) := by decide +kernel
theorem c_87_23 : zcode 87 23 = some (.invokevirtual 102, 3, 21, 0, 2056) := by decide +kernel
theorem c_87_26 : zcode 87 26 = some (.if_icmp .ge 57, 3, 83, 0, 0) := by decide +kernel
theorem c_87_29 : zcode 87 29 = some (.iload_n 2, 1, 0, 0, 0) := by decide +kernel
theorem c_87_30 : zcode 87 30 = some (.bipush (-9), 2, 0, 0, 0) := by decide +kernel
theorem c_87_32 : zcode 87 32 = some (.if_icmp .eq 22, 3, 54, 0, 0) := by decide +kernel
theorem c_87_35 : zcode 87 35 = some (.aload_n 0, 1, 0, 0, 0) := by decide +kernel
theorem c_87_36 : zcode 87 36 = some (.getfield 21, 3, 7, 1, 1194) := by decide +kernel
theorem c_87_39 : zcode 87 39 = some (.iload_n 3, 1, 0, 0, 0) := by decide +kernel
theorem c_87_40 : zcode 87 40 = some (.invokevirtual 149, 3, 27, 0, 2127) := by decide +kernel
theorem c_87_43 : zcode 87 43 = some (.aload_n 0, 1, 0, 0, 0) := by decide +kernel
theorem c_87_44 : zcode 87 44 = some (.getfield 21, 3, 7, 1, 1194) := by decide +kernel
theorem c_87_47 : zcode 87 47 = some (.iload_n 2, 1, 0, 0, 0) := by decide +kernel
theorem c_87_48 : zcode 87 48 = some (.invokevirtual 149, 3, 27, 0, 2127) := by decide +kernel
theorem c_87_51 : zcode 87 51 = some (.if_icmp .ge 7, 3, 58, 0, 0) := by decide +kernel
theorem c_87_54 : zcode 87 54 = some (.iconst 1, 1, 0, 0, 0) := by decide +kernel
theorem c_87_55 : zcode 87 55 = some (.goto 4, 3, 59, 0, 0) := by decide +kernel
theorem c_87_58 : zcode 87 58 = some (.iconst 0, 1, 0, 0, 0) := by decide +kernel
theorem c_87_59 : zcode 87 59 = some (.istore 4, 2, 0, 0, 0) := by decide +kernel
theorem c_87_61 : zcode 87 61 = some (.iload 4, 2, 0, 0, 0) := by decide +kernel
theorem c_87_63 : zcode 87 63 = some (.ifCond .eq 14, 3, 77, 0, 0) := by decide +kernel
theorem c_87_66 : zcode 87 66 = some (.aload_n 0, 1, 0, 0, 0) := by decide +kernel
theorem c_87_67 : zcode 87 67 = some (.iload_n 1, 1, 0, 0, 0) := by decide +kernel
theorem c_87_68 : zcode 87 68 = some (.iload_n 3, 1, 0, 0, 0) := by decide +kernel
theorem c_87_69 : zcode 87 69 = some (.invokevirtual 237, 3, 86, 0, 3086) := by decide +kernel
theorem c_87_72 : zcode 87 72 = some (.ifCond .eq 5, 3, 77, 0, 0) := by decide +kernel
theorem c_87_75 : zcode 87 75 = some (.iload_n 3, 1, 0, 0, 0) := by decide +kernel
theorem c_87_76 : zcode 87 76 = some (.istore_n 2, 1, 0, 0, 0) := by decide +kernel
theorem c_87_77 : zcode 87 77 = some (.iinc 3 1, 3, 0, 0, 0) := by decide +kernel
theorem c_87_80 : zcode 87 80 = some (.goto (-62), 3, 18, 0, 0) := by decide +kernel
theorem c_87_83 : zcode 87 83 = some (.iload_n 2, 1, 0, 0, 0) := by decide +kernel
theorem c_87_84 : zcode 87 84 = some (.ireturn, 1, 0, 0, 0) := by decide +kernel
theorem c_88_0 : zcode 88 0 = some (.iconst 0, 1, 0, 0, 0) := by decide +kernel
theorem c_88_1 : zcode 88 1 = some (.istore_n 2, 1, 0, 0, 0) := by decide +kernel
theorem c_88_2 : zcode 88 2 = some (.iconst 1, 1, 0, 0, 0) := by decide +kernel
theorem c_88_3 : zcode 88 3 = some (.istore_n 3, 1, 0, 0, 0) := by decide +kernel
theorem c_88_4 : zcode 88 4 = some (.iconst 0, 1, 0, 0, 0) := by decide +kernel
theorem c_88_5 : zcode 88 5 = some (.istore 4, 2, 0, 0, 0) := by decide +kernel
theorem c_88_7 : zcode 88 7 = some (.iload 4, 2, 0, 0, 0) := by decide +kernel
theorem c_88_9 : zcode 88 9 = some (.aload_n 0, 1, 0, 0, 0) := by decide +kernel
theorem c_88_10 : zcode 88 10 = some (.getfield 21, 3, 7, 1, 1194) := by decide +kernel
theorem c_88_13 : zcode 88 13 = some (.invokevirtual 105, 3, 22, 0, 2060) := by decide +kernel
theorem c_88_16 : zcode 88 16 = some (.if_icmp .ge 57, 3, 73, 0, 0) := by decide +kernel
theorem c_88_19 : zcode 88 19 = some (.iload_n 3, 1, 0, 0, 0) := by decide +kernel
theorem c_88_20 : zcode 88 20 = some (.iconst 5, 1, 0, 0, 0) := by decide +kernel
theorem c_88_21 : zcode 88 21 = some (.imul, 1, 0, 0, 0) := by decide +kernel
theorem c_88_22 : zcode 88 22 = some (.istore_n 3, 1, 0, 0, 0) := by decide +kernel
theorem c_88_23 : zcode 88 23 = some (.iconst 0, 1, 0, 0, 0) := by decide +kernel
theorem c_88_24 : zcode 88 24 = some (.istore 5, 2, 0, 0, 0) := by decide +kernel
theorem c_88_26 : zcode 88 26 = some (.iload 5, 2, 0, 0, 0) := by decide +kernel
theorem c_88_28 : zcode 88 28 = some (.aload_n 0, 1, 0, 0, 0) := by decide +kernel
theorem c_88_29 : zcode 88 29 = some (.getfield 21, 3, 7, 1, 1194) := by decide +kernel
theorem c_88_32 : zcode 88 32 = some (.invokevirtual 102, 3, 21, 0, 2056) := by decide +kernel
theorem c_88_35 : zcode 88 35 = some (.if_icmp .ge 32, 3, 67, 0, 0) := by decide +kernel
theorem c_88_38 : zcode 88 38 = some (.aload_n 0, 1, 0, 0, 0) := by decide +kernel
theorem c_88_39 : zcode 88 39 = some (.iload 4, 2, 0, 0, 0) := by decide +kernel
theorem c_88_41 : zcode 88 41 = some (.iload 5, 2, 0, 0, 0) := by decide +kernel
theorem c_88_43 : zcode 88 43 = some (.invokevirtual 237, 3, 86, 0, 3086) := by decide +kernel
theorem c_88_46 : zcode 88 46 = some (.ifCond .eq 15, 3, 61, 0, 0) := by decide +kernel
theorem c_88_49 : zcode 88 49 = some (.iload_n 2, 1, 0, 0, 0) := by decide +kernel
theorem c_88_50 : zcode 88 50 = some (.iconst 1, 1, 0, 0, 0) := by decide +kernel
theorem c_88_51 : zcode 88 51 = some (.iload 4, 2, 0, 0, 0) := by decide +kernel
theorem c_88_53 : zcode 88 53 = some (.iload 5, 2, 0, 0, 0) := by decide +kernel
theorem c_88_55 : zcode 88 55 = some (.invokestatic 241, 3, 89, 0, 3098) := by decide +kernel
theorem c_88_58 : zcode 88 58 = some (.ishl, 1, 0, 0, 0) := by decide +kernel
theorem c_88_59 : zcode 88 59 = some (.ior, 1, 0, 0, 0) := by decide +kernel
theorem c_88_60 : zcode 88 60 = some (.istore_n 2, 1, 0, 0, 0) := by decide +kernel
theorem c_88_61 : zcode 88 61 = some (.iinc 5 1, 3, 0, 0, 0) := by decide +kernel
theorem c_88_64 : zcode 88 64 = some (.goto (-38), 3, 26, 0, 0) := by decide +kernel
theorem c_88_67 : zcode 88 67 = some (.iinc 4 1, 3, 0, 0, 0) := by decide +kernel
theorem c_88_70 : zcode 88 70 = some (.goto (-63), 3, 7, 0, 0) := by decide +kernel
theorem c_88_73 : zcode 88 73 = some (.iconst 0, 1, 0, 0, 0) := by decide +kernel
theorem c_88_74 : zcode 88 74 = some (.istore 4, 2, 0, 0, 0) := by decide +kernel
theorem c_88_76 : zcode 88 76 = some (.iconst 0, 1, 0, 0, 0) := by decide +kernel
theorem c_88_77 : zcode 88 77 = some (.istore 5, 2, 0, 0, 0) := by decide +kernel
theorem c_88_79 : zcode 88 79 = some (.iconst 0, 1, 0, 0, 0) := by decide +kernel
theorem c_88_80 : zcode 88 80 = some (.istore 6, 2, 0, 0, 0) := by decide +kernel
theorem c_88_82 : zcode 88 82 = some (.iload 6, 2, 0, 0, 0) := by decide +kernel
theorem c_88_84 : zcode 88 84 = some (.iload_n 3, 1, 0, 0, 0) := by decide +kernel
theorem c_88_85 : zcode 88 85 = some (.if_icmp .ge 34, 3, 119, 0, 0) := by decide +kernel
theorem c_88_88 : zcode 88 88 = some (.aload_n 0, 1, 0, 0, 0) := by decide +kernel
theorem c_88_89 : zcode 88 89 = some (.iload 6, 2, 0, 0, 0) := by decide +kernel
theorem c_88_91 : zcode 88 91 = some (.iload_n 3, 1, 0, 0, 0) := by decide +kernel
theorem c_88_92 : zcode 88 92 = some (.iload_n 2, 1, 0, 0, 0) := by decide +kernel
theorem c_88_93 : zcode 88 93 = some (.invokevirtual 245, 3, 90, 0, 3101) := by decide +kernel
theorem c_88_96 : zcode 88 96 = some (.istore 7, 2, 0, 0, 0) := by decide +kernel
theorem c_88_98 : zcode 88 98 = some (.iload 7, 2, 0, 0, 0) := by decide +kernel
theorem c_88_100 : zcode 88 100 = some (.iload 4, 2, 0, 0, 0) := by decide +kernel
theorem c_88_102 : zcode 88 102 = some (.if_icmp .le 11, 3, 113, 0, 0) := by decide +kernel
theorem c_88_105 : zcode 88 105 = some (.iload 7, 2, 0, 0, 0) := by decide +kernel
theorem c_88_107 : zcode 88 107 = some (.istore 4, 2, 0, 0, 0) := by decide +kernel
theorem c_88_109 : zcode 88 109 = some (.iload 6, 2, 0, 0, 0) := by decide +kernel
theorem c_88_111 : zcode 88 111 = some (.istore 5, 2, 0, 0, 0) := by decide +kernel
theorem c_88_113 : zcode 88 113 = some (.iinc 6 1, 3, 0, 0, 0) := by decide +kernel
theorem c_88_116 : zcode 88 116 = some (.goto (-34), 3, 82, 0, 0) := by decide +kernel
theorem c_88_119 : zcode 88 119 = some (.iload_n 1, 1, 0, 0, 0) := by decide +kernel
theorem c_88_120 : zcode 88 120 = some (.ifCond .eq 13, 3, 133, 0, 0) := by decide +kernel
theorem c_88_123 : zcode 88 123 = some (.aload_n 0, 1, 0, 0, 0) := by decide +kernel
theorem c_88_124 : zcode 88 124 = some (.iload 5, 2, 0, 0, 0) := by decide +kernel
theorem c_88_126 : zcode 88 126 = some (.iload_n 3, 1, 0, 0, 0) := by decide +kernel
theorem c_88_127 : zcode 88 127 = some (.invokevirtual 249, 3, 91, 0, 3109) := by decide +kernel
theorem c_88_130 : zcode 88 130 = some (.goto 5, 3, 135, 0, 0) := by decide +kernel
theorem c_88_133 : zcode 88 133 = some (.iload 4, 2, 0, 0, 0) := by decide +kernel
theorem c_88_135 : zcode 88 135 = some (.ireturn, 1, 0, 0, 0) := by decide +kernel
theorem c_89_0 : zcode 89 0 = some (.iload_n 0, 1, 0, 0, 0) := by decide +kernel
theorem c_89_1 : zcode 89 1 = some (.iconst 4, 1, 0, 0, 0) := by decide +kernel
theorem c_89_2 : zcode 89 2 = some (.imul, 1, 0, 0, 0) := by decide +kernel
theorem c_89_3 : zcode 89 3 = some (.iload_n 1, 1, 0, 0, 0) := by decide +kernel
theorem c_89_4 : zcode 89 4 = some (.iadd, 1, 0, 0, 0) := by decide +kernel
theorem c_89_5 : zcode 89 5 = some (.ireturn, 1, 0, 0, 0) := by decide +kernel
theorem c_90_0 : zcode 90 0 = some (.iload_n 2, 1, 0, 0, 0) := by decide +kernel
theorem c_90_1 : zcode 90 1 = some (.istore 4, 2, 0, 0, 0) := by decide +kernel
theorem c_90_3 : zcode 90 3 = some (.iconst 0, 1, 0, 0, 0) := by decide +kernel
theorem c_90_4 : zcode 90 4 = some (.istore 5, 2, 0, 0, 0) := by decide +kernel
theorem c_90_6 : zcode 90 6 = some (.iconst 0, 1, 0, 0, 0) := by decide +kernel
theorem c_90_7 : zcode 90 7 = some (.istore 6, 2, 0, 0, 0) := by decide +kernel
theorem c_90_9 : zcode 90 9 = some (.iconst 0, 1, 0, 0, 0) := by decide +kernel
theorem c_90_10 : zcode 90 10 = some (.istore 7, 2, 0, 0, 0) := by decide +kernel
theorem c_90_12 : zcode 90 12 = some (.iload 7, 2, 0, 0, 0) := by decide +kernel
theorem c_90_14 : zcode 90 14 = some (.aload_n 0, 1, 0, 0, 0) := by decide +kernel
theorem c_90_15 : zcode 90 15 = some (.getfield 21, 3, 7, 1, 1194) := by decide +kernel
theorem c_90_18 : zcode 90 18 = some (.invokevirtual 105, 3, 22, 0, 2060) := by decide +kernel
theorem c_90_21 : zcode 90 21 = some (.if_icmp .ge 73, 3, 94, 0, 0) := by decide +kernel
theorem c_90_24 : zcode 90 24 = some (.iload 4, 2, 0, 0, 0) := by decide +kernel
theorem c_90_26 : zcode 90 26 = some (.iconst 5, 1, 0, 0, 0) := by decide +kernel
theorem c_90_27 : zcode 90 27 = some (.idiv, 1, 0, 0, 0) := by decide +kernel
theorem c_90_28 : zcode 90 28 = some (.istore 4, 2, 0, 0, 0) := by decide +kernel
theorem c_90_30 : zcode 90 30 = some (.iload_n 1, 1, 0, 0, 0) := by decide +kernel
theorem c_90_31 : zcode 90 31 = some (.iload 4, 2, 0, 0, 0) := by decide +kernel
theorem c_90_33 : zcode 90 33 = some (.iconst 5, 1, 0, 0, 0) := by decide +kernel
theorem c_90_34 : zcode 90 34 = some (.invokestatic 252, 3, 92, 0, 3105) := by decide +kernel
theorem c_90_37 : zcode 90 37 = some (.iconst 1, 1, 0, 0, 0) := by decide +kernel
theorem c_90_38 : zcode 90 38 = some (.isub, 1, 0, 0, 0) := by decide +kernel
theorem c_90_39 : zcode 90 39 = some (.istore 8, 2, 0, 0, 0) := by decide +kernel
theorem c_90_41 : zcode 90 41 = some (.iload 8, 2, 0, 0, 0) := by decide +kernel
theorem c_90_43 : zcode 90 43 = some (.ifCond .ge 6, 3, 49, 0, 0) := by decide +kernel
theorem c_90_46 : zcode 90 46 = some (.goto 42, 3, 88, 0, 0) := by decide +kernel
theorem c_90_49 : zcode 90 49 = some (.iload 5, 2, 0, 0, 0) := by decide +kernel
theorem c_90_51 : zcode 90 51 = some (.iload 8, 2, 0, 0, 0) := by decide +kernel
theorem c_90_53 : zcode 90 53 = some (.invokestatic 255, 3, 114, 0, 3108) := by decide +kernel
theorem c_90_56 : zcode 90 56 = some (.ifCond .ne 17, 3, 73, 0, 0) := by decide +kernel
theorem c_90_59 : zcode 90 59 = some (.iload_n 3, 1, 0, 0, 0) := by decide +kernel
theorem c_90_60 : zcode 90 60 = some (.iload 7, 2, 0, 0, 0) := by decide +kernel
theorem c_90_62 : zcode 90 62 = some (.iload 8, 2, 0, 0, 0) := by decide +kernel
theorem c_90_64 : zcode 90 64 = some (.invokestatic 241, 3, 89, 0, 3098) := by decide +kernel
theorem c_90_67 : zcode 90 67 = some (.invokestatic 255, 3, 114, 0, 3108) := by decide +kernel
theorem c_90_70 : zcode 90 70 = some (.ifCond .ne 6, 3, 76, 0, 0) := by decide +kernel
theorem c_90_73 : zcode 90 73 = some (.bipush (-9), 2, 0, 0, 0) := by decide +kernel
theorem c_90_75 : zcode 90 75 = some (.ireturn, 1, 0, 0, 0) := by decide +kernel
theorem c_90_76 : zcode 90 76 = some (.iload 5, 2, 0, 0, 0) := by decide +kernel
theorem c_90_78 : zcode 90 78 = some (.iconst 1, 1, 0, 0, 0) := by decide +kernel
theorem c_90_79 : zcode 90 79 = some (.iload 8, 2, 0, 0, 0) := by decide +kernel
theorem c_90_81 : zcode 90 81 = some (.ishl, 1, 0, 0, 0) := by decide +kernel
theorem c_90_82 : zcode 90 82 = some (.ior, 1, 0, 0, 0) := by decide +kernel
theorem c_90_83 : zcode 90 83 = some (.istore 5, 2, 0, 0, 0) := by decide +kernel
theorem c_90_85 : zcode 90 85 = some (.iinc 6 1, 3, 0, 0, 0) := by decide +kernel
theorem c_90_88 : zcode 90 88 = some (.iinc 7 1, 3, 0, 0, 0) := by decide +kernel
theorem c_90_91 : zcode 90 91 = some (.goto (-79), 3, 12, 0, 0) := by decide +kernel
theorem c_90_94 : zcode 90 94 = some (.iload 6, 2, 0, 0, 0) := by decide +kernel
theorem c_90_96 : zcode 90 96 = some (.ireturn, 1, 0, 0, 0) := by decide +kernel
theorem c_91_0 : zcode 91 0 = some (.iload_n 2, 1, 0, 0, 0) := by decide +kernel
theorem c_91_1 : zcode 91 1 = some (.istore_n 3, 1, 0, 0, 0) := by decide +kernel
theorem c_91_2 : zcode 91 2 = some (.iconst 1, 1, 0, 0, 0) := by decide +kernel
theorem c_91_3 : zcode 91 3 = some (.istore 4, 2, 0, 0, 0) := by decide +kernel
theorem c_91_5 : zcode 91 5 = some (.iconst 0, 1, 0, 0, 0) := by decide +kernel
theorem c_91_6 : zcode 91 6 = some (.istore 5, 2, 0, 0, 0) := by decide +kernel
theorem c_91_8 : zcode 91 8 = some (.iload 5, 2, 0, 0, 0) := by decide +kernel
theorem c_91_10 : zcode 91 10 = some (.aload_n 0, 1, 0, 0, 0) := by decide +kernel
theorem c_91_11 : zcode 91 11 = some (.getfield 21, 3, 7, 1, 1194) := by decide +kernel
theorem c_91_14 : zcode 91 14 = some (.invokevirtual 105, 3, 22, 0, 2060) := by decide +kernel
theorem c_91_17 : zcode 91 17 = some (.if_icmp .ge 27, 3, 44, 0, 0) := by decide +kernel
theorem c_91_20 : zcode 91 20 = some (.iload_n 3, 1, 0, 0, 0) := by decide +kernel
theorem c_91_21 : zcode 91 21 = some (.iconst 5, 1, 0, 0, 0) := by decide +kernel
theorem c_91_22 : zcode 91 22 = some (.idiv, 1, 0, 0, 0) := by decide +kernel
theorem c_91_23 : zcode 91 23 = some (.istore_n 3, 1, 0, 0, 0) := by decide +kernel
theorem c_91_24 : zcode 91 24 = some (.bipush 10, 2, 0, 0, 0) := by decide +kernel
theorem c_91_26 : zcode 91 26 = some (.iload 4, 2, 0, 0, 0) := by decide +kernel
theorem c_91_28 : zcode 91 28 = some (.imul, 1, 0, 0, 0) := by decide +kernel
theorem c_91_29 : zcode 91 29 = some (.iload_n 1, 1, 0, 0, 0) := by decide +kernel
theorem c_91_30 : zcode 91 30 = some (.iload_n 3, 1, 0, 0, 0) := by decide +kernel
theorem c_91_31 : zcode 91 31 = some (.iconst 5, 1, 0, 0, 0) := by decide +kernel
theorem c_91_32 : zcode 91 32 = some (.invokestatic 252, 3, 92, 0, 3105) := by decide +kernel
theorem c_91_35 : zcode 91 35 = some (.iadd, 1, 0, 0, 0) := by decide +kernel
theorem c_91_36 : zcode 91 36 = some (.istore 4, 2, 0, 0, 0) := by decide +kernel
theorem c_91_38 : zcode 91 38 = some (.iinc 5 1, 3, 0, 0, 0) := by decide +kernel
theorem c_91_41 : zcode 91 41 = some (.goto (-33), 3, 8, 0, 0) := by decide +kernel
theorem c_91_44 : zcode 91 44 = some (.iload 4, 2, 0, 0, 0) := by decide +kernel
theorem c_91_46 : zcode 91 46 = some (.ireturn, 1, 0, 0, 0) := by decide +kernel
theorem c_92_0 : zcode 92 0 = some (.iload_n 1, 1, 0, 0, 0) := by decide +kernel
theorem c_92_1 : zcode 92 1 = some (.iconst 1, 1, 0, 0, 0) := by decide +kernel
theorem c_92_2 : zcode 92 2 = some (.if_icmp .lt 8, 3, 10, 0, 0) := by decide +kernel
theorem c_92_5 : zcode 92 5 = some (.iload_n 2, 1, 0, 0, 0) := by decide +kernel
theorem c_92_6 : zcode 92 6 = some (.iconst 1, 1, 0, 0, 0) := by decide +kernel
theorem c_92_7 : zcode 92 7 = some (.if_icmp .ge 7, 3, 14, 0, 0) := by decide +kernel
theorem c_92_10 : zcode 92 10 = some (.iconst 0, 1, 0, 0, 0) := by decide +kernel
theorem c_92_11 : zcode 92 11 = some (.goto 8, 3, 19, 0, 0) := by decide +kernel
theorem c_92_14 : zcode 92 14 = some (.iload_n 0, 1, 0, 0, 0) := by decide +kernel
theorem c_92_15 : zcode 92 15 = some (.iload_n 1, 1, 0, 0, 0) := by decide +kernel
theorem c_92_16 : zcode 92 16 = some (.idiv, 1, 0, 0, 0) := by decide +kernel
theorem c_92_17 : zcode 92 17 = some (.iload_n 2, 1, 0, 0, 0) := by decide +kernel
theorem c_92_18 : zcode 92 18 = some (.irem, 1, 0, 0, 0) := by decide +kernel
theorem c_92_19 : zcode 92 19 = some (.ireturn, 1, 0, 0, 0) := by decide +kernel
theorem c_93_0 : zcode 93 0 = some (.iload_n 1, 1, 0, 0, 0) := by decide +kernel
theorem c_93_1 : zcode 93 1 = some (.iconst 1, 1, 0, 0, 0) := by decide +kernel
theorem c_93_2 : zcode 93 2 = some (.if_icmp .lt 20, 3, 22, 0, 0) := by decide +kernel
theorem c_93_5 : zcode 93 5 = some (.iload_n 1, 1, 0, 0, 0) := by decide +kernel
theorem c_93_6 : zcode 93 6 = some (.iconst 4, 1, 0, 0, 0) := by decide +kernel
theorem c_93_7 : zcode 93 7 = some (.if_icmp .gt 15, 3, 22, 0, 0) := by decide +kernel
theorem c_93_10 : zcode 93 10 = some (.iload_n 2, 1, 0, 0, 0) := by decide +kernel
theorem c_93_11 : zcode 93 11 = some (.ifCond .lt 11, 3, 22, 0, 0) := by decide +kernel
theorem c_93_14 : zcode 93 14 = some (.iload_n 2, 1, 0, 0, 0) := by decide +kernel
theorem c_93_15 : zcode 93 15 = some (.iload_n 1, 1, 0, 0, 0) := by decide +kernel
theorem c_93_16 : zcode 93 16 = some (.invokestatic 258, 3, 94, 0, 3117) := by decide +kernel
theorem c_93_19 : zcode 93 19 = some (.if_icmp .lt 6, 3, 25, 0, 0) := by decide +kernel
theorem c_93_22 : zcode 93 22 = some (.bipush (-2), 2, 0, 0, 0) := by decide +kernel
theorem c_93_24 : zcode 93 24 = some (.ireturn, 1, 0, 0, 0) := by decide +kernel
theorem c_93_25 : zcode 93 25 = some (.aload_n 0, 1, 0, 0, 0) := by decide +kernel
theorem c_93_26 : zcode 93 26 = some (.getfield 35, 3, 7, 4, 1197) := by decide +kernel
theorem c_93_29 : zcode 93 29 = some (.aload_n 0, 1, 0, 0, 0) := by decide +kernel
theorem c_93_30 : zcode 93 30 = some (.getfield 31, 3, 7, 3, 1196) := by decide +kernel
theorem c_93_33 : zcode 93 33 = some (.invokevirtual 200, 3, 43, 0, 2218) := by decide +kernel
theorem c_93_36 : zcode 93 36 = some (.iconst 0, 1, 0, 0, 0) := by decide +kernel
theorem c_93_37 : zcode 93 37 = some (.istore_n 3, 1, 0, 0, 0) := by decide +kernel
theorem c_93_38 : zcode 93 38 = some (.iload_n 3, 1, 0, 0, 0) := by decide +kernel
theorem c_93_39 : zcode 93 39 = some (.iload_n 1, 1, 0, 0, 0) := by decide +kernel
theorem c_93_40 : zcode 93 40 = some (.if_icmp .ge 44, 3, 84, 0, 0) := by decide +kernel
theorem c_93_43 : zcode 93 43 = some (.iload_n 2, 1, 0, 0, 0) := by decide +kernel
theorem c_93_44 : zcode 93 44 = some (.iload_n 1, 1, 0, 0, 0) := by decide +kernel
theorem c_93_45 : zcode 93 45 = some (.iconst 1, 1, 0, 0, 0) := by decide +kernel
theorem c_93_46 : zcode 93 46 = some (.isub, 1, 0, 0, 0) := by decide +kernel
theorem c_93_47 : zcode 93 47 = some (.iload_n 3, 1, 0, 0, 0) := by decide +kernel
theorem c_93_48 : zcode 93 48 = some (.isub, 1, 0, 0, 0) := by decide +kernel
theorem c_93_49 : zcode 93 49 = some (.invokestatic 258, 3, 94, 0, 3117) := by decide +kernel
theorem c_93_52 : zcode 93 52 = some (.bipush 100, 2, 0, 0, 0) := by decide +kernel
theorem c_93_54 : zcode 93 54 = some (.invokestatic 252, 3, 92, 0, 3105) := by decide +kernel
theorem c_93_57 : zcode 93 57 = some (.istore 4, 2, 0, 0, 0) := by decide +kernel
theorem c_93_59 : zcode 93 59 = some (.aload_n 0, 1, 0, 0, 0) := by decide +kernel
theorem c_93_60 : zcode 93 60 = some (.iload 4, 2, 0, 0, 0) := by decide +kernel
theorem c_93_62 : zcode 93 62 = some (.bipush 10, 2, 0, 0, 0) := by decide +kernel
theorem c_93_64 : zcode 93 64 = some (.idiv, 1, 0, 0, 0) := by decide +kernel
theorem c_93_65 : zcode 93 65 = some (.iload 4, 2, 0, 0, 0) := by decide +kernel
theorem c_93_67 : zcode 93 67 = some (.bipush 10, 2, 0, 0, 0) := by decide +kernel
theorem c_93_69 : zcode 93 69 = some (.irem, 1, 0, 0, 0) := by decide +kernel
theorem c_93_70 : zcode 93 70 = some (.invokevirtual 261, 3, 95, 0, 3120) := by decide +kernel
theorem c_93_73 : zcode 93 73 = some (.ifCond .ne 5, 3, 78, 0, 0) := by decide +kernel
theorem c_93_76 : zcode 93 76 = some (.iload_n 3, 1, 0, 0, 0) := by decide +kernel
theorem c_93_77 : zcode 93 77 = some (.ireturn, 1, 0, 0, 0) := by decide +kernel
theorem c_93_78 : zcode 93 78 = some (.iinc 3 1, 3, 0, 0, 0) := by decide +kernel
theorem c_93_81 : zcode 93 81 = some (.goto (-43), 3, 38, 0, 0) := by decide +kernel
theorem c_93_84 : zcode 93 84 = some (.bipush (-9), 2, 0, 0, 0) := by decide +kernel
theorem c_93_86 : zcode 93 86 = some (.ireturn, 1, 0, 0, 0) := by decide +kernel
theorem c_94_0 : zcode 94 0 = some (.iconst 1, 1, 0, 0, 0) := by decide +kernel
theorem c_94_1 : zcode 94 1 = some (.istore_n 1, 1, 0, 0, 0) := by decide +kernel
theorem c_94_2 : zcode 94 2 = some (.iconst 0, 1, 0, 0, 0) := by decide +kernel
theorem c_94_3 : zcode 94 3 = some (.istore_n 2, 1, 0, 0, 0) := by decide +kernel
theorem c_94_4 : zcode 94 4 = some (.iload_n 2, 1, 0, 0, 0) := by decide +kernel
theorem c_94_5 : zcode 94 5 = some (.iload_n 0, 1, 0, 0, 0) := by decide +kernel
theorem c_94_6 : zcode 94 6 = some (.if_icmp .ge 14, 3, 20, 0, 0) := by decide +kernel
theorem c_94_9 : zcode 94 9 = some (.iload_n 1, 1, 0, 0, 0) := by decide +kernel
theorem c_94_10 : zcode 94 10 = some (.bipush 100, 2, 0, 0, 0) := by decide +kernel
theorem c_94_12 : zcode 94 12 = some (.imul, 1, 0, 0, 0) := by decide +kernel
theorem c_94_13 : zcode 94 13 = some (.istore_n 1, 1, 0, 0, 0) := by decide +kernel
theorem c_94_14 : zcode 94 14 = some (.iinc 2 1, 3, 0, 0, 0) := by decide +kernel
theorem c_94_17 : zcode 94 17 = some (.goto (-13), 3, 4, 0, 0) := by decide +kernel
theorem c_94_20 : zcode 94 20 = some (.iload_n 1, 1, 0, 0, 0) := by decide +kernel
theorem c_94_21 : zcode 94 21 = some (.ireturn, 1, 0, 0, 0) := by decide +kernel
theorem c_95_0 : zcode 95 0 = some (.iload_n 1, 1, 0, 0, 0) := by decide +kernel
theorem c_95_1 : zcode 95 1 = some (.tableswitch 141 0 4 #[35, 48, 72, 93, 117], 35, 0, 0, 0) := by decide +kernel
theorem c_95_36 : zcode 95 36 = some (.aload_n 0, 1, 0, 0, 0) := by decide +kernel
theorem c_95_37 : zcode 95 37 = some (.getfield 35, 3, 7, 4, 1197) := by decide +kernel
theorem c_95_40 : zcode 95 40 = some (.aload_n 0, 1, 0, 0, 0) := by decide +kernel
theorem c_95_41 : zcode 95 41 = some (.getfield 21, 3, 7, 1, 1194) := by decide +kernel
theorem c_95_44 : zcode 95 44 = some (.iload_n 2, 1, 0, 0, 0) := by decide +kernel
theorem c_95_45 : zcode 95 45 = some (.invokevirtual 203, 3, 51, 0, 2219) := by decide +kernel
theorem c_95_48 : zcode 95 48 = some (.ireturn, 1, 0, 0, 0) := by decide +kernel
theorem c_95_49 : zcode 95 49 = some (.iload_n 2, 1, 0, 0, 0) := by decide +kernel
theorem c_95_50 : zcode 95 50 = some (.ifCond .ne 21, 3, 71, 0, 0) := by decide +kernel
theorem c_95_53 : zcode 95 53 = some (.aload_n 0, 1, 0, 0, 0) := by decide +kernel
theorem c_95_54 : zcode 95 54 = some (.getfield 35, 3, 7, 4, 1197) := by decide +kernel
theorem c_95_57 : zcode 95 57 = some (.aload_n 0, 1, 0, 0, 0) := by decide +kernel
theorem c_95_58 : zcode 95 58 = some (.getfield 21, 3, 7, 1, 1194) := by decide +kernel
theorem c_95_61 : zcode 95 61 = some (.invokevirtual 211, 3, 52, 0, 2236) := by decide +kernel
theorem c_95_64 : zcode 95 64 = some (.ifCond .eq 7, 3, 71, 0, 0) := by decide +kernel
theorem c_95_67 : zcode 95 67 = some (.iconst 1, 1, 0, 0, 0) := by decide +kernel
theorem c_95_68 : zcode 95 68 = some (.goto 4, 3, 72, 0, 0) := by decide +kernel
theorem c_95_71 : zcode 95 71 = some (.iconst 0, 1, 0, 0, 0) := by decide +kernel
theorem c_95_72 : zcode 95 72 = some (.ireturn, 1, 0, 0, 0) := by decide +kernel
theorem c_95_73 : zcode 95 73 = some (.iload_n 2, 1, 0, 0, 0) := by decide +kernel
theorem c_95_74 : zcode 95 74 = some (.ifCond .le 18, 3, 92, 0, 0) := by decide +kernel
theorem c_95_77 : zcode 95 77 = some (.aload_n 0, 1, 0, 0, 0) := by decide +kernel
theorem c_95_78 : zcode 95 78 = some (.getfield 35, 3, 7, 4, 1197) := by decide +kernel
theorem c_95_81 : zcode 95 81 = some (.iload_n 2, 1, 0, 0, 0) := by decide +kernel
theorem c_95_82 : zcode 95 82 = some (.invokevirtual 214, 3, 53, 0, 3004) := by decide +kernel
theorem c_95_85 : zcode 95 85 = some (.ifCond .eq 7, 3, 92, 0, 0) := by decide +kernel
theorem c_95_88 : zcode 95 88 = some (.iconst 1, 1, 0, 0, 0) := by decide +kernel
theorem c_95_89 : zcode 95 89 = some (.goto 4, 3, 93, 0, 0) := by decide +kernel
theorem c_95_92 : zcode 95 92 = some (.iconst 0, 1, 0, 0, 0) := by decide +kernel
theorem c_95_93 : zcode 95 93 = some (.ireturn, 1, 0, 0, 0) := by decide +kernel
theorem c_95_94 : zcode 95 94 = some (.iload_n 2, 1, 0, 0, 0) := by decide +kernel
theorem c_95_95 : zcode 95 95 = some (.ifCond .ne 21, 3, 116, 0, 0) := by decide +kernel
theorem c_95_98 : zcode 95 98 = some (.aload_n 0, 1, 0, 0, 0) := by decide +kernel
theorem c_95_99 : zcode 95 99 = some (.getfield 35, 3, 7, 4, 1197) := by decide +kernel
theorem c_95_102 : zcode 95 102 = some (.aload_n 0, 1, 0, 0, 0) := by decide +kernel
theorem c_95_103 : zcode 95 103 = some (.getfield 21, 3, 7, 1, 1194) := by decide +kernel
theorem c_95_106 : zcode 95 106 = some (.invokevirtual 133, 3, 49, 0, 2103) := by decide +kernel
theorem c_95_109 : zcode 95 109 = some (.ifCond .eq 7, 3, 116, 0, 0) := by decide +kernel
theorem c_95_112 : zcode 95 112 = some (.iconst 1, 1, 0, 0, 0) := by decide +kernel
theorem c_95_113 : zcode 95 113 = some (.goto 4, 3, 117, 0, 0) := by decide +kernel
theorem c_95_116 : zcode 95 116 = some (.iconst 0, 1, 0, 0, 0) := by decide +kernel
theorem c_95_117 : zcode 95 117 = some (.ireturn, 1, 0, 0, 0) := by decide +kernel
theorem c_95_118 : zcode 95 118 = some (.aload_n 0, 1, 0, 0, 0) := by decide +kernel
theorem c_95_119 : zcode 95 119 = some (.getfield 21, 3, 7, 1, 1194) := by decide +kernel
theorem c_95_122 : zcode 95 122 = some (.aload_n 0, 1, 0, 0, 0) := by decide +kernel
theorem c_95_123 : zcode 95 123 = some (.getfield 35, 3, 7, 4, 1197) := by decide +kernel
theorem c_95_126 : zcode 95 126 = some (.invokevirtual 127, 3, 46, 0, 2090) := by decide +kernel
theorem c_95_129 : zcode 95 129 = some (.invokevirtual 130, 3, 30, 0, 2095) := by decide +kernel
theorem c_95_132 : zcode 95 132 = some (.iload_n 2, 1, 0, 0, 0) := by decide +kernel
theorem c_95_133 : zcode 95 133 = some (.if_icmp .lt 7, 3, 140, 0, 0) := by decide +kernel
theorem c_95_136 : zcode 95 136 = some (.iconst 1, 1, 0, 0, 0) := by decide +kernel
theorem c_95_137 : zcode 95 137 = some (.goto 4, 3, 141, 0, 0) := by decide +kernel
theorem c_95_140 : zcode 95 140 = some (.iconst 0, 1, 0, 0, 0) := by decide +kernel
theorem c_95_141 : zcode 95 141 = some (.ireturn, 1, 0, 0, 0) := by decide +kernel
theorem c_95_142 : zcode 95 142 = some (.iconst 0, 1, 0, 0, 0) := by decide +kernel
theorem c_95_143 : zcode 95 143 = some (.ireturn, 1, 0, 0, 0) := by decide +kernel
theorem c_96_0 : zcode 96 0 = some (.aload_n 0, 1, 0, 0, 0) := by decide +kernel
theorem c_96_1 : zcode 96 1 = some (.getfield 21, 3, 7, 1, 1194) := by decide +kernel
theorem c_96_4 : zcode 96 4 = some (.iload_n 1, 1, 0, 0, 0) := by decide +kernel
theorem c_96_5 : zcode 96 5 = some (.invokevirtual 161, 3, 26, 0, 2143) := by decide +kernel
theorem c_96_8 : zcode 96 8 = some (.ifCond .ne 5, 3, 13, 0, 0) := by decide +kernel
theorem c_96_11 : zcode 96 11 = some (.iconst (-1), 1, 0, 0, 0) := by decide +kernel
theorem c_96_12 : zcode 96 12 = some (.ireturn, 1, 0, 0, 0) := by decide +kernel
theorem c_96_13 : zcode 96 13 = some (.aload_n 0, 1, 0, 0, 0) := by decide +kernel
theorem c_96_14 : zcode 96 14 = some (.getfield 31, 3, 7, 3, 1196) := by decide +kernel
theorem c_96_17 : zcode 96 17 = some (.invokevirtual 173, 3, 44, 0, 2147) := by decide +kernel
theorem c_96_20 : zcode 96 20 = some (.ifCond .ne 6, 3, 26, 0, 0) := by decide +kernel
theorem c_96_23 : zcode 96 23 = some (.bipush (-3), 2, 0, 0, 0) := by decide +kernel
theorem c_96_25 : zcode 96 25 = some (.ireturn, 1, 0, 0, 0) := by decide +kernel
theorem c_96_26 : zcode 96 26 = some (.aload_n 0, 1, 0, 0, 0) := by decide +kernel
theorem c_96_27 : zcode 96 27 = some (.getfield 35, 3, 7, 4, 1197) := by decide +kernel
theorem c_96_30 : zcode 96 30 = some (.aload_n 0, 1, 0, 0, 0) := by decide +kernel
theorem c_96_31 : zcode 96 31 = some (.getfield 21, 3, 7, 1, 1194) := by decide +kernel
theorem c_96_34 : zcode 96 34 = some (.aload_n 0, 1, 0, 0, 0) := by decide +kernel
theorem c_96_35 : zcode 96 35 = some (.getfield 31, 3, 7, 3, 1196) := by decide +kernel
theorem c_96_38 : zcode 96 38 = some (.getfield 117, 3, 4, 0, 1094) := by decide +kernel
theorem c_96_41 : zcode 96 41 = some (.aload_n 0, 1, 0, 0, 0) := by decide +kernel
theorem c_96_42 : zcode 96 42 = some (.getfield 31, 3, 7, 3, 1196) := by decide +kernel
theorem c_96_45 : zcode 96 45 = some (.getfield 120, 3, 4, 1, 1097) := by decide +kernel
theorem c_96_48 : zcode 96 48 = some (.invokevirtual 196, 3, 42, 0, 2209) := by decide +kernel
theorem c_96_51 : zcode 96 51 = some (.aload_n 0, 1, 0, 0, 0) := by decide +kernel
theorem c_96_52 : zcode 96 52 = some (.getfield 55, 3, 7, 7, 1200) := by decide +kernel
theorem c_96_55 : zcode 96 55 = some (.aload_n 0, 1, 0, 0, 0) := by decide +kernel
theorem c_96_56 : zcode 96 56 = some (.getfield 21, 3, 7, 1, 1194) := by decide +kernel
theorem c_96_59 : zcode 96 59 = some (.aload_n 0, 1, 0, 0, 0) := by decide +kernel
theorem c_96_60 : zcode 96 60 = some (.getfield 35, 3, 7, 4, 1197) := by decide +kernel
theorem c_96_63 : zcode 96 63 = some (.invokevirtual 221, 3, 7, 0, 3025) := by decide +kernel
theorem c_96_66 : zcode 96 66 = some (.aload_n 0, 1, 0, 0, 0) := by decide +kernel
theorem c_96_67 : zcode 96 67 = some (.getfield 55, 3, 7, 7, 1200) := by decide +kernel
theorem c_96_70 : zcode 96 70 = some (.aload_n 0, 1, 0, 0, 0) := by decide +kernel
theorem c_96_71 : zcode 96 71 = some (.getfield 21, 3, 7, 1, 1194) := by decide +kernel
theorem c_96_74 : zcode 96 74 = some (.invokevirtual 264, 3, 15, 0, 3128) := by decide +kernel
theorem c_96_77 : zcode 96 77 = some (.aload_n 0, 1, 0, 0, 0) := by decide +kernel
theorem c_96_78 : zcode 96 78 = some (.getfield 21, 3, 7, 1, 1194) := by decide +kernel
theorem c_96_81 : zcode 96 81 = some (.invokevirtual 108, 3, 23, 0, 2064) := by decide +kernel
theorem c_96_84 : zcode 96 84 = some (.istore_n 3, 1, 0, 0, 0) := by decide +kernel
theorem c_96_85 : zcode 96 85 = some (.iconst 0, 1, 0, 0, 0) := by decide +kernel
theorem c_96_86 : zcode 96 86 = some (.istore 4, 2, 0, 0, 0) := by decide +kernel
theorem c_96_88 : zcode 96 88 = some (.iconst 0, 1, 0, 0, 0) := by decide +kernel
theorem c_96_89 : zcode 96 89 = some (.istore 5, 2, 0, 0, 0) := by decide +kernel
theorem c_96_91 : zcode 96 91 = some (.iload 5, 2, 0, 0, 0) := by decide +kernel
theorem c_96_93 : zcode 96 93 = some (.iconst 1, 1, 0, 0, 0) := by decide +kernel
theorem c_96_94 : zcode 96 94 = some (.iload_n 3, 1, 0, 0, 0) := by decide +kernel
theorem c_96_95 : zcode 96 95 = some (.ishl, 1, 0, 0, 0) := by decide +kernel
theorem c_96_96 : zcode 96 96 = some (.if_icmp .ge 56, 3, 152, 0, 0) := by decide +kernel
theorem c_96_99 : zcode 96 99 = some (.iload 5, 2, 0, 0, 0) := by decide +kernel
theorem c_96_101 : zcode 96 101 = some (.iload_n 1, 1, 0, 0, 0) := by decide +kernel
theorem c_96_102 : zcode 96 102 = some (.invokestatic 255, 3, 114, 0, 3108) := by decide +kernel
theorem c_96_105 : zcode 96 105 = some (.ifCond .ne 41, 3, 146, 0, 0) := by decide +kernel
theorem c_96_108 : zcode 96 108 = some (.iload 5, 2, 0, 0, 0) := by decide +kernel
theorem c_96_110 : zcode 96 110 = some (.invokestatic 268, 3, 188, 0, 3133) := by decide +kernel
theorem c_96_113 : zcode 96 113 = some (.istore 6, 2, 0, 0, 0) := by decide +kernel
theorem c_96_115 : zcode 96 115 = some (.iload 4, 2, 0, 0, 0) := by decide +kernel
theorem c_96_117 : zcode 96 117 = some (.iload 6, 2, 0, 0, 0) := by decide +kernel
theorem c_96_119 : zcode 96 119 = some (.invokestatic 273, 3, 97, 0, 3134) := by decide +kernel
theorem c_96_122 : zcode 96 122 = some (.iload_n 3, 1, 0, 0, 0) := by decide +kernel
theorem c_96_123 : zcode 96 123 = some (.iconst 1, 1, 0, 0, 0) := by decide +kernel
theorem c_96_124 : zcode 96 124 = some (.isub, 1, 0, 0, 0) := by decide +kernel
theorem c_96_125 : zcode 96 125 = some (.iload 6, 2, 0, 0, 0) := by decide +kernel
theorem c_96_127 : zcode 96 127 = some (.isub, 1, 0, 0, 0) := by decide +kernel
theorem c_96_128 : zcode 96 128 = some (.invokestatic 273, 3, 97, 0, 3134) := by decide +kernel
theorem c_96_131 : zcode 96 131 = some (.imul, 1, 0, 0, 0) := by decide +kernel
theorem c_96_132 : zcode 96 132 = some (.aload_n 0, 1, 0, 0, 0) := by decide +kernel
theorem c_96_133 : zcode 96 133 = some (.getfield 55, 3, 7, 7, 1200) := by decide +kernel
theorem c_96_136 : zcode 96 136 = some (.iload 5, 2, 0, 0, 0) := by decide +kernel
theorem c_96_138 : zcode 96 138 = some (.iload_n 1, 1, 0, 0, 0) := by decide +kernel
theorem c_96_139 : zcode 96 139 = some (.invokevirtual 276, 3, 16, 0, 3137) := by decide +kernel
theorem c_96_142 : zcode 96 142 = some (.imul, 1, 0, 0, 0) := by decide +kernel
theorem c_96_143 : zcode 96 143 = some (.iadd, 1, 0, 0, 0) := by decide +kernel
theorem c_96_144 : zcode 96 144 = some (.istore 4, 2, 0, 0, 0) := by decide +kernel
theorem c_96_146 : zcode 96 146 = some (.iinc 5 1, 3, 0, 0, 0) := by decide +kernel
theorem c_96_149 : zcode 96 149 = some (.goto (-58), 3, 91, 0, 0) := by decide +kernel
theorem c_96_152 : zcode 96 152 = some (.iload 4, 2, 0, 0, 0) := by decide +kernel
theorem c_96_154 : zcode 96 154 = some (.iload_n 3, 1, 0, 0, 0) := by decide +kernel
theorem c_96_155 : zcode 96 155 = some (.invokestatic 273, 3, 97, 0, 3134) := by decide +kernel
theorem c_96_158 : zcode 96 158 = some (.iload_n 2, 1, 0, 0, 0) := by decide +kernel
theorem c_96_159 : zcode 96 159 = some (.invokestatic 279, 3, 98, 0, 3141) := by decide +kernel
theorem c_96_162 : zcode 96 162 = some (.ireturn, 1, 0, 0, 0) := by decide +kernel
theorem c_97_0 : zcode 97 0 = some (.iconst 1, 1, 0, 0, 0) := by decide +kernel
theorem c_97_1 : zcode 97 1 = some (.istore_n 1, 1, 0, 0, 0) := by decide +kernel
theorem c_97_2 : zcode 97 2 = some (.iconst 2, 1, 0, 0, 0) := by decide +kernel
theorem c_97_3 : zcode 97 3 = some (.istore_n 2, 1, 0, 0, 0) := by decide +kernel
theorem c_97_4 : zcode 97 4 = some (.iload_n 2, 1, 0, 0, 0) := by decide +kernel
theorem c_97_5 : zcode 97 5 = some (.iload_n 0, 1, 0, 0, 0) := by decide +kernel
theorem c_97_6 : zcode 97 6 = some (.if_icmp .gt 13, 3, 19, 0, 0) := by decide +kernel
theorem c_97_9 : zcode 97 9 = some (.iload_n 1, 1, 0, 0, 0) := by decide +kernel
theorem c_97_10 : zcode 97 10 = some (.iload_n 2, 1, 0, 0, 0) := by decide +kernel
theorem c_97_11 : zcode 97 11 = some (.imul, 1, 0, 0, 0) := by decide +kernel
theorem c_97_12 : zcode 97 12 = some (.istore_n 1, 1, 0, 0, 0) := by decide +kernel
theorem c_97_13 : zcode 97 13 = some (.iinc 2 1, 3, 0, 0, 0) := by decide +kernel
theorem c_97_16 : zcode 97 16 = some (.goto (-12), 3, 4, 0, 0) := by decide +kernel
theorem c_97_19 : zcode 97 19 = some (.iload_n 1, 1, 0, 0, 0) := by decide +kernel
theorem c_97_20 : zcode 97 20 = some (.ireturn, 1, 0, 0, 0) := by decide +kernel
theorem c_98_0 : zcode 98 0 = some (.iload_n 0, 1, 0, 0, 0) := by decide +kernel
theorem c_98_1 : zcode 98 1 = some (.iload_n 1, 1, 0, 0, 0) := by decide +kernel
theorem c_98_2 : zcode 98 2 = some (.invokestatic 283, 3, 99, 0, 3144) := by decide +kernel
theorem c_98_5 : zcode 98 5 = some (.istore_n 3, 1, 0, 0, 0) := by decide +kernel
theorem c_98_6 : zcode 98 6 = some (.iload_n 3, 1, 0, 0, 0) := by decide +kernel
theorem c_98_7 : zcode 98 7 = some (.iconst 1, 1, 0, 0, 0) := by decide +kernel
theorem c_98_8 : zcode 98 8 = some (.if_icmp .ge 5, 3, 13, 0, 0) := by decide +kernel
theorem c_98_11 : zcode 98 11 = some (.iconst 0, 1, 0, 0, 0) := by decide +kernel
theorem c_98_12 : zcode 98 12 = some (.ireturn, 1, 0, 0, 0) := by decide +kernel
theorem c_98_13 : zcode 98 13 = some (.iload_n 2, 1, 0, 0, 0) := by decide +kernel
theorem c_98_14 : zcode 98 14 = some (.ifCond .eq 9, 3, 23, 0, 0) := by decide +kernel
theorem c_98_17 : zcode 98 17 = some (.iload_n 0, 1, 0, 0, 0) := by decide +kernel
theorem c_98_18 : zcode 98 18 = some (.iload_n 3, 1, 0, 0, 0) := by decide +kernel
theorem c_98_19 : zcode 98 19 = some (.idiv, 1, 0, 0, 0) := by decide +kernel
theorem c_98_20 : zcode 98 20 = some (.goto 6, 3, 26, 0, 0) := by decide +kernel
theorem c_98_23 : zcode 98 23 = some (.iload_n 1, 1, 0, 0, 0) := by decide +kernel
theorem c_98_24 : zcode 98 24 = some (.iload_n 3, 1, 0, 0, 0) := by decide +kernel
theorem c_98_25 : zcode 98 25 = some (.idiv, 1, 0, 0, 0) := by decide +kernel
theorem c_98_26 : zcode 98 26 = some (.ireturn, 1, 0, 0, 0) := by decide +kernel
theorem c_99_0 : zcode 99 0 = some (.iload_n 0, 1, 0, 0, 0) := by decide +kernel
theorem c_99_1 : zcode 99 1 = some (.istore_n 2, 1, 0, 0, 0) := by decide +kernel
theorem c_99_2 : zcode 99 2 = some (.iload_n 1, 1, 0, 0, 0) := by decide +kernel
theorem c_99_3 : zcode 99 3 = some (.istore_n 3, 1, 0, 0, 0) := by decide +kernel
theorem c_99_4 : zcode 99 4 = some (.iconst 0, 1, 0, 0, 0) := by decide +kernel
theorem c_99_5 : zcode 99 5 = some (.istore 4, 2, 0, 0, 0) := by decide +kernel
theorem c_99_7 : zcode 99 7 = some (.iload 4, 2, 0, 0, 0) := by decide +kernel
theorem c_99_9 : zcode 99 9 = some (.bipush 100, 2, 0, 0, 0) := by decide +kernel
theorem c_99_11 : zcode 99 11 = some (.if_icmp .ge 23, 3, 34, 0, 0) := by decide +kernel
theorem c_99_14 : zcode 99 14 = some (.iload_n 3, 1, 0, 0, 0) := by decide +kernel
theorem c_99_15 : zcode 99 15 = some (.ifCond .le 19, 3, 34, 0, 0) := by decide +kernel
theorem c_99_18 : zcode 99 18 = some (.iload_n 2, 1, 0, 0, 0) := by decide +kernel
theorem c_99_19 : zcode 99 19 = some (.iload_n 3, 1, 0, 0, 0) := by decide +kernel
theorem c_99_20 : zcode 99 20 = some (.irem, 1, 0, 0, 0) := by decide +kernel
theorem c_99_21 : zcode 99 21 = some (.istore 5, 2, 0, 0, 0) := by decide +kernel
theorem c_99_23 : zcode 99 23 = some (.iload_n 3, 1, 0, 0, 0) := by decide +kernel
theorem c_99_24 : zcode 99 24 = some (.istore_n 2, 1, 0, 0, 0) := by decide +kernel
theorem c_99_25 : zcode 99 25 = some (.iload 5, 2, 0, 0, 0) := by decide +kernel
theorem c_99_27 : zcode 99 27 = some (.istore_n 3, 1, 0, 0, 0) := by decide +kernel
theorem c_99_28 : zcode 99 28 = some (.iinc 4 1, 3, 0, 0, 0) := by decide +kernel
theorem c_99_31 : zcode 99 31 = some (.goto (-24), 3, 7, 0, 0) := by decide +kernel
theorem c_99_34 : zcode 99 34 = some (.iload_n 2, 1, 0, 0, 0) := by decide +kernel
theorem c_99_35 : zcode 99 35 = some (.ireturn, 1, 0, 0, 0) := by decide +kernel
theorem c_100_0 : zcode 100 0 = some (.aload_n 0, 1, 0, 0, 0) := by decide +kernel
theorem c_100_1 : zcode 100 1 = some (.getfield 21, 3, 7, 1, 1194) := by decide +kernel
theorem c_100_4 : zcode 100 4 = some (.iload_n 1, 1, 0, 0, 0) := by decide +kernel
theorem c_100_5 : zcode 100 5 = some (.invokevirtual 161, 3, 26, 0, 2143) := by decide +kernel
theorem c_100_8 : zcode 100 8 = some (.ifCond .ne 5, 3, 13, 0, 0) := by decide +kernel
theorem c_100_11 : zcode 100 11 = some (.iconst (-1), 1, 0, 0, 0) := by decide +kernel
theorem c_100_12 : zcode 100 12 = some (.ireturn, 1, 0, 0, 0) := by decide +kernel
theorem c_100_13 : zcode 100 13 = some (.aload_n 0, 1, 0, 0, 0) := by decide +kernel
theorem c_100_14 : zcode 100 14 = some (.getfield 48, 3, 7, 6, 1199) := by decide +kernel
theorem c_100_17 : zcode 100 17 = some (.iload_n 2, 1, 0, 0, 0) := by decide +kernel
theorem c_100_18 : zcode 100 18 = some (.iload_n 3, 1, 0, 0, 0) := by decide +kernel
theorem c_100_19 : zcode 100 19 = some (.iload 4, 2, 0, 0, 0) := by decide +kernel
theorem c_100_21 : zcode 100 21 = some (.invokevirtual 286, 3, 62, 0, 3151) := by decide +kernel
theorem c_100_24 : zcode 100 24 = some (.ifCond .ne 6, 3, 30, 0, 0) := by decide +kernel
theorem c_100_27 : zcode 100 27 = some (.bipush (-2), 2, 0, 0, 0) := by decide +kernel
theorem c_100_29 : zcode 100 29 = some (.ireturn, 1, 0, 0, 0) := by decide +kernel
theorem c_100_30 : zcode 100 30 = some (.aload_n 0, 1, 0, 0, 0) := by decide +kernel
theorem c_100_31 : zcode 100 31 = some (.getfield 48, 3, 7, 6, 1199) := by decide +kernel
theorem c_100_34 : zcode 100 34 = some (.invokevirtual 289, 3, 60, 0, 3156) := by decide +kernel
theorem c_100_37 : zcode 100 37 = some (.ifCond .eq 6, 3, 43, 0, 0) := by decide +kernel
theorem c_100_40 : zcode 100 40 = some (.bipush (-4), 2, 0, 0, 0) := by decide +kernel
theorem c_100_42 : zcode 100 42 = some (.ireturn, 1, 0, 0, 0) := by decide +kernel
theorem c_100_43 : zcode 100 43 = some (.aload_n 0, 1, 0, 0, 0) := by decide +kernel
theorem c_100_44 : zcode 100 44 = some (.getfield 48, 3, 7, 6, 1199) := by decide +kernel
theorem c_100_47 : zcode 100 47 = some (.iload_n 1, 1, 0, 0, 0) := by decide +kernel
theorem c_100_48 : zcode 100 48 = some (.iload_n 2, 1, 0, 0, 0) := by decide +kernel
theorem c_100_49 : zcode 100 49 = some (.iload_n 3, 1, 0, 0, 0) := by decide +kernel
theorem c_100_50 : zcode 100 50 = some (.iload 4, 2, 0, 0, 0) := by decide +kernel
theorem c_100_52 : zcode 100 52 = some (.invokevirtual 290, 3, 63, 0, 3161) := by decide +kernel
theorem c_100_55 : zcode 100 55 = some (.aload_n 0, 1, 0, 0, 0) := by decide +kernel
theorem c_100_56 : zcode 100 56 = some (.getfield 48, 3, 7, 6, 1199) := by decide +kernel
theorem c_100_59 : zcode 100 59 = some (.invokevirtual 112, 3, 59, 0, 2076) := by decide +kernel
theorem c_100_62 : zcode 100 62 = some (.ireturn, 1, 0, 0, 0) := by decide +kernel
theorem c_101_0 : zcode 101 0 = some (.aload_n 0, 1, 0, 0, 0) := by decide +kernel
theorem c_101_1 : zcode 101 1 = some (.getfield 48, 3, 7, 6, 1199) := by decide +kernel
theorem c_101_4 : zcode 101 4 = some (.invokevirtual 112, 3, 59, 0, 2076) := by decide +kernel
theorem c_101_7 : zcode 101 7 = some (.istore_n 1, 1, 0, 0, 0) := by decide +kernel
theorem c_101_8 : zcode 101 8 = some (.aload_n 0, 1, 0, 0, 0) := by decide +kernel
theorem c_101_9 : zcode 101 9 = some (.getfield 48, 3, 7, 6, 1199) := by decide +kernel
theorem c_101_12 : zcode 101 12 = some (.invokevirtual 293, 3, 61, 0, 3170) := by decide +kernel
theorem c_101_15 : zcode 101 15 = some (.iload_n 1, 1, 0, 0, 0) := by decide +kernel
theorem c_101_16 : zcode 101 16 = some (.ireturn, 1, 0, 0, 0) := by decide +kernel
theorem c_102_0 : zcode 102 0 = some (.iconst 0, 1, 0, 0, 0) := by decide +kernel
theorem c_102_1 : zcode 102 1 = some (.istore_n 1, 1, 0, 0, 0) := by decide +kernel
theorem c_102_2 : zcode 102 2 = some (.iconst 0, 1, 0, 0, 0) := by decide +kernel
theorem c_102_3 : zcode 102 3 = some (.istore_n 2, 1, 0, 0, 0) := by decide +kernel
theorem c_102_4 : zcode 102 4 = some (.iload_n 2, 1, 0, 0, 0) := by decide +kernel
theorem c_102_5 : zcode 102 5 = some (.iconst 4, 1, 0, 0, 0) := by decide +kernel
theorem c_102_6 : zcode 102 6 = some (.if_icmp .ge 30, 3, 36, 0, 0) := by decide +kernel
theorem c_102_9 : zcode 102 9 = some (.aload_n 0, 1, 0, 0, 0) := by decide +kernel
theorem c_102_10 : zcode 102 10 = some (.getfield 48, 3, 7, 6, 1199) := by decide +kernel
theorem c_102_13 : zcode 102 13 = some (.aload_n 0, 1, 0, 0, 0) := by decide +kernel
theorem c_102_14 : zcode 102 14 = some (.getfield 21, 3, 7, 1, 1194) := by decide +kernel
theorem c_102_17 : zcode 102 17 = some (.iload_n 2, 1, 0, 0, 0) := by decide +kernel
theorem c_102_18 : zcode 102 18 = some (.invokevirtual 294, 3, 64, 0, 3179) := by decide +kernel
theorem c_102_21 : zcode 102 21 = some (.ifCond .eq 9, 3, 30, 0, 0) := by decide +kernel
theorem c_102_24 : zcode 102 24 = some (.iload_n 1, 1, 0, 0, 0) := by decide +kernel
theorem c_102_25 : zcode 102 25 = some (.iconst 1, 1, 0, 0, 0) := by decide +kernel
theorem c_102_26 : zcode 102 26 = some (.iload_n 2, 1, 0, 0, 0) := by decide +kernel
theorem c_102_27 : zcode 102 27 = some (.ishl, 1, 0, 0, 0) := by decide +kernel
theorem c_102_28 : zcode 102 28 = some (.ior, 1, 0, 0, 0) := by decide +kernel
theorem c_102_29 : zcode 102 29 = some (.istore_n 1, 1, 0, 0, 0) := by decide +kernel
theorem c_102_30 : zcode 102 30 = some (.iinc 2 1, 3, 0, 0, 0) := by decide +kernel
theorem c_102_33 : zcode 102 33 = some (.goto (-29), 3, 4, 0, 0) := by decide +kernel
theorem c_102_36 : zcode 102 36 = some (.iload_n 1, 1, 0, 0, 0) := by decide +kernel
theorem c_102_37 : zcode 102 37 = some (.ireturn, 1, 0, 0, 0) := by decide +kernel
theorem c_103_0 : zcode 103 0 = some (.aload_n 0, 1, 0, 0, 0) := by decide +kernel
theorem c_103_1 : zcode 103 1 = some (.getfield 21, 3, 7, 1, 1194) := by decide +kernel
theorem c_103_4 : zcode 103 4 = some (.iload_n 1, 1, 0, 0, 0) := by decide +kernel
theorem c_103_5 : zcode 103 5 = some (.invokevirtual 152, 3, 25, 0, 2135) := by decide +kernel
theorem c_103_8 : zcode 103 8 = some (.ifCond .eq 14, 3, 22, 0, 0) := by decide +kernel
theorem c_103_11 : zcode 103 11 = some (.aload_n 0, 1, 0, 0, 0) := by decide +kernel
theorem c_103_12 : zcode 103 12 = some (.getfield 21, 3, 7, 1, 1194) := by decide +kernel
theorem c_103_15 : zcode 103 15 = some (.iload_n 2, 1, 0, 0, 0) := by decide +kernel
theorem c_103_16 : zcode 103 16 = some (.invokevirtual 152, 3, 25, 0, 2135) := by decide +kernel
theorem c_103_19 : zcode 103 19 = some (.ifCond .ne 5, 3, 24, 0, 0) := by decide +kernel
theorem c_103_22 : zcode 103 22 = some (.iconst (-1), 1, 0, 0, 0) := by decide +kernel
theorem c_103_23 : zcode 103 23 = some (.ireturn, 1, 0, 0, 0) := by decide +kernel
theorem c_103_24 : zcode 103 24 = some (.iload_n 1, 1, 0, 0, 0) := by decide +kernel
theorem c_103_25 : zcode 103 25 = some (.iload_n 2, 1, 0, 0, 0) := by decide +kernel
theorem c_103_26 : zcode 103 26 = some (.if_icmp .eq 12, 3, 38, 0, 0) := by decide +kernel
theorem c_103_29 : zcode 103 29 = some (.iload_n 3, 1, 0, 0, 0) := by decide +kernel
theorem c_103_30 : zcode 103 30 = some (.ifCond .lt 8, 3, 38, 0, 0) := by decide +kernel
theorem c_103_33 : zcode 103 33 = some (.iload_n 3, 1, 0, 0, 0) := by decide +kernel
theorem c_103_34 : zcode 103 34 = some (.iconst 1, 1, 0, 0, 0) := by decide +kernel
theorem c_103_35 : zcode 103 35 = some (.if_icmp .le 6, 3, 41, 0, 0) := by decide +kernel
theorem c_103_38 : zcode 103 38 = some (.bipush (-2), 2, 0, 0, 0) := by decide +kernel
theorem c_103_40 : zcode 103 40 = some (.ireturn, 1, 0, 0, 0) := by decide +kernel
theorem c_103_41 : zcode 103 41 = some (.aload_n 0, 1, 0, 0, 0) := by decide +kernel
theorem c_103_42 : zcode 103 42 = some (.getfield 31, 3, 7, 3, 1196) := by decide +kernel
theorem c_103_45 : zcode 103 45 = some (.invokevirtual 173, 3, 44, 0, 2147) := by decide +kernel
theorem c_103_48 : zcode 103 48 = some (.ifCond .ne 6, 3, 54, 0, 0) := by decide +kernel
theorem c_103_51 : zcode 103 51 = some (.bipush (-3), 2, 0, 0, 0) := by decide +kernel
theorem c_103_53 : zcode 103 53 = some (.ireturn, 1, 0, 0, 0) := by decide +kernel
theorem c_103_54 : zcode 103 54 = some (.aload_n 0, 1, 0, 0, 0) := by decide +kernel
theorem c_103_55 : zcode 103 55 = some (.iload_n 1, 1, 0, 0, 0) := by decide +kernel
theorem c_103_56 : zcode 103 56 = some (.aload_n 0, 1, 0, 0, 0) := by decide +kernel
theorem c_103_57 : zcode 103 57 = some (.getfield 31, 3, 7, 3, 1196) := by decide +kernel
theorem c_103_60 : zcode 103 60 = some (.getfield 123, 3, 4, 2, 1100) := by decide +kernel
theorem c_103_63 : zcode 103 63 = some (.invokevirtual 297, 3, 104, 0, 3191) := by decide +kernel
theorem c_103_66 : zcode 103 66 = some (.istore 4, 2, 0, 0, 0) := by decide +kernel
theorem c_103_68 : zcode 103 68 = some (.aload_n 0, 1, 0, 0, 0) := by decide +kernel
theorem c_103_69 : zcode 103 69 = some (.iload_n 1, 1, 0, 0, 0) := by decide +kernel
theorem c_103_70 : zcode 103 70 = some (.aload_n 0, 1, 0, 0, 0) := by decide +kernel
theorem c_103_71 : zcode 103 71 = some (.getfield 31, 3, 7, 3, 1196) := by decide +kernel
theorem c_103_74 : zcode 103 74 = some (.getfield 123, 3, 4, 2, 1100) := by decide +kernel
theorem c_103_77 : zcode 103 77 = some (.iconst 2, 1, 0, 0, 0) := by decide +kernel
theorem c_103_78 : zcode 103 78 = some (.idiv, 1, 0, 0, 0) := by decide +kernel
theorem c_103_79 : zcode 103 79 = some (.invokevirtual 297, 3, 104, 0, 3191) := by decide +kernel
theorem c_103_82 : zcode 103 82 = some (.istore 5, 2, 0, 0, 0) := by decide +kernel
theorem c_103_84 : zcode 103 84 = some (.aload_n 0, 1, 0, 0, 0) := by decide +kernel
theorem c_103_85 : zcode 103 85 = some (.iload_n 2, 1, 0, 0, 0) := by decide +kernel
theorem c_103_86 : zcode 103 86 = some (.aload_n 0, 1, 0, 0, 0) := by decide +kernel
theorem c_103_87 : zcode 103 87 = some (.getfield 31, 3, 7, 3, 1196) := by decide +kernel
theorem c_103_90 : zcode 103 90 = some (.getfield 123, 3, 4, 2, 1100) := by decide +kernel
theorem c_103_93 : zcode 103 93 = some (.invokevirtual 297, 3, 104, 0, 3191) := by decide +kernel
theorem c_103_96 : zcode 103 96 = some (.istore 6, 2, 0, 0, 0) := by decide +kernel
theorem c_103_98 : zcode 103 98 = some (.aload_n 0, 1, 0, 0, 0) := by decide +kernel
theorem c_103_99 : zcode 103 99 = some (.iload_n 2, 1, 0, 0, 0) := by decide +kernel
theorem c_103_100 : zcode 103 100 = some (.aload_n 0, 1, 0, 0, 0) := by decide +kernel
theorem c_103_101 : zcode 103 101 = some (.getfield 31, 3, 7, 3, 1196) := by decide +kernel
theorem c_103_104 : zcode 103 104 = some (.getfield 123, 3, 4, 2, 1100) := by decide +kernel
theorem c_103_107 : zcode 103 107 = some (.iconst 2, 1, 0, 0, 0) := by decide +kernel
theorem c_103_108 : zcode 103 108 = some (.idiv, 1, 0, 0, 0) := by decide +kernel
theorem c_103_109 : zcode 103 109 = some (.invokevirtual 297, 3, 104, 0, 3191) := by decide +kernel
theorem c_103_112 : zcode 103 112 = some (.istore 7, 2, 0, 0, 0) := by decide +kernel
theorem c_103_114 : zcode 103 114 = some (.iconst 0, 1, 0, 0, 0) := by decide +kernel
theorem c_103_115 : zcode 103 115 = some (.istore 8, 2, 0, 0, 0) := by decide +kernel
theorem c_103_117 : zcode 103 117 = some (.bipush (-9), 2, 0, 0, 0) := by decide +kernel
theorem c_103_119 : zcode 103 119 = some (.istore 9, 2, 0, 0, 0) := by decide +kernel
theorem c_103_121 : zcode 103 121 = some (.iconst 0, 1, 0, 0, 0) := by decide +kernel
theorem c_103_122 : zcode 103 122 = some (.istore 10, 2, 0, 0, 0) := by decide +kernel
theorem c_103_124 : zcode 103 124 = some (.iload 10, 2, 0, 0, 0) := by decide +kernel
theorem c_103_126 : zcode 103 126 = some (.iconst 1, 1, 0, 0, 0) := by decide +kernel
theorem c_103_127 : zcode 103 127 = some (.if_icmp .gt 77, 3, 204, 0, 0) := by decide +kernel
theorem c_103_130 : zcode 103 130 = some (.iconst 0, 1, 0, 0, 0) := by decide +kernel
theorem c_103_131 : zcode 103 131 = some (.istore 11, 2, 0, 0, 0) := by decide +kernel
theorem c_103_133 : zcode 103 133 = some (.iload 11, 2, 0, 0, 0) := by decide +kernel
theorem c_103_135 : zcode 103 135 = some (.iconst 1, 1, 0, 0, 0) := by decide +kernel
theorem c_103_136 : zcode 103 136 = some (.if_icmp .gt 62, 3, 198, 0, 0) := by decide +kernel
theorem c_103_139 : zcode 103 139 = some (.iload 10, 2, 0, 0, 0) := by decide +kernel
theorem c_103_141 : zcode 103 141 = some (.iload 11, 2, 0, 0, 0) := by decide +kernel
theorem c_103_143 : zcode 103 143 = some (.iload 4, 2, 0, 0, 0) := by decide +kernel
theorem c_103_145 : zcode 103 145 = some (.iload 5, 2, 0, 0, 0) := by decide +kernel
theorem c_103_147 : zcode 103 147 = some (.invokestatic 300, 3, 105, 0, 3195) := by decide +kernel
theorem c_103_150 : zcode 103 150 = some (.ifCond .eq 42, 3, 192, 0, 0) := by decide +kernel
theorem c_103_153 : zcode 103 153 = some (.iload 11, 2, 0, 0, 0) := by decide +kernel
theorem c_103_155 : zcode 103 155 = some (.iload 10, 2, 0, 0, 0) := by decide +kernel
theorem c_103_157 : zcode 103 157 = some (.iload 6, 2, 0, 0, 0) := by decide +kernel
theorem c_103_159 : zcode 103 159 = some (.iload 7, 2, 0, 0, 0) := by decide +kernel
theorem c_103_161 : zcode 103 161 = some (.invokestatic 300, 3, 105, 0, 3195) := by decide +kernel
theorem c_103_164 : zcode 103 164 = some (.ifCond .eq 28, 3, 192, 0, 0) := by decide +kernel
theorem c_103_167 : zcode 103 167 = some (.iinc 8 1, 3, 0, 0, 0) := by decide +kernel
theorem c_103_170 : zcode 103 170 = some (.iload 9, 2, 0, 0, 0) := by decide +kernel
theorem c_103_172 : zcode 103 172 = some (.bipush (-9), 2, 0, 0, 0) := by decide +kernel
theorem c_103_174 : zcode 103 174 = some (.if_icmp .ne 14, 3, 188, 0, 0) := by decide +kernel
theorem c_103_177 : zcode 103 177 = some (.bipush 10, 2, 0, 0, 0) := by decide +kernel
theorem c_103_179 : zcode 103 179 = some (.iload 10, 2, 0, 0, 0) := by decide +kernel
theorem c_103_181 : zcode 103 181 = some (.imul, 1, 0, 0, 0) := by decide +kernel
theorem c_103_182 : zcode 103 182 = some (.iload 11, 2, 0, 0, 0) := by decide +kernel
theorem c_103_184 : zcode 103 184 = some (.iadd, 1, 0, 0, 0) := by decide +kernel
theorem c_103_185 : zcode 103 185 = some (.goto 5, 3, 190, 0, 0) := by decide +kernel
theorem c_103_188 : zcode 103 188 = some (.iload 9, 2, 0, 0, 0) := by decide +kernel
theorem c_103_190 : zcode 103 190 = some (.istore 9, 2, 0, 0, 0) := by decide +kernel
theorem c_103_192 : zcode 103 192 = some (.iinc 11 1, 3, 0, 0, 0) := by decide +kernel
theorem c_103_195 : zcode 103 195 = some (.goto (-62), 3, 133, 0, 0) := by decide +kernel
theorem c_103_198 : zcode 103 198 = some (.iinc 10 1, 3, 0, 0, 0) := by decide +kernel
theorem c_103_201 : zcode 103 201 = some (.goto (-77), 3, 124, 0, 0) := by decide +kernel
theorem c_103_204 : zcode 103 204 = some (.iload_n 3, 1, 0, 0, 0) := by decide +kernel
theorem c_103_205 : zcode 103 205 = some (.ifCond .ne 8, 3, 213, 0, 0) := by decide +kernel
theorem c_103_208 : zcode 103 208 = some (.iload 8, 2, 0, 0, 0) := by decide +kernel
theorem c_103_210 : zcode 103 210 = some (.goto 5, 3, 215, 0, 0) := by decide +kernel
theorem c_103_213 : zcode 103 213 = some (.iload 9, 2, 0, 0, 0) := by decide +kernel
theorem c_103_215 : zcode 103 215 = some (.ireturn, 1, 0, 0, 0) := by decide +kernel
theorem c_104_0 : zcode 104 0 = some (.aload_n 0, 1, 0, 0, 0) := by decide +kernel
theorem c_104_1 : zcode 104 1 = some (.getfield 35, 3, 7, 4, 1197) := by decide +kernel
theorem c_104_4 : zcode 104 4 = some (.aload_n 0, 1, 0, 0, 0) := by decide +kernel
theorem c_104_5 : zcode 104 5 = some (.getfield 21, 3, 7, 1, 1194) := by decide +kernel
theorem c_104_8 : zcode 104 8 = some (.aload_n 0, 1, 0, 0, 0) := by decide +kernel
theorem c_104_9 : zcode 104 9 = some (.getfield 31, 3, 7, 3, 1196) := by decide +kernel
theorem c_104_12 : zcode 104 12 = some (.getfield 117, 3, 4, 0, 1094) := by decide +kernel
theorem c_104_15 : zcode 104 15 = some (.iload_n 1, 1, 0, 0, 0) := by decide +kernel
theorem c_104_16 : zcode 104 16 = some (.invokevirtual 196, 3, 42, 0, 2209) := by decide +kernel
theorem c_104_19 : zcode 104 19 = some (.aload_n 0, 1, 0, 0, 0) := by decide +kernel
theorem c_104_20 : zcode 104 20 = some (.getfield 35, 3, 7, 4, 1197) := by decide +kernel
theorem c_104_23 : zcode 104 23 = some (.iload_n 2, 1, 0, 0, 0) := by decide +kernel
theorem c_104_24 : zcode 104 24 = some (.putfield 123, 3, 4, 2, 1100) := by decide +kernel
theorem c_104_27 : zcode 104 27 = some (.aload_n 0, 1, 0, 0, 0) := by decide +kernel
theorem c_104_28 : zcode 104 28 = some (.getfield 55, 3, 7, 7, 1200) := by decide +kernel
theorem c_104_31 : zcode 104 31 = some (.aload_n 0, 1, 0, 0, 0) := by decide +kernel
theorem c_104_32 : zcode 104 32 = some (.getfield 21, 3, 7, 1, 1194) := by decide +kernel
theorem c_104_35 : zcode 104 35 = some (.aload_n 0, 1, 0, 0, 0) := by decide +kernel
theorem c_104_36 : zcode 104 36 = some (.getfield 35, 3, 7, 4, 1197) := by decide +kernel
theorem c_104_39 : zcode 104 39 = some (.invokevirtual 221, 3, 7, 0, 3025) := by decide +kernel
theorem c_104_42 : zcode 104 42 = some (.aload_n 0, 1, 0, 0, 0) := by decide +kernel
theorem c_104_43 : zcode 104 43 = some (.getfield 55, 3, 7, 7, 1200) := by decide +kernel
theorem c_104_46 : zcode 104 46 = some (.aload_n 0, 1, 0, 0, 0) := by decide +kernel
theorem c_104_47 : zcode 104 47 = some (.getfield 21, 3, 7, 1, 1194) := by decide +kernel
theorem c_104_50 : zcode 104 50 = some (.invokevirtual 225, 3, 10, 0, 3057) := by decide +kernel
theorem c_104_53 : zcode 104 53 = some (.ifCond .eq 13, 3, 66, 0, 0) := by decide +kernel
theorem c_104_56 : zcode 104 56 = some (.aload_n 0, 1, 0, 0, 0) := by decide +kernel
theorem c_104_57 : zcode 104 57 = some (.getfield 55, 3, 7, 7, 1200) := by decide +kernel
theorem c_104_60 : zcode 104 60 = some (.getfield 230, 3, 1, 3, 1173) := by decide +kernel
theorem c_104_63 : zcode 104 63 = some (.goto 4, 3, 67, 0, 0) := by decide +kernel
theorem c_104_66 : zcode 104 66 = some (.iconst 0, 1, 0, 0, 0) := by decide +kernel
theorem c_104_67 : zcode 104 67 = some (.ireturn, 1, 0, 0, 0) := by decide +kernel
theorem c_105_0 : zcode 105 0 = some (.iload_n 0, 1, 0, 0, 0) := by decide +kernel
theorem c_105_1 : zcode 105 1 = some (.iload_n 1, 1, 0, 0, 0) := by decide +kernel
theorem c_105_2 : zcode 105 2 = some (.iload_n 2, 1, 0, 0, 0) := by decide +kernel
theorem c_105_3 : zcode 105 3 = some (.iload_n 3, 1, 0, 0, 0) := by decide +kernel
theorem c_105_4 : zcode 105 4 = some (.invokestatic 304, 3, 106, 0, 3198) := by decide +kernel
theorem c_105_7 : zcode 105 7 = some (.iconst 1, 1, 0, 0, 0) := by decide +kernel
theorem c_105_8 : zcode 105 8 = some (.iload_n 0, 1, 0, 0, 0) := by decide +kernel
theorem c_105_9 : zcode 105 9 = some (.isub, 1, 0, 0, 0) := by decide +kernel
theorem c_105_10 : zcode 105 10 = some (.iload_n 1, 1, 0, 0, 0) := by decide +kernel
theorem c_105_11 : zcode 105 11 = some (.iload_n 2, 1, 0, 0, 0) := by decide +kernel
theorem c_105_12 : zcode 105 12 = some (.iload_n 3, 1, 0, 0, 0) := by decide +kernel
theorem c_105_13 : zcode 105 13 = some (.invokestatic 304, 3, 106, 0, 3198) := by decide +kernel
theorem c_105_16 : zcode 105 16 = some (.if_icmp .lt 7, 3, 23, 0, 0) := by decide +kernel
theorem c_105_19 : zcode 105 19 = some (.iconst 1, 1, 0, 0, 0) := by decide +kernel
theorem c_105_20 : zcode 105 20 = some (.goto 4, 3, 24, 0, 0) := by decide +kernel
theorem c_105_23 : zcode 105 23 = some (.iconst 0, 1, 0, 0, 0) := by decide +kernel
theorem c_105_24 : zcode 105 24 = some (.ireturn, 1, 0, 0, 0) := by decide +kernel
theorem c_106_0 : zcode 106 0 = some (.iload_n 0, 1, 0, 0, 0) := by decide +kernel
theorem c_106_1 : zcode 106 1 = some (.ifCond .ne 5, 3, 6, 0, 0) := by decide +kernel
theorem c_106_4 : zcode 106 4 = some (.iconst 2, 1, 0, 0, 0) := by decide +kernel
theorem c_106_5 : zcode 106 5 = some (.ireturn, 1, 0, 0, 0) := by decide +kernel
theorem c_106_6 : zcode 106 6 = some (.iload_n 1, 1, 0, 0, 0) := by decide +kernel
theorem c_106_7 : zcode 106 7 = some (.ifCond .ne 7, 3, 14, 0, 0) := by decide +kernel
theorem c_106_10 : zcode 106 10 = some (.iload_n 2, 1, 0, 0, 0) := by decide +kernel
theorem c_106_11 : zcode 106 11 = some (.goto 4, 3, 15, 0, 0) := by decide +kernel
theorem c_106_14 : zcode 106 14 = some (.iload_n 3, 1, 0, 0, 0) := by decide +kernel
theorem c_106_15 : zcode 106 15 = some (.ireturn, 1, 0, 0, 0) := by decide +kernel
theorem c_107_0 : zcode 107 0 = some (.iload_n 1, 1, 0, 0, 0) := by decide +kernel
theorem c_107_1 : zcode 107 1 = some (.ifCond .lt 9, 3, 10, 0, 0) := by decide +kernel
theorem c_107_4 : zcode 107 4 = some (.iload_n 1, 1, 0, 0, 0) := by decide +kernel
theorem c_107_5 : zcode 107 5 = some (.bipush 10, 2, 0, 0, 0) := by decide +kernel
theorem c_107_7 : zcode 107 7 = some (.if_icmp .le 6, 3, 13, 0, 0) := by decide +kernel
theorem c_107_10 : zcode 107 10 = some (.bipush (-2), 2, 0, 0, 0) := by decide +kernel
theorem c_107_12 : zcode 107 12 = some (.ireturn, 1, 0, 0, 0) := by decide +kernel
theorem c_107_13 : zcode 107 13 = some (.iconst 0, 1, 0, 0, 0) := by decide +kernel
theorem c_107_14 : zcode 107 14 = some (.istore_n 3, 1, 0, 0, 0) := by decide +kernel
theorem c_107_15 : zcode 107 15 = some (.iload_n 3, 1, 0, 0, 0) := by decide +kernel
theorem c_107_16 : zcode 107 16 = some (.aload_n 0, 1, 0, 0, 0) := by decide +kernel
theorem c_107_17 : zcode 107 17 = some (.getfield 68, 3, 7, 11, 1204) := by decide +kernel
theorem c_107_20 : zcode 107 20 = some (.arraylength, 1, 0, 0, 0) := by decide +kernel
theorem c_107_21 : zcode 107 21 = some (.if_icmp .ge 24, 3, 45, 0, 0) := by decide +kernel
theorem c_107_24 : zcode 107 24 = some (.aload_n 0, 1, 0, 0, 0) := by decide +kernel
theorem c_107_25 : zcode 107 25 = some (.getfield 68, 3, 7, 11, 1204) := by decide +kernel
theorem c_107_28 : zcode 107 28 = some (.iload_n 3, 1, 0, 0, 0) := by decide +kernel
theorem c_107_29 : zcode 107 29 = some (.iload_n 3, 1, 0, 0, 0) := by decide +kernel
theorem c_107_30 : zcode 107 30 = some (.ifCond .ne 7, 3, 37, 0, 0) := by decide +kernel
theorem c_107_33 : zcode 107 33 = some (.iconst 1, 1, 0, 0, 0) := by decide +kernel
theorem c_107_34 : zcode 107 34 = some (.goto 4, 3, 38, 0, 0) := by decide +kernel
theorem c_107_37 : zcode 107 37 = some (.iconst 0, 1, 0, 0, 0) := by decide +kernel
theorem c_107_38 : zcode 107 38 = some (.iastore, 1, 0, 0, 0) := by decide +kernel
theorem c_107_39 : zcode 107 39 = some (.iinc 3 1, 3, 0, 0, 0) := by decide +kernel
theorem c_107_42 : zcode 107 42 = some (.goto (-27), 3, 15, 0, 0) := by decide +kernel
theorem c_107_45 : zcode 107 45 = some (.iconst 1, 1, 0, 0, 0) := by decide +kernel
theorem c_107_46 : zcode 107 46 = some (.istore_n 3, 1, 0, 0, 0) := by decide +kernel
theorem c_107_47 : zcode 107 47 = some (.iconst 0, 1, 0, 0, 0) := by decide +kernel
theorem c_107_48 : zcode 107 48 = some (.istore 4, 2, 0, 0, 0) := by decide +kernel
theorem c_107_50 : zcode 107 50 = some (.iload 4, 2, 0, 0, 0) := by decide +kernel
theorem c_107_52 : zcode 107 52 = some (.aload_n 0, 1, 0, 0, 0) := by decide +kernel
theorem c_107_53 : zcode 107 53 = some (.getfield 31, 3, 7, 3, 1196) := by decide +kernel
theorem c_107_56 : zcode 107 56 = some (.invokevirtual 126, 3, 45, 0, 2085) := by decide +kernel
theorem c_107_59 : zcode 107 59 = some (.if_icmp .ge 41, 3, 100, 0, 0) := by decide +kernel
theorem c_107_62 : zcode 107 62 = some (.aload_n 0, 1, 0, 0, 0) := by decide +kernel
theorem c_107_63 : zcode 107 63 = some (.aload_n 0, 1, 0, 0, 0) := by decide +kernel
theorem c_107_64 : zcode 107 64 = some (.getfield 21, 3, 7, 1, 1194) := by decide +kernel
theorem c_107_67 : zcode 107 67 = some (.getfield 170, 3, 2, 6, 1068) := by decide +kernel
theorem c_107_70 : zcode 107 70 = some (.aload_n 0, 1, 0, 0, 0) := by decide +kernel
theorem c_107_71 : zcode 107 71 = some (.getfield 31, 3, 7, 3, 1196) := by decide +kernel
theorem c_107_74 : zcode 107 74 = some (.getfield 183, 3, 4, 3, 1102) := by decide +kernel
theorem c_107_77 : zcode 107 77 = some (.iload 4, 2, 0, 0, 0) := by decide +kernel
theorem c_107_79 : zcode 107 79 = some (.invokevirtual 143, 3, 36, 0, 2126) := by decide +kernel
theorem c_107_82 : zcode 107 82 = some (.invokevirtual 143, 3, 36, 0, 2126) := by decide +kernel
theorem c_107_85 : zcode 107 85 = some (.iload_n 1, 1, 0, 0, 0) := by decide +kernel
theorem c_107_86 : zcode 107 86 = some (.invokevirtual 307, 3, 108, 0, 3205) := by decide +kernel
theorem c_107_89 : zcode 107 89 = some (.iload_n 3, 1, 0, 0, 0) := by decide +kernel
theorem c_107_90 : zcode 107 90 = some (.bipush 10, 2, 0, 0, 0) := by decide +kernel
theorem c_107_92 : zcode 107 92 = some (.imul, 1, 0, 0, 0) := by decide +kernel
theorem c_107_93 : zcode 107 93 = some (.istore_n 3, 1, 0, 0, 0) := by decide +kernel
theorem c_107_94 : zcode 107 94 = some (.iinc 4 1, 3, 0, 0, 0) := by decide +kernel
theorem c_107_97 : zcode 107 97 = some (.goto (-47), 3, 50, 0, 0) := by decide +kernel
theorem c_107_100 : zcode 107 100 = some (.aload_n 0, 1, 0, 0, 0) := by decide +kernel
theorem c_107_101 : zcode 107 101 = some (.iconst 3, 1, 0, 0, 0) := by decide +kernel
theorem c_107_102 : zcode 107 102 = some (.invokevirtual 311, 3, 190, 0, 3210) := by decide +kernel
theorem c_107_105 : zcode 107 105 = some (.iload_n 3, 1, 0, 0, 0) := by decide +kernel
theorem c_107_106 : zcode 107 106 = some (.iload_n 2, 1, 0, 0, 0) := by decide +kernel
theorem c_107_107 : zcode 107 107 = some (.invokestatic 279, 3, 98, 0, 3141) := by decide +kernel
theorem c_107_110 : zcode 107 110 = some (.ireturn, 1, 0, 0, 0) := by decide +kernel
theorem c_108_0 : zcode 108 0 = some (.aload_n 0, 1, 0, 0, 0) := by decide +kernel
theorem c_108_1 : zcode 108 1 = some (.getfield 68, 3, 7, 11, 1204) := by decide +kernel
theorem c_108_4 : zcode 108 4 = some (.arraylength, 1, 0, 0, 0) := by decide +kernel
theorem c_108_5 : zcode 108 5 = some (.iconst 1, 1, 0, 0, 0) := by decide +kernel
theorem c_108_6 : zcode 108 6 = some (.isub, 1, 0, 0, 0) := by decide +kernel
theorem c_108_7 : zcode 108 7 = some (.istore_n 3, 1, 0, 0, 0) := by decide +kernel
theorem c_108_8 : zcode 108 8 = some (.iload_n 3, 1, 0, 0, 0) := by decide +kernel
theorem c_108_9 : zcode 108 9 = some (.ifCond .lt 66, 3, 75, 0, 0) := by decide +kernel
theorem c_108_12 : zcode 108 12 = some (.iload_n 3, 1, 0, 0, 0) := by decide +kernel
theorem c_108_13 : zcode 108 13 = some (.iload_n 1, 1, 0, 0, 0) := by decide +kernel
theorem c_108_14 : zcode 108 14 = some (.invokestatic 314, 3, 115, 0, 3209) := by decide +kernel
theorem c_108_17 : zcode 108 17 = some (.istore 4, 2, 0, 0, 0) := by decide +kernel
theorem c_108_19 : zcode 108 19 = some (.aload_n 0, 1, 0, 0, 0) := by decide +kernel
theorem c_108_20 : zcode 108 20 = some (.getfield 68, 3, 7, 11, 1204) := by decide +kernel
theorem c_108_23 : zcode 108 23 = some (.iload_n 3, 1, 0, 0, 0) := by decide +kernel
theorem c_108_24 : zcode 108 24 = some (.iaload, 1, 0, 0, 0) := by decide +kernel
theorem c_108_25 : zcode 108 25 = some (.bipush 10, 2, 0, 0, 0) := by decide +kernel
theorem c_108_27 : zcode 108 27 = some (.iload_n 2, 1, 0, 0, 0) := by decide +kernel
theorem c_108_28 : zcode 108 28 = some (.isub, 1, 0, 0, 0) := by decide +kernel
theorem c_108_29 : zcode 108 29 = some (.imul, 1, 0, 0, 0) := by decide +kernel
theorem c_108_30 : zcode 108 30 = some (.istore 5, 2, 0, 0, 0) := by decide +kernel
theorem c_108_32 : zcode 108 32 = some (.aload_n 0, 1, 0, 0, 0) := by decide +kernel
theorem c_108_33 : zcode 108 33 = some (.getfield 68, 3, 7, 11, 1204) := by decide +kernel
theorem c_108_36 : zcode 108 36 = some (.iload_n 3, 1, 0, 0, 0) := by decide +kernel
theorem c_108_37 : zcode 108 37 = some (.dup2, 1, 0, 0, 0) := by decide +kernel
theorem c_108_38 : zcode 108 38 = some (.iaload, 1, 0, 0, 0) := by decide +kernel
theorem c_108_39 : zcode 108 39 = some (.iload_n 2, 1, 0, 0, 0) := by decide +kernel
theorem c_108_40 : zcode 108 40 = some (.imul, 1, 0, 0, 0) := by decide +kernel
theorem c_108_41 : zcode 108 41 = some (.iastore, 1, 0, 0, 0) := by decide +kernel
theorem c_108_42 : zcode 108 42 = some (.iload 4, 2, 0, 0, 0) := by decide +kernel
theorem c_108_44 : zcode 108 44 = some (.ifCond .lt 25, 3, 69, 0, 0) := by decide +kernel
theorem c_108_47 : zcode 108 47 = some (.iload 4, 2, 0, 0, 0) := by decide +kernel
theorem c_108_49 : zcode 108 49 = some (.aload_n 0, 1, 0, 0, 0) := by decide +kernel
theorem c_108_50 : zcode 108 50 = some (.getfield 68, 3, 7, 11, 1204) := by decide +kernel
theorem c_108_53 : zcode 108 53 = some (.arraylength, 1, 0, 0, 0) := by decide +kernel
theorem c_108_54 : zcode 108 54 = some (.if_icmp .ge 15, 3, 69, 0, 0) := by decide +kernel
theorem c_108_57 : zcode 108 57 = some (.aload_n 0, 1, 0, 0, 0) := by decide +kernel
theorem c_108_58 : zcode 108 58 = some (.getfield 68, 3, 7, 11, 1204) := by decide +kernel
theorem c_108_61 : zcode 108 61 = some (.iload 4, 2, 0, 0, 0) := by decide +kernel
theorem c_108_63 : zcode 108 63 = some (.dup2, 1, 0, 0, 0) := by decide +kernel
theorem c_108_64 : zcode 108 64 = some (.iaload, 1, 0, 0, 0) := by decide +kernel
theorem c_108_65 : zcode 108 65 = some (.iload 5, 2, 0, 0, 0) := by decide +kernel
theorem c_108_67 : zcode 108 67 = some (.iadd, 1, 0, 0, 0) := by decide +kernel
theorem c_108_68 : zcode 108 68 = some (.iastore, 1, 0, 0, 0) := by decide +kernel
theorem c_108_69 : zcode 108 69 = some (.iinc 3 (-1), 3, 0, 0, 0) := by decide +kernel
theorem c_108_72 : zcode 108 72 = some (.goto (-64), 3, 8, 0, 0) := by decide +kernel
theorem c_108_75 : zcode 108 75 = some (.return_, 1, 0, 0, 0) := by decide +kernel
theorem c_109_0 : zcode 109 0 = some (.aload_n 0, 1, 0, 0, 0) := by decide +kernel
theorem c_109_1 : zcode 109 1 = some (.getfield 317, 3, 7, 10, 1203) := by decide +kernel
theorem c_109_4 : zcode 109 4 = some (.lstore_n 3, 1, 0, 0, 0) := by decide +kernel
theorem c_109_5 : zcode 109 5 = some (.aload_n 0, 1, 0, 0, 0) := by decide +kernel
theorem c_109_6 : zcode 109 6 = some (.lload_n 1, 1, 0, 0, 0) := by decide +kernel
theorem c_109_7 : zcode 109 7 = some (.putfield 317, 3, 7, 10, 1203) := by decide +kernel
theorem c_109_10 : zcode 109 10 = some (.lload_n 3, 1, 0, 0, 0) := by decide +kernel
theorem c_109_11 : zcode 109 11 = some (.lreturn, 1, 0, 0, 0) := by decide +kernel
theorem c_110_0 : zcode 110 0 = some (.iload_n 1, 1, 0, 0, 0) := by decide +kernel
theorem c_110_1 : zcode 110 1 = some (.iconst 1, 1, 0, 0, 0) := by decide +kernel
theorem c_110_2 : zcode 110 2 = some (.if_icmp .lt 9, 3, 11, 0, 0) := by decide +kernel
theorem c_110_5 : zcode 110 5 = some (.iload_n 1, 1, 0, 0, 0) := by decide +kernel
theorem c_110_6 : zcode 110 6 = some (.bipush 30, 2, 0, 0, 0) := by decide +kernel
theorem c_110_8 : zcode 110 8 = some (.if_icmp .le 6, 3, 14, 0, 0) := by decide +kernel
theorem c_110_11 : zcode 110 11 = some (.bipush (-2), 2, 0, 0, 0) := by decide +kernel
theorem c_110_13 : zcode 110 13 = some (.ireturn, 1, 0, 0, 0) := by decide +kernel
theorem c_110_14 : zcode 110 14 = some (.aload_n 0, 1, 0, 0, 0) := by decide +kernel
theorem c_110_15 : zcode 110 15 = some (.getfield 35, 3, 7, 4, 1197) := by decide +kernel
theorem c_110_18 : zcode 110 18 = some (.aload_n 0, 1, 0, 0, 0) := by decide +kernel
theorem c_110_19 : zcode 110 19 = some (.getfield 31, 3, 7, 3, 1196) := by decide +kernel
theorem c_110_22 : zcode 110 22 = some (.invokevirtual 200, 3, 43, 0, 2218) := by decide +kernel
theorem c_110_25 : zcode 110 25 = some (.iconst 0, 1, 0, 0, 0) := by decide +kernel
theorem c_110_26 : zcode 110 26 = some (.istore_n 2, 1, 0, 0, 0) := by decide +kernel
theorem c_110_27 : zcode 110 27 = some (.iconst 0, 1, 0, 0, 0) := by decide +kernel
theorem c_110_28 : zcode 110 28 = some (.istore_n 3, 1, 0, 0, 0) := by decide +kernel
theorem c_110_29 : zcode 110 29 = some (.iload_n 3, 1, 0, 0, 0) := by decide +kernel
theorem c_110_30 : zcode 110 30 = some (.iload_n 1, 1, 0, 0, 0) := by decide +kernel
theorem c_110_31 : zcode 110 31 = some (.if_icmp .ge 61, 3, 92, 0, 0) := by decide +kernel
theorem c_110_34 : zcode 110 34 = some (.aload_n 0, 1, 0, 0, 0) := by decide +kernel
theorem c_110_35 : zcode 110 35 = some (.aload_n 0, 1, 0, 0, 0) := by decide +kernel
theorem c_110_36 : zcode 110 36 = some (.getfield 317, 3, 7, 10, 1203) := by decide +kernel
theorem c_110_39 : zcode 110 39 = some (.ldc2_w 321, 3, 6364136223846793005, 0, 3222) := by decide +kernel
theorem c_110_42 : zcode 110 42 = some (.lmul, 1, 0, 0, 0) := by decide +kernel
theorem c_110_43 : zcode 110 43 = some (.ldc2_w 323, 3, 1442695040888963407, 0, 3223) := by decide +kernel
theorem c_110_46 : zcode 110 46 = some (.ladd, 1, 0, 0, 0) := by decide +kernel
theorem c_110_47 : zcode 110 47 = some (.putfield 317, 3, 7, 10, 1203) := by decide +kernel
theorem c_110_50 : zcode 110 50 = some (.aload_n 0, 1, 0, 0, 0) := by decide +kernel
theorem c_110_51 : zcode 110 51 = some (.aload_n 0, 1, 0, 0, 0) := by decide +kernel
theorem c_110_52 : zcode 110 52 = some (.getfield 317, 3, 7, 10, 1203) := by decide +kernel
theorem c_110_55 : zcode 110 55 = some (.bipush 33, 2, 0, 0, 0) := by decide +kernel
theorem c_110_57 : zcode 110 57 = some (.lushr, 1, 0, 0, 0) := by decide +kernel
theorem c_110_58 : zcode 110 58 = some (.ldc2_w 325, 3, 28, 0, 3224) := by decide +kernel
theorem c_110_61 : zcode 110 61 = some (.lrem, 1, 0, 0, 0) := by decide +kernel
theorem c_110_62 : zcode 110 62 = some (.l2i, 1, 0, 0, 0) := by decide +kernel
theorem c_110_63 : zcode 110 63 = some (.invokevirtual 327, 3, 111, 0, 3225) := by decide +kernel
theorem c_110_66 : zcode 110 66 = some (.ifCond .eq 20, 3, 86, 0, 0) := by decide +kernel
theorem c_110_69 : zcode 110 69 = some (.aload_n 0, 1, 0, 0, 0) := by decide +kernel
theorem c_110_70 : zcode 110 70 = some (.getfield 35, 3, 7, 4, 1197) := by decide +kernel
theorem c_110_73 : zcode 110 73 = some (.aload_n 0, 1, 0, 0, 0) := by decide +kernel
theorem c_110_74 : zcode 110 74 = some (.getfield 21, 3, 7, 1, 1194) := by decide +kernel
theorem c_110_77 : zcode 110 77 = some (.invokevirtual 133, 3, 49, 0, 2103) := by decide +kernel
theorem c_110_80 : zcode 110 80 = some (.ifCond .eq 6, 3, 86, 0, 0) := by decide +kernel
theorem c_110_83 : zcode 110 83 = some (.iinc 2 1, 3, 0, 0, 0) := by decide +kernel
theorem c_110_86 : zcode 110 86 = some (.iinc 3 1, 3, 0, 0, 0) := by decide +kernel
theorem c_110_89 : zcode 110 89 = some (.goto (-60), 3, 29, 0, 0) := by decide +kernel
theorem c_110_92 : zcode 110 92 = some (.iload_n 2, 1, 0, 0, 0) := by decide +kernel
theorem c_110_93 : zcode 110 93 = some (.ireturn, 1, 0, 0, 0) := by decide +kernel
theorem c_111_0 : zcode 111 0 = some (.iload_n 1, 1, 0, 0, 0) := by decide +kernel
theorem c_111_1 : zcode 111 1 = some (.bipush 22, 2, 0, 0, 0) := by decide +kernel
theorem c_111_3 : zcode 111 3 = some (.if_icmp .lt 19, 3, 22, 0, 0) := by decide +kernel
theorem c_111_6 : zcode 111 6 = some (.aload_n 0, 1, 0, 0, 0) := by decide +kernel
theorem c_111_7 : zcode 111 7 = some (.getfield 35, 3, 7, 4, 1197) := by decide +kernel
theorem c_111_10 : zcode 111 10 = some (.iload_n 1, 1, 0, 0, 0) := by decide +kernel
theorem c_111_11 : zcode 111 11 = some (.bipush 22, 2, 0, 0, 0) := by decide +kernel
theorem c_111_13 : zcode 111 13 = some (.isub, 1, 0, 0, 0) := by decide +kernel
theorem c_111_14 : zcode 111 14 = some (.iconst 1, 1, 0, 0, 0) := by decide +kernel
theorem c_111_15 : zcode 111 15 = some (.iadd, 1, 0, 0, 0) := by decide +kernel
theorem c_111_16 : zcode 111 16 = some (.invokevirtual 214, 3, 53, 0, 3004) := by decide +kernel
theorem c_111_19 : zcode 111 19 = some (.pop, 1, 0, 0, 0) := by decide +kernel
theorem c_111_20 : zcode 111 20 = some (.iconst 0, 1, 0, 0, 0) := by decide +kernel
theorem c_111_21 : zcode 111 21 = some (.ireturn, 1, 0, 0, 0) := by decide +kernel
theorem c_111_22 : zcode 111 22 = some (.iload_n 1, 1, 0, 0, 0) := by decide +kernel
theorem c_111_23 : zcode 111 23 = some (.bipush 16, 2, 0, 0, 0) := by decide +kernel
theorem c_111_25 : zcode 111 25 = some (.if_icmp .lt 19, 3, 44, 0, 0) := by decide +kernel
theorem c_111_28 : zcode 111 28 = some (.aload_n 0, 1, 0, 0, 0) := by decide +kernel
theorem c_111_29 : zcode 111 29 = some (.getfield 35, 3, 7, 4, 1197) := by decide +kernel
theorem c_111_32 : zcode 111 32 = some (.aload_n 0, 1, 0, 0, 0) := by decide +kernel
theorem c_111_33 : zcode 111 33 = some (.getfield 21, 3, 7, 1, 1194) := by decide +kernel
theorem c_111_36 : zcode 111 36 = some (.iload_n 1, 1, 0, 0, 0) := by decide +kernel
theorem c_111_37 : zcode 111 37 = some (.bipush 16, 2, 0, 0, 0) := by decide +kernel
theorem c_111_39 : zcode 111 39 = some (.isub, 1, 0, 0, 0) := by decide +kernel
theorem c_111_40 : zcode 111 40 = some (.invokevirtual 203, 3, 51, 0, 2219) := by decide +kernel
theorem c_111_43 : zcode 111 43 = some (.ireturn, 1, 0, 0, 0) := by decide +kernel
theorem c_111_44 : zcode 111 44 = some (.iload_n 1, 1, 0, 0, 0) := by decide +kernel
theorem c_111_45 : zcode 111 45 = some (.iconst 4, 1, 0, 0, 0) := by decide +kernel
theorem c_111_46 : zcode 111 46 = some (.idiv, 1, 0, 0, 0) := by decide +kernel
theorem c_111_47 : zcode 111 47 = some (.istore_n 2, 1, 0, 0, 0) := by decide +kernel
theorem c_111_48 : zcode 111 48 = some (.iload_n 1, 1, 0, 0, 0) := by decide +kernel
theorem c_111_49 : zcode 111 49 = some (.iconst 4, 1, 0, 0, 0) := by decide +kernel
theorem c_111_50 : zcode 111 50 = some (.irem, 1, 0, 0, 0) := by decide +kernel
theorem c_111_51 : zcode 111 51 = some (.istore_n 3, 1, 0, 0, 0) := by decide +kernel
theorem c_111_52 : zcode 111 52 = some (.aload_n 0, 1, 0, 0, 0) := by decide +kernel
theorem c_111_53 : zcode 111 53 = some (.getfield 21, 3, 7, 1, 1194) := by decide +kernel
theorem c_111_56 : zcode 111 56 = some (.iload_n 2, 1, 0, 0, 0) := by decide +kernel
theorem c_111_57 : zcode 111 57 = some (.invokevirtual 137, 3, 24, 0, 2118) := by decide +kernel
theorem c_111_60 : zcode 111 60 = some (.ifCond .eq 27, 3, 87, 0, 0) := by decide +kernel
theorem c_111_63 : zcode 111 63 = some (.aload_n 0, 1, 0, 0, 0) := by decide +kernel
theorem c_111_64 : zcode 111 64 = some (.getfield 21, 3, 7, 1, 1194) := by decide +kernel
theorem c_111_67 : zcode 111 67 = some (.iload_n 3, 1, 0, 0, 0) := by decide +kernel
theorem c_111_68 : zcode 111 68 = some (.invokevirtual 152, 3, 25, 0, 2135) := by decide +kernel
theorem c_111_71 : zcode 111 71 = some (.ifCond .eq 16, 3, 87, 0, 0) := by decide +kernel
theorem c_111_74 : zcode 111 74 = some (.aload_n 0, 1, 0, 0, 0) := by decide +kernel
theorem c_111_75 : zcode 111 75 = some (.getfield 35, 3, 7, 4, 1197) := by decide +kernel
theorem c_111_78 : zcode 111 78 = some (.aload_n 0, 1, 0, 0, 0) := by decide +kernel
theorem c_111_79 : zcode 111 79 = some (.getfield 21, 3, 7, 1, 1194) := by decide +kernel
theorem c_111_82 : zcode 111 82 = some (.iload_n 2, 1, 0, 0, 0) := by decide +kernel
theorem c_111_83 : zcode 111 83 = some (.iload_n 3, 1, 0, 0, 0) := by decide +kernel
theorem c_111_84 : zcode 111 84 = some (.invokevirtual 196, 3, 42, 0, 2209) := by decide +kernel
theorem c_111_87 : zcode 111 87 = some (.iconst 0, 1, 0, 0, 0) := by decide +kernel
theorem c_111_88 : zcode 111 88 = some (.ireturn, 1, 0, 0, 0) := by decide +kernel
theorem c_112_0 : zcode 112 0 = some (.iload_n 1, 1, 0, 0, 0) := by decide +kernel
theorem c_112_1 : zcode 112 1 = some (.ifCond .lt 8, 3, 9, 0, 0) := by decide +kernel
theorem c_112_4 : zcode 112 4 = some (.iload_n 1, 1, 0, 0, 0) := by decide +kernel
theorem c_112_5 : zcode 112 5 = some (.iconst 2, 1, 0, 0, 0) := by decide +kernel
theorem c_112_6 : zcode 112 6 = some (.if_icmp .lt 5, 3, 11, 0, 0) := by decide +kernel
theorem c_112_9 : zcode 112 9 = some (.iconst (-1), 1, 0, 0, 0) := by decide +kernel
theorem c_112_10 : zcode 112 10 = some (.ireturn, 1, 0, 0, 0) := by decide +kernel
theorem c_112_11 : zcode 112 11 = some (.aload_n 0, 1, 0, 0, 0) := by decide +kernel
theorem c_112_12 : zcode 112 12 = some (.getfield 64, 3, 7, 8, 1201) := by decide +kernel
theorem c_112_15 : zcode 112 15 = some (.iload_n 1, 1, 0, 0, 0) := by decide +kernel
theorem c_112_16 : zcode 112 16 = some (.aload_n 0, 1, 0, 0, 0) := by decide +kernel
theorem c_112_17 : zcode 112 17 = some (.getfield 31, 3, 7, 3, 1196) := by decide +kernel
theorem c_112_20 : zcode 112 20 = some (.invokevirtual 330, 3, 56, 0, 3233) := by decide +kernel
theorem c_112_23 : zcode 112 23 = some (.aload_n 0, 1, 0, 0, 0) := by decide +kernel
theorem c_112_24 : zcode 112 24 = some (.dup, 1, 0, 0, 0) := by decide +kernel
theorem c_112_25 : zcode 112 25 = some (.getfield 98, 3, 7, 9, 1202) := by decide +kernel
theorem c_112_28 : zcode 112 28 = some (.iconst 1, 1, 0, 0, 0) := by decide +kernel
theorem c_112_29 : zcode 112 29 = some (.iload_n 1, 1, 0, 0, 0) := by decide +kernel
theorem c_112_30 : zcode 112 30 = some (.ishl, 1, 0, 0, 0) := by decide +kernel
theorem c_112_31 : zcode 112 31 = some (.ior, 1, 0, 0, 0) := by decide +kernel
theorem c_112_32 : zcode 112 32 = some (.putfield 98, 3, 7, 9, 1202) := by decide +kernel
theorem c_112_35 : zcode 112 35 = some (.aload_n 0, 1, 0, 0, 0) := by decide +kernel
theorem c_112_36 : zcode 112 36 = some (.getfield 31, 3, 7, 3, 1196) := by decide +kernel
theorem c_112_39 : zcode 112 39 = some (.getfield 123, 3, 4, 2, 1100) := by decide +kernel
theorem c_112_42 : zcode 112 42 = some (.ireturn, 1, 0, 0, 0) := by decide +kernel
theorem c_113_0 : zcode 113 0 = some (.iload_n 1, 1, 0, 0, 0) := by decide +kernel
theorem c_113_1 : zcode 113 1 = some (.ifCond .lt 8, 3, 9, 0, 0) := by decide +kernel
theorem c_113_4 : zcode 113 4 = some (.iload_n 1, 1, 0, 0, 0) := by decide +kernel
theorem c_113_5 : zcode 113 5 = some (.iconst 2, 1, 0, 0, 0) := by decide +kernel
theorem c_113_6 : zcode 113 6 = some (.if_icmp .lt 5, 3, 11, 0, 0) := by decide +kernel
theorem c_113_9 : zcode 113 9 = some (.iconst (-1), 1, 0, 0, 0) := by decide +kernel
theorem c_113_10 : zcode 113 10 = some (.ireturn, 1, 0, 0, 0) := by decide +kernel
theorem c_113_11 : zcode 113 11 = some (.aload_n 0, 1, 0, 0, 0) := by decide +kernel
theorem c_113_12 : zcode 113 12 = some (.getfield 98, 3, 7, 9, 1202) := by decide +kernel
theorem c_113_15 : zcode 113 15 = some (.iload_n 1, 1, 0, 0, 0) := by decide +kernel
theorem c_113_16 : zcode 113 16 = some (.invokestatic 255, 3, 114, 0, 3108) := by decide +kernel
theorem c_113_19 : zcode 113 19 = some (.ifCond .ne 6, 3, 25, 0, 0) := by decide +kernel
theorem c_113_22 : zcode 113 22 = some (.bipush (-3), 2, 0, 0, 0) := by decide +kernel
theorem c_113_24 : zcode 113 24 = some (.ireturn, 1, 0, 0, 0) := by decide +kernel
theorem c_113_25 : zcode 113 25 = some (.aload_n 0, 1, 0, 0, 0) := by decide +kernel
theorem c_113_26 : zcode 113 26 = some (.getfield 64, 3, 7, 8, 1201) := by decide +kernel
theorem c_113_29 : zcode 113 29 = some (.iload_n 1, 1, 0, 0, 0) := by decide +kernel
theorem c_113_30 : zcode 113 30 = some (.aload_n 0, 1, 0, 0, 0) := by decide +kernel
theorem c_113_31 : zcode 113 31 = some (.getfield 31, 3, 7, 3, 1196) := by decide +kernel
theorem c_113_34 : zcode 113 34 = some (.invokevirtual 334, 3, 57, 0, 3238) := by decide +kernel
theorem c_113_37 : zcode 113 37 = some (.aload_n 0, 1, 0, 0, 0) := by decide +kernel
theorem c_113_38 : zcode 113 38 = some (.getfield 41, 3, 7, 5, 1198) := by decide +kernel
theorem c_113_41 : zcode 113 41 = some (.invokevirtual 97, 3, 2, 0, 2052) := by decide +kernel
theorem c_113_44 : zcode 113 44 = some (.aload_n 0, 1, 0, 0, 0) := by decide +kernel
theorem c_113_45 : zcode 113 45 = some (.getfield 31, 3, 7, 3, 1196) := by decide +kernel
theorem c_113_48 : zcode 113 48 = some (.getfield 123, 3, 4, 2, 1100) := by decide +kernel
theorem c_113_51 : zcode 113 51 = some (.ireturn, 1, 0, 0, 0) := by decide +kernel
theorem c_114_0 : zcode 114 0 = some (.iload_n 0, 1, 0, 0, 0) := by decide +kernel
theorem c_114_1 : zcode 114 1 = some (.iload_n 1, 1, 0, 0, 0) := by decide +kernel
theorem c_114_2 : zcode 114 2 = some (.ishr, 1, 0, 0, 0) := by decide +kernel
theorem c_114_3 : zcode 114 3 = some (.iconst 1, 1, 0, 0, 0) := by decide +kernel
theorem c_114_4 : zcode 114 4 = some (.iand, 1, 0, 0, 0) := by decide +kernel
theorem c_114_5 : zcode 114 5 = some (.iconst 1, 1, 0, 0, 0) := by decide +kernel
theorem c_114_6 : zcode 114 6 = some (.if_icmp .ne 7, 3, 13, 0, 0) := by decide +kernel
theorem c_114_9 : zcode 114 9 = some (.iconst 1, 1, 0, 0, 0) := by decide +kernel
theorem c_114_10 : zcode 114 10 = some (.goto 4, 3, 14, 0, 0) := by decide +kernel
theorem c_114_13 : zcode 114 13 = some (.iconst 0, 1, 0, 0, 0) := by decide +kernel
theorem c_114_14 : zcode 114 14 = some (.ireturn, 1, 0, 0, 0) := by decide +kernel
theorem c_115_0 : zcode 115 0 = some (.iload_n 0, 1, 0, 0, 0) := by decide +kernel
theorem c_115_1 : zcode 115 1 = some (.iconst 3, 1, 0, 0, 0) := by decide +kernel
theorem c_115_2 : zcode 115 2 = some (.if_icmp .ge 16, 3, 18, 0, 0) := by decide +kernel
theorem c_115_5 : zcode 115 5 = some (.iload_n 1, 1, 0, 0, 0) := by decide +kernel
theorem c_115_6 : zcode 115 6 = some (.iload_n 0, 1, 0, 0, 0) := by decide +kernel
theorem c_115_7 : zcode 115 7 = some (.iconst 1, 1, 0, 0, 0) := by decide +kernel
theorem c_115_8 : zcode 115 8 = some (.iadd, 1, 0, 0, 0) := by decide +kernel
theorem c_115_9 : zcode 115 9 = some (.if_icmp .ne 9, 3, 18, 0, 0) := by decide +kernel
theorem c_115_12 : zcode 115 12 = some (.iload_n 0, 1, 0, 0, 0) := by decide +kernel
theorem c_115_13 : zcode 115 13 = some (.iconst 1, 1, 0, 0, 0) := by decide +kernel
theorem c_115_14 : zcode 115 14 = some (.iadd, 1, 0, 0, 0) := by decide +kernel
theorem c_115_15 : zcode 115 15 = some (.goto 4, 3, 19, 0, 0) := by decide +kernel
theorem c_115_18 : zcode 115 18 = some (.iload_n 0, 1, 0, 0, 0) := by decide +kernel
theorem c_115_19 : zcode 115 19 = some (.ireturn, 1, 0, 0, 0) := by decide +kernel
theorem c_117_0 : zcode 117 0 = some (.lload_n 0, 1, 0, 0, 0) := by decide +kernel
theorem c_117_1 : zcode 117 1 = some (.lload_n 2, 1, 0, 0, 0) := by decide +kernel
theorem c_117_2 : zcode 117 2 = some (.lcmp, 1, 0, 0, 0) := by decide +kernel
theorem c_117_3 : zcode 117 3 = some (.ifCond .lt 14, 3, 17, 0, 0) := by decide +kernel
theorem c_117_6 : zcode 117 6 = some (.lload_n 0, 1, 0, 0, 0) := by decide +kernel
theorem c_117_7 : zcode 117 7 = some (.lload 4, 2, 0, 0, 0) := by decide +kernel
theorem c_117_9 : zcode 117 9 = some (.lcmp, 1, 0, 0, 0) := by decide +kernel
theorem c_117_10 : zcode 117 10 = some (.ifCond .gt 7, 3, 17, 0, 0) := by decide +kernel
theorem c_117_13 : zcode 117 13 = some (.iconst 1, 1, 0, 0, 0) := by decide +kernel
theorem c_117_14 : zcode 117 14 = some (.goto 4, 3, 18, 0, 0) := by decide +kernel
theorem c_117_17 : zcode 117 17 = some (.iconst 0, 1, 0, 0, 0) := by decide +kernel
theorem c_117_18 : zcode 117 18 = some (.ireturn, 1, 0, 0, 0) := by decide +kernel
theorem c_118_0 : zcode 118 0 = some (.iload_n 0, 1, 0, 0, 0) := by decide +kernel
theorem c_118_1 : zcode 118 1 = some (.iload_n 1, 1, 0, 0, 0) := by decide +kernel
theorem c_118_2 : zcode 118 2 = some (.ishr, 1, 0, 0, 0) := by decide +kernel
theorem c_118_3 : zcode 118 3 = some (.iconst 1, 1, 0, 0, 0) := by decide +kernel
theorem c_118_4 : zcode 118 4 = some (.iand, 1, 0, 0, 0) := by decide +kernel
theorem c_118_5 : zcode 118 5 = some (.iconst 1, 1, 0, 0, 0) := by decide +kernel
theorem c_118_6 : zcode 118 6 = some (.if_icmp .ne 7, 3, 13, 0, 0) := by decide +kernel
theorem c_118_9 : zcode 118 9 = some (.iconst 1, 1, 0, 0, 0) := by decide +kernel
theorem c_118_10 : zcode 118 10 = some (.goto 4, 3, 14, 0, 0) := by decide +kernel
theorem c_118_13 : zcode 118 13 = some (.iconst 0, 1, 0, 0, 0) := by decide +kernel
theorem c_118_14 : zcode 118 14 = some (.ireturn, 1, 0, 0, 0) := by decide +kernel
theorem c_119_0 : zcode 119 0 = some (.iconst 0, 1, 0, 0, 0) := by decide +kernel
theorem c_119_1 : zcode 119 1 = some (.istore_n 1, 1, 0, 0, 0) := by decide +kernel
theorem c_119_2 : zcode 119 2 = some (.iconst 0, 1, 0, 0, 0) := by decide +kernel
theorem c_119_3 : zcode 119 3 = some (.istore_n 2, 1, 0, 0, 0) := by decide +kernel
theorem c_119_4 : zcode 119 4 = some (.iload_n 2, 1, 0, 0, 0) := by decide +kernel
theorem c_119_5 : zcode 119 5 = some (.bipush 6, 2, 0, 0, 0) := by decide +kernel
theorem c_119_7 : zcode 119 7 = some (.if_icmp .ge 17, 3, 24, 0, 0) := by decide +kernel
theorem c_119_10 : zcode 119 10 = some (.iload_n 1, 1, 0, 0, 0) := by decide +kernel
theorem c_119_11 : zcode 119 11 = some (.iload_n 0, 1, 0, 0, 0) := by decide +kernel
theorem c_119_12 : zcode 119 12 = some (.iload_n 2, 1, 0, 0, 0) := by decide +kernel
theorem c_119_13 : zcode 119 13 = some (.ishr, 1, 0, 0, 0) := by decide +kernel
theorem c_119_14 : zcode 119 14 = some (.iconst 1, 1, 0, 0, 0) := by decide +kernel
theorem c_119_15 : zcode 119 15 = some (.iand, 1, 0, 0, 0) := by decide +kernel
theorem c_119_16 : zcode 119 16 = some (.iadd, 1, 0, 0, 0) := by decide +kernel
theorem c_119_17 : zcode 119 17 = some (.istore_n 1, 1, 0, 0, 0) := by decide +kernel
theorem c_119_18 : zcode 119 18 = some (.iinc 2 1, 3, 0, 0, 0) := by decide +kernel
theorem c_119_21 : zcode 119 21 = some (.goto (-17), 3, 4, 0, 0) := by decide +kernel
theorem c_119_24 : zcode 119 24 = some (.iload_n 1, 1, 0, 0, 0) := by decide +kernel
theorem c_119_25 : zcode 119 25 = some (.ireturn, 1, 0, 0, 0) := by decide +kernel
theorem c_120_0 : zcode 120 0 = some (.iconst 1, 1, 0, 0, 0) := by decide +kernel
theorem c_120_1 : zcode 120 1 = some (.istore_n 2, 1, 0, 0, 0) := by decide +kernel
theorem c_120_2 : zcode 120 2 = some (.iconst 0, 1, 0, 0, 0) := by decide +kernel
theorem c_120_3 : zcode 120 3 = some (.istore_n 3, 1, 0, 0, 0) := by decide +kernel
theorem c_120_4 : zcode 120 4 = some (.iload_n 3, 1, 0, 0, 0) := by decide +kernel
theorem c_120_5 : zcode 120 5 = some (.iload_n 1, 1, 0, 0, 0) := by decide +kernel
theorem c_120_6 : zcode 120 6 = some (.if_icmp .ge 13, 3, 19, 0, 0) := by decide +kernel
theorem c_120_9 : zcode 120 9 = some (.iload_n 2, 1, 0, 0, 0) := by decide +kernel
theorem c_120_10 : zcode 120 10 = some (.iload_n 0, 1, 0, 0, 0) := by decide +kernel
theorem c_120_11 : zcode 120 11 = some (.imul, 1, 0, 0, 0) := by decide +kernel
theorem c_120_12 : zcode 120 12 = some (.istore_n 2, 1, 0, 0, 0) := by decide +kernel
theorem c_120_13 : zcode 120 13 = some (.iinc 3 1, 3, 0, 0, 0) := by decide +kernel
theorem c_120_16 : zcode 120 16 = some (.goto (-12), 3, 4, 0, 0) := by decide +kernel
theorem c_120_19 : zcode 120 19 = some (.iload_n 2, 1, 0, 0, 0) := by decide +kernel
theorem c_120_20 : zcode 120 20 = some (.ireturn, 1, 0, 0, 0) := by decide +kernel
theorem c_121_0 : zcode 121 0 = some (.iload_n 1, 1, 0, 0, 0) := by decide +kernel
theorem c_121_1 : zcode 121 1 = some (.i2l, 1, 0, 0, 0) := by decide +kernel
theorem c_121_2 : zcode 121 2 = some (.lconst 0, 1, 0, 0, 0) := by decide +kernel
theorem c_121_3 : zcode 121 3 = some (.aload_n 0, 1, 0, 0, 0) := by decide +kernel
theorem c_121_4 : zcode 121 4 = some (.getfield 75, 3, 8, 4, 4009) := by decide +kernel
theorem c_121_7 : zcode 121 7 = some (.iconst 1, 1, 0, 0, 0) := by decide +kernel
theorem c_121_8 : zcode 121 8 = some (.isub, 1, 0, 0, 0) := by decide +kernel
theorem c_121_9 : zcode 121 9 = some (.i2l, 1, 0, 0, 0) := by decide +kernel
theorem c_121_10 : zcode 121 10 = some (.invokestatic 78, 3, 117, 0, 4135) := by decide +kernel
theorem c_121_13 : zcode 121 13 = some (.ifCond .ne 7, 3, 20, 0, 0) := by decide +kernel
theorem c_121_16 : zcode 121 16 = some (.iconst 1, 1, 0, 0, 0) := by decide +kernel
theorem c_121_17 : zcode 121 17 = some (.goto 4, 3, 21, 0, 0) := by decide +kernel
theorem c_121_20 : zcode 121 20 = some (.iconst 0, 1, 0, 0, 0) := by decide +kernel
theorem c_121_21 : zcode 121 21 = some (.ireturn, 1, 0, 0, 0) := by decide +kernel
theorem c_122_0 : zcode 122 0 = some (.iload_n 1, 1, 0, 0, 0) := by decide +kernel
theorem c_122_1 : zcode 122 1 = some (.i2l, 1, 0, 0, 0) := by decide +kernel
theorem c_122_2 : zcode 122 2 = some (.lconst 0, 1, 0, 0, 0) := by decide +kernel
theorem c_122_3 : zcode 122 3 = some (.aload_n 0, 1, 0, 0, 0) := by decide +kernel
theorem c_122_4 : zcode 122 4 = some (.getfield 82, 3, 8, 6, 4011) := by decide +kernel
theorem c_122_7 : zcode 122 7 = some (.iconst 1, 1, 0, 0, 0) := by decide +kernel
theorem c_122_8 : zcode 122 8 = some (.isub, 1, 0, 0, 0) := by decide +kernel
theorem c_122_9 : zcode 122 9 = some (.i2l, 1, 0, 0, 0) := by decide +kernel
theorem c_122_10 : zcode 122 10 = some (.invokestatic 78, 3, 117, 0, 4135) := by decide +kernel
theorem c_122_13 : zcode 122 13 = some (.ifCond .ne 7, 3, 20, 0, 0) := by decide +kernel
theorem c_122_16 : zcode 122 16 = some (.iconst 1, 1, 0, 0, 0) := by decide +kernel
theorem c_122_17 : zcode 122 17 = some (.goto 4, 3, 21, 0, 0) := by decide +kernel
theorem c_122_20 : zcode 122 20 = some (.iconst 0, 1, 0, 0, 0) := by decide +kernel
theorem c_122_21 : zcode 122 21 = some (.ireturn, 1, 0, 0, 0) := by decide +kernel
theorem c_123_0 : zcode 123 0 = some (.iload_n 1, 1, 0, 0, 0) := by decide +kernel
theorem c_123_1 : zcode 123 1 = some (.i2l, 1, 0, 0, 0) := by decide +kernel
theorem c_123_2 : zcode 123 2 = some (.lconst 0, 1, 0, 0, 0) := by decide +kernel
theorem c_123_3 : zcode 123 3 = some (.aload_n 0, 1, 0, 0, 0) := by decide +kernel
theorem c_123_4 : zcode 123 4 = some (.getfield 85, 3, 8, 8, 4013) := by decide +kernel
theorem c_123_7 : zcode 123 7 = some (.iconst 1, 1, 0, 0, 0) := by decide +kernel
theorem c_123_8 : zcode 123 8 = some (.isub, 1, 0, 0, 0) := by decide +kernel
theorem c_123_9 : zcode 123 9 = some (.i2l, 1, 0, 0, 0) := by decide +kernel
theorem c_123_10 : zcode 123 10 = some (.invokestatic 78, 3, 117, 0, 4135) := by decide +kernel
theorem c_123_13 : zcode 123 13 = some (.ifCond .ne 7, 3, 20, 0, 0) := by decide +kernel
theorem c_123_16 : zcode 123 16 = some (.iconst 1, 1, 0, 0, 0) := by decide +kernel
theorem c_123_17 : zcode 123 17 = some (.goto 4, 3, 21, 0, 0) := by decide +kernel
theorem c_123_20 : zcode 123 20 = some (.iconst 0, 1, 0, 0, 0) := by decide +kernel
theorem c_123_21 : zcode 123 21 = some (.ireturn, 1, 0, 0, 0) := by decide +kernel
theorem c_124_0 : zcode 124 0 = some (.aload_n 0, 1, 0, 0, 0) := by decide +kernel
theorem c_124_1 : zcode 124 1 = some (.iconst 0, 1, 0, 0, 0) := by decide +kernel
theorem c_124_2 : zcode 124 2 = some (.putfield 71, 3, 8, 0, 4005) := by decide +kernel
theorem c_124_5 : zcode 124 5 = some (.iload_n 1, 1, 0, 0, 0) := by decide +kernel
theorem c_124_6 : zcode 124 6 = some (.i2l, 1, 0, 0, 0) := by decide +kernel
theorem c_124_7 : zcode 124 7 = some (.lconst 0, 1, 0, 0, 0) := by decide +kernel
theorem c_124_8 : zcode 124 8 = some (.ldc2_w 88, 3, 255, 0, 4134) := by decide +kernel
theorem c_124_11 : zcode 124 11 = some (.invokestatic 78, 3, 117, 0, 4135) := by decide +kernel
theorem c_124_14 : zcode 124 14 = some (.ifCond .ne 6, 3, 20, 0, 0) := by decide +kernel
theorem c_124_17 : zcode 124 17 = some (.bipush (-2), 2, 0, 0, 0) := by decide +kernel
theorem c_124_19 : zcode 124 19 = some (.ireturn, 1, 0, 0, 0) := by decide +kernel
theorem c_124_20 : zcode 124 20 = some (.aload_n 0, 1, 0, 0, 0) := by decide +kernel
theorem c_124_21 : zcode 124 21 = some (.getfield 90, 3, 8, 2, 4007) := by decide +kernel
theorem c_124_24 : zcode 124 24 = some (.bipush 56, 2, 0, 0, 0) := by decide +kernel
theorem c_124_26 : zcode 124 26 = some (.if_icmp .ne 6, 3, 32, 0, 0) := by decide +kernel
theorem c_124_29 : zcode 124 29 = some (.bipush (-4), 2, 0, 0, 0) := by decide +kernel
theorem c_124_31 : zcode 124 31 = some (.ireturn, 1, 0, 0, 0) := by decide +kernel
theorem c_124_32 : zcode 124 32 = some (.aload_n 0, 1, 0, 0, 0) := by decide +kernel
theorem c_124_33 : zcode 124 33 = some (.getfield 7, 3, 8, 1, 4006) := by decide +kernel
theorem c_124_36 : zcode 124 36 = some (.aload_n 0, 1, 0, 0, 0) := by decide +kernel
theorem c_124_37 : zcode 124 37 = some (.getfield 90, 3, 8, 2, 4007) := by decide +kernel
theorem c_124_40 : zcode 124 40 = some (.iload_n 1, 1, 0, 0, 0) := by decide +kernel
theorem c_124_41 : zcode 124 41 = some (.iastore, 1, 0, 0, 0) := by decide +kernel
theorem c_124_42 : zcode 124 42 = some (.aload_n 0, 1, 0, 0, 0) := by decide +kernel
theorem c_124_43 : zcode 124 43 = some (.dup, 1, 0, 0, 0) := by decide +kernel
theorem c_124_44 : zcode 124 44 = some (.getfield 90, 3, 8, 2, 4007) := by decide +kernel
theorem c_124_47 : zcode 124 47 = some (.iconst 1, 1, 0, 0, 0) := by decide +kernel
theorem c_124_48 : zcode 124 48 = some (.iadd, 1, 0, 0, 0) := by decide +kernel
theorem c_124_49 : zcode 124 49 = some (.putfield 90, 3, 8, 2, 4007) := by decide +kernel
theorem c_124_52 : zcode 124 52 = some (.aload_n 0, 1, 0, 0, 0) := by decide +kernel
theorem c_124_53 : zcode 124 53 = some (.getfield 90, 3, 8, 2, 4007) := by decide +kernel
theorem c_124_56 : zcode 124 56 = some (.ireturn, 1, 0, 0, 0) := by decide +kernel
theorem c_125_0 : zcode 125 0 = some (.aload_n 0, 1, 0, 0, 0) := by decide +kernel
theorem c_125_1 : zcode 125 1 = some (.iconst 0, 1, 0, 0, 0) := by decide +kernel
theorem c_125_2 : zcode 125 2 = some (.putfield 71, 3, 8, 0, 4005) := by decide +kernel
theorem c_125_5 : zcode 125 5 = some (.aload_n 0, 1, 0, 0, 0) := by decide +kernel
theorem c_125_6 : zcode 125 6 = some (.getfield 90, 3, 8, 2, 4007) := by decide +kernel
theorem c_125_9 : zcode 125 9 = some (.istore_n 1, 1, 0, 0, 0) := by decide +kernel
theorem c_125_10 : zcode 125 10 = some (.aload_n 0, 1, 0, 0, 0) := by decide +kernel
theorem c_125_11 : zcode 125 11 = some (.iconst 0, 1, 0, 0, 0) := by decide +kernel
theorem c_125_12 : zcode 125 12 = some (.putfield 90, 3, 8, 2, 4007) := by decide +kernel
theorem c_125_15 : zcode 125 15 = some (.iload_n 1, 1, 0, 0, 0) := by decide +kernel
theorem c_125_16 : zcode 125 16 = some (.ireturn, 1, 0, 0, 0) := by decide +kernel
theorem c_126_0 : zcode 126 0 = some (.aload_n 0, 1, 0, 0, 0) := by decide +kernel
theorem c_126_1 : zcode 126 1 = some (.getfield 93, 3, 8, 3, 4008) := by decide +kernel
theorem c_126_4 : zcode 126 4 = some (.aload_n 0, 1, 0, 0, 0) := by decide +kernel
theorem c_126_5 : zcode 126 5 = some (.getfield 90, 3, 8, 2, 4007) := by decide +kernel
theorem c_126_8 : zcode 126 8 = some (.if_icmp .eq 26, 3, 34, 0, 0) := by decide +kernel
theorem c_126_11 : zcode 126 11 = some (.aload_n 0, 1, 0, 0, 0) := by decide +kernel
theorem c_126_12 : zcode 126 12 = some (.getfield 7, 3, 8, 1, 4006) := by decide +kernel
theorem c_126_15 : zcode 126 15 = some (.aload_n 0, 1, 0, 0, 0) := by decide +kernel
theorem c_126_16 : zcode 126 16 = some (.getfield 93, 3, 8, 3, 4008) := by decide +kernel
theorem c_126_19 : zcode 126 19 = some (.iaload, 1, 0, 0, 0) := by decide +kernel
theorem c_126_20 : zcode 126 20 = some (.bipush 48, 2, 0, 0, 0) := by decide +kernel
theorem c_126_22 : zcode 126 22 = some (.isub, 1, 0, 0, 0) := by decide +kernel
theorem c_126_23 : zcode 126 23 = some (.i2l, 1, 0, 0, 0) := by decide +kernel
theorem c_126_24 : zcode 126 24 = some (.iload_n 1, 1, 0, 0, 0) := by decide +kernel
theorem c_126_25 : zcode 126 25 = some (.i2l, 1, 0, 0, 0) := by decide +kernel
theorem c_126_26 : zcode 126 26 = some (.iload_n 2, 1, 0, 0, 0) := by decide +kernel
theorem c_126_27 : zcode 126 27 = some (.i2l, 1, 0, 0, 0) := by decide +kernel
theorem c_126_28 : zcode 126 28 = some (.invokestatic 78, 3, 117, 0, 4135) := by decide +kernel
theorem c_126_31 : zcode 126 31 = some (.ifCond .ne 6, 3, 37, 0, 0) := by decide +kernel
theorem c_126_34 : zcode 126 34 = some (.bipush (-9), 2, 0, 0, 0) := by decide +kernel
theorem c_126_36 : zcode 126 36 = some (.ireturn, 1, 0, 0, 0) := by decide +kernel
theorem c_126_37 : zcode 126 37 = some (.aload_n 0, 1, 0, 0, 0) := by decide +kernel
theorem c_126_38 : zcode 126 38 = some (.dup, 1, 0, 0, 0) := by decide +kernel
theorem c_126_39 : zcode 126 39 = some (.getfield 93, 3, 8, 3, 4008) := by decide +kernel
theorem c_126_42 : zcode 126 42 = some (.iconst 1, 1, 0, 0, 0) := by decide +kernel
theorem c_126_43 : zcode 126 43 = some (.iadd, 1, 0, 0, 0) := by decide +kernel
theorem c_126_44 : zcode 126 44 = some (.putfield 93, 3, 8, 3, 4008) := by decide +kernel
theorem c_126_47 : zcode 126 47 = some (.aload_n 0, 1, 0, 0, 0) := by decide +kernel
theorem c_126_48 : zcode 126 48 = some (.getfield 7, 3, 8, 1, 4006) := by decide +kernel
theorem c_126_51 : zcode 126 51 = some (.aload_n 0, 1, 0, 0, 0) := by decide +kernel
theorem c_126_52 : zcode 126 52 = some (.getfield 93, 3, 8, 3, 4008) := by decide +kernel
theorem c_126_55 : zcode 126 55 = some (.iconst 1, 1, 0, 0, 0) := by decide +kernel
theorem c_126_56 : zcode 126 56 = some (.isub, 1, 0, 0, 0) := by decide +kernel
theorem c_126_57 : zcode 126 57 = some (.iaload, 1, 0, 0, 0) := by decide +kernel
theorem c_126_58 : zcode 126 58 = some (.bipush 48, 2, 0, 0, 0) := by decide +kernel
theorem c_126_60 : zcode 126 60 = some (.isub, 1, 0, 0, 0) := by decide +kernel
theorem c_126_61 : zcode 126 61 = some (.ireturn, 1, 0, 0, 0) := by decide +kernel
theorem c_127_0 : zcode 127 0 = some (.aload_n 0, 1, 0, 0, 0) := by decide +kernel
theorem c_127_1 : zcode 127 1 = some (.iconst 1, 1, 0, 0, 0) := by decide +kernel
theorem c_127_2 : zcode 127 2 = some (.bipush 9, 2, 0, 0, 0) := by decide +kernel
theorem c_127_4 : zcode 127 4 = some (.invokevirtual 96, 3, 126, 0, 4158) := by decide +kernel
theorem c_127_7 : zcode 127 7 = some (.istore_n 1, 1, 0, 0, 0) := by decide +kernel
theorem c_127_8 : zcode 127 8 = some (.iload_n 1, 1, 0, 0, 0) := by decide +kernel
theorem c_127_9 : zcode 127 9 = some (.bipush (-9), 2, 0, 0, 0) := by decide +kernel
theorem c_127_11 : zcode 127 11 = some (.if_icmp .ne 8, 3, 19, 0, 0) := by decide +kernel
theorem c_127_14 : zcode 127 14 = some (.bipush (-9), 2, 0, 0, 0) := by decide +kernel
theorem c_127_16 : zcode 127 16 = some (.goto 9, 3, 25, 0, 0) := by decide +kernel
theorem c_127_19 : zcode 127 19 = some (.aload_n 0, 1, 0, 0, 0) := by decide +kernel
theorem c_127_20 : zcode 127 20 = some (.iconst 0, 1, 0, 0, 0) := by decide +kernel
theorem c_127_21 : zcode 127 21 = some (.iconst 3, 1, 0, 0, 0) := by decide +kernel
theorem c_127_22 : zcode 127 22 = some (.invokevirtual 96, 3, 126, 0, 4158) := by decide +kernel
theorem c_127_25 : zcode 127 25 = some (.istore_n 2, 1, 0, 0, 0) := by decide +kernel
theorem c_127_26 : zcode 127 26 = some (.iload_n 2, 1, 0, 0, 0) := by decide +kernel
theorem c_127_27 : zcode 127 27 = some (.bipush (-9), 2, 0, 0, 0) := by decide +kernel
theorem c_127_29 : zcode 127 29 = some (.if_icmp .ne 5, 3, 34, 0, 0) := by decide +kernel
theorem c_127_32 : zcode 127 32 = some (.iconst 0, 1, 0, 0, 0) := by decide +kernel
theorem c_127_33 : zcode 127 33 = some (.ireturn, 1, 0, 0, 0) := by decide +kernel
theorem c_127_34 : zcode 127 34 = some (.aload_n 0, 1, 0, 0, 0) := by decide +kernel
theorem c_127_35 : zcode 127 35 = some (.getfield 22, 3, 8, 11, 4016) := by decide +kernel
theorem c_127_38 : zcode 127 38 = some (.iconst 2, 1, 0, 0, 0) := by decide +kernel
theorem c_127_39 : zcode 127 39 = some (.aload_n 0, 1, 0, 0, 0) := by decide +kernel
theorem c_127_40 : zcode 127 40 = some (.getfield 100, 3, 8, 10, 4015) := by decide +kernel
theorem c_127_43 : zcode 127 43 = some (.imul, 1, 0, 0, 0) := by decide +kernel
theorem c_127_44 : zcode 127 44 = some (.iload_n 1, 1, 0, 0, 0) := by decide +kernel
theorem c_127_45 : zcode 127 45 = some (.iastore, 1, 0, 0, 0) := by decide +kernel
theorem c_127_46 : zcode 127 46 = some (.aload_n 0, 1, 0, 0, 0) := by decide +kernel
theorem c_127_47 : zcode 127 47 = some (.getfield 22, 3, 8, 11, 4016) := by decide +kernel
theorem c_127_50 : zcode 127 50 = some (.iconst 2, 1, 0, 0, 0) := by decide +kernel
theorem c_127_51 : zcode 127 51 = some (.aload_n 0, 1, 0, 0, 0) := by decide +kernel
theorem c_127_52 : zcode 127 52 = some (.getfield 100, 3, 8, 10, 4015) := by decide +kernel
theorem c_127_55 : zcode 127 55 = some (.imul, 1, 0, 0, 0) := by decide +kernel
theorem c_127_56 : zcode 127 56 = some (.iconst 1, 1, 0, 0, 0) := by decide +kernel
theorem c_127_57 : zcode 127 57 = some (.iadd, 1, 0, 0, 0) := by decide +kernel
theorem c_127_58 : zcode 127 58 = some (.iload_n 2, 1, 0, 0, 0) := by decide +kernel
theorem c_127_59 : zcode 127 59 = some (.iastore, 1, 0, 0, 0) := by decide +kernel
theorem c_127_60 : zcode 127 60 = some (.aload_n 0, 1, 0, 0, 0) := by decide +kernel
theorem c_127_61 : zcode 127 61 = some (.dup, 1, 0, 0, 0) := by decide +kernel
theorem c_127_62 : zcode 127 62 = some (.getfield 100, 3, 8, 10, 4015) := by decide +kernel
theorem c_127_65 : zcode 127 65 = some (.iconst 1, 1, 0, 0, 0) := by decide +kernel
theorem c_127_66 : zcode 127 66 = some (.iadd, 1, 0, 0, 0) := by decide +kernel
theorem c_127_67 : zcode 127 67 = some (.putfield 100, 3, 8, 10, 4015) := by decide +kernel
theorem c_127_70 : zcode 127 70 = some (.iconst 1, 1, 0, 0, 0) := by decide +kernel
theorem c_127_71 : zcode 127 71 = some (.ireturn, 1, 0, 0, 0) := by decide +kernel
theorem c_128_0 : zcode 128 0 = some (.aload_n 0, 1, 0, 0, 0) := by decide +kernel
theorem c_128_1 : zcode 128 1 = some (.iconst 1, 1, 0, 0, 0) := by decide +kernel
theorem c_128_2 : zcode 128 2 = some (.iconst 4, 1, 0, 0, 0) := by decide +kernel
theorem c_128_3 : zcode 128 3 = some (.invokevirtual 96, 3, 126, 0, 4158) := by decide +kernel
theorem c_128_6 : zcode 128 6 = some (.istore_n 1, 1, 0, 0, 0) := by decide +kernel
theorem c_128_7 : zcode 128 7 = some (.iload_n 1, 1, 0, 0, 0) := by decide +kernel
theorem c_128_8 : zcode 128 8 = some (.bipush (-9), 2, 0, 0, 0) := by decide +kernel
theorem c_128_10 : zcode 128 10 = some (.if_icmp .ne 8, 3, 18, 0, 0) := by decide +kernel
theorem c_128_13 : zcode 128 13 = some (.bipush (-9), 2, 0, 0, 0) := by decide +kernel
theorem c_128_15 : zcode 128 15 = some (.goto 9, 3, 24, 0, 0) := by decide +kernel
theorem c_128_18 : zcode 128 18 = some (.aload_n 0, 1, 0, 0, 0) := by decide +kernel
theorem c_128_19 : zcode 128 19 = some (.iconst 0, 1, 0, 0, 0) := by decide +kernel
theorem c_128_20 : zcode 128 20 = some (.iconst 3, 1, 0, 0, 0) := by decide +kernel
theorem c_128_21 : zcode 128 21 = some (.invokevirtual 96, 3, 126, 0, 4158) := by decide +kernel
theorem c_128_24 : zcode 128 24 = some (.istore_n 2, 1, 0, 0, 0) := by decide +kernel
theorem c_128_25 : zcode 128 25 = some (.iload_n 2, 1, 0, 0, 0) := by decide +kernel
theorem c_128_26 : zcode 128 26 = some (.bipush (-9), 2, 0, 0, 0) := by decide +kernel
theorem c_128_28 : zcode 128 28 = some (.if_icmp .ne 5, 3, 33, 0, 0) := by decide +kernel
theorem c_128_31 : zcode 128 31 = some (.iconst 0, 1, 0, 0, 0) := by decide +kernel
theorem c_128_32 : zcode 128 32 = some (.ireturn, 1, 0, 0, 0) := by decide +kernel
theorem c_128_33 : zcode 128 33 = some (.aload_n 0, 1, 0, 0, 0) := by decide +kernel
theorem c_128_34 : zcode 128 34 = some (.getfield 25, 3, 8, 13, 4018) := by decide +kernel
theorem c_128_37 : zcode 128 37 = some (.iconst 2, 1, 0, 0, 0) := by decide +kernel
theorem c_128_38 : zcode 128 38 = some (.aload_n 0, 1, 0, 0, 0) := by decide +kernel
theorem c_128_39 : zcode 128 39 = some (.getfield 103, 3, 8, 12, 4017) := by decide +kernel
theorem c_128_42 : zcode 128 42 = some (.imul, 1, 0, 0, 0) := by decide +kernel
theorem c_128_43 : zcode 128 43 = some (.iload_n 1, 1, 0, 0, 0) := by decide +kernel
theorem c_128_44 : zcode 128 44 = some (.iastore, 1, 0, 0, 0) := by decide +kernel
theorem c_128_45 : zcode 128 45 = some (.aload_n 0, 1, 0, 0, 0) := by decide +kernel
theorem c_128_46 : zcode 128 46 = some (.getfield 25, 3, 8, 13, 4018) := by decide +kernel
theorem c_128_49 : zcode 128 49 = some (.iconst 2, 1, 0, 0, 0) := by decide +kernel
theorem c_128_50 : zcode 128 50 = some (.aload_n 0, 1, 0, 0, 0) := by decide +kernel
theorem c_128_51 : zcode 128 51 = some (.getfield 103, 3, 8, 12, 4017) := by decide +kernel
theorem c_128_54 : zcode 128 54 = some (.imul, 1, 0, 0, 0) := by decide +kernel
theorem c_128_55 : zcode 128 55 = some (.iconst 1, 1, 0, 0, 0) := by decide +kernel
theorem c_128_56 : zcode 128 56 = some (.iadd, 1, 0, 0, 0) := by decide +kernel
theorem c_128_57 : zcode 128 57 = some (.iload_n 2, 1, 0, 0, 0) := by decide +kernel
theorem c_128_58 : zcode 128 58 = some (.iastore, 1, 0, 0, 0) := by decide +kernel
theorem c_128_59 : zcode 128 59 = some (.aload_n 0, 1, 0, 0, 0) := by decide +kernel
theorem c_128_60 : zcode 128 60 = some (.dup, 1, 0, 0, 0) := by decide +kernel
theorem c_128_61 : zcode 128 61 = some (.getfield 103, 3, 8, 12, 4017) := by decide +kernel
theorem c_128_64 : zcode 128 64 = some (.iconst 1, 1, 0, 0, 0) := by decide +kernel
theorem c_128_65 : zcode 128 65 = some (.iadd, 1, 0, 0, 0) := by decide +kernel
theorem c_128_66 : zcode 128 66 = some (.putfield 103, 3, 8, 12, 4017) := by decide +kernel
theorem c_128_69 : zcode 128 69 = some (.iconst 1, 1, 0, 0, 0) := by decide +kernel
theorem c_128_70 : zcode 128 70 = some (.ireturn, 1, 0, 0, 0) := by decide +kernel
theorem c_129_0 : zcode 129 0 = some (.aload_n 0, 1, 0, 0, 0) := by decide +kernel
theorem c_129_1 : zcode 129 1 = some (.iconst 1, 1, 0, 0, 0) := by decide +kernel
theorem c_129_2 : zcode 129 2 = some (.bipush 9, 2, 0, 0, 0) := by decide +kernel
theorem c_129_4 : zcode 129 4 = some (.invokevirtual 96, 3, 126, 0, 4158) := by decide +kernel
theorem c_129_7 : zcode 129 7 = some (.istore_n 1, 1, 0, 0, 0) := by decide +kernel
theorem c_129_8 : zcode 129 8 = some (.iload_n 1, 1, 0, 0, 0) := by decide +kernel
theorem c_129_9 : zcode 129 9 = some (.bipush (-9), 2, 0, 0, 0) := by decide +kernel
theorem c_129_11 : zcode 129 11 = some (.if_icmp .ne 8, 3, 19, 0, 0) := by decide +kernel
theorem c_129_14 : zcode 129 14 = some (.bipush (-9), 2, 0, 0, 0) := by decide +kernel
theorem c_129_16 : zcode 129 16 = some (.goto 10, 3, 26, 0, 0) := by decide +kernel
theorem c_129_19 : zcode 129 19 = some (.aload_n 0, 1, 0, 0, 0) := by decide +kernel
theorem c_129_20 : zcode 129 20 = some (.iconst 0, 1, 0, 0, 0) := by decide +kernel
theorem c_129_21 : zcode 129 21 = some (.bipush 9, 2, 0, 0, 0) := by decide +kernel
theorem c_129_23 : zcode 129 23 = some (.invokevirtual 96, 3, 126, 0, 4158) := by decide +kernel
theorem c_129_26 : zcode 129 26 = some (.istore_n 2, 1, 0, 0, 0) := by decide +kernel
theorem c_129_27 : zcode 129 27 = some (.iload_n 2, 1, 0, 0, 0) := by decide +kernel
theorem c_129_28 : zcode 129 28 = some (.bipush (-9), 2, 0, 0, 0) := by decide +kernel
theorem c_129_30 : zcode 129 30 = some (.if_icmp .ne 8, 3, 38, 0, 0) := by decide +kernel
theorem c_129_33 : zcode 129 33 = some (.bipush (-9), 2, 0, 0, 0) := by decide +kernel
theorem c_129_35 : zcode 129 35 = some (.goto 9, 3, 44, 0, 0) := by decide +kernel
theorem c_129_38 : zcode 129 38 = some (.aload_n 0, 1, 0, 0, 0) := by decide +kernel
theorem c_129_39 : zcode 129 39 = some (.iconst 0, 1, 0, 0, 0) := by decide +kernel
theorem c_129_40 : zcode 129 40 = some (.iconst 3, 1, 0, 0, 0) := by decide +kernel
theorem c_129_41 : zcode 129 41 = some (.invokevirtual 96, 3, 126, 0, 4158) := by decide +kernel
theorem c_129_44 : zcode 129 44 = some (.istore_n 3, 1, 0, 0, 0) := by decide +kernel
theorem c_129_45 : zcode 129 45 = some (.iload_n 3, 1, 0, 0, 0) := by decide +kernel
theorem c_129_46 : zcode 129 46 = some (.bipush (-9), 2, 0, 0, 0) := by decide +kernel
theorem c_129_48 : zcode 129 48 = some (.if_icmp .ne 5, 3, 53, 0, 0) := by decide +kernel
theorem c_129_51 : zcode 129 51 = some (.iconst 0, 1, 0, 0, 0) := by decide +kernel
theorem c_129_52 : zcode 129 52 = some (.ireturn, 1, 0, 0, 0) := by decide +kernel
theorem c_129_53 : zcode 129 53 = some (.aload_n 0, 1, 0, 0, 0) := by decide +kernel
theorem c_129_54 : zcode 129 54 = some (.getfield 28, 3, 8, 15, 4020) := by decide +kernel
theorem c_129_57 : zcode 129 57 = some (.iconst 3, 1, 0, 0, 0) := by decide +kernel
theorem c_129_58 : zcode 129 58 = some (.aload_n 0, 1, 0, 0, 0) := by decide +kernel
theorem c_129_59 : zcode 129 59 = some (.getfield 106, 3, 8, 14, 4019) := by decide +kernel
theorem c_129_62 : zcode 129 62 = some (.imul, 1, 0, 0, 0) := by decide +kernel
theorem c_129_63 : zcode 129 63 = some (.iload_n 1, 1, 0, 0, 0) := by decide +kernel
theorem c_129_64 : zcode 129 64 = some (.iastore, 1, 0, 0, 0) := by decide +kernel
theorem c_129_65 : zcode 129 65 = some (.aload_n 0, 1, 0, 0, 0) := by decide +kernel
theorem c_129_66 : zcode 129 66 = some (.getfield 28, 3, 8, 15, 4020) := by decide +kernel
theorem c_129_69 : zcode 129 69 = some (.iconst 3, 1, 0, 0, 0) := by decide +kernel
theorem c_129_70 : zcode 129 70 = some (.aload_n 0, 1, 0, 0, 0) := by decide +kernel
theorem c_129_71 : zcode 129 71 = some (.getfield 106, 3, 8, 14, 4019) := by decide +kernel
theorem c_129_74 : zcode 129 74 = some (.imul, 1, 0, 0, 0) := by decide +kernel
theorem c_129_75 : zcode 129 75 = some (.iconst 1, 1, 0, 0, 0) := by decide +kernel
theorem c_129_76 : zcode 129 76 = some (.iadd, 1, 0, 0, 0) := by decide +kernel
theorem c_129_77 : zcode 129 77 = some (.iload_n 2, 1, 0, 0, 0) := by decide +kernel
theorem c_129_78 : zcode 129 78 = some (.iastore, 1, 0, 0, 0) := by decide +kernel
theorem c_129_79 : zcode 129 79 = some (.aload_n 0, 1, 0, 0, 0) := by decide +kernel
theorem c_129_80 : zcode 129 80 = some (.getfield 28, 3, 8, 15, 4020) := by decide +kernel
theorem c_129_83 : zcode 129 83 = some (.iconst 3, 1, 0, 0, 0) := by decide +kernel
theorem c_129_84 : zcode 129 84 = some (.aload_n 0, 1, 0, 0, 0) := by decide +kernel
theorem c_129_85 : zcode 129 85 = some (.getfield 106, 3, 8, 14, 4019) := by decide +kernel
theorem c_129_88 : zcode 129 88 = some (.imul, 1, 0, 0, 0) := by decide +kernel
theorem c_129_89 : zcode 129 89 = some (.iconst 2, 1, 0, 0, 0) := by decide +kernel
theorem c_129_90 : zcode 129 90 = some (.iadd, 1, 0, 0, 0) := by decide +kernel
theorem c_129_91 : zcode 129 91 = some (.iload_n 3, 1, 0, 0, 0) := by decide +kernel
theorem c_129_92 : zcode 129 92 = some (.iastore, 1, 0, 0, 0) := by decide +kernel
theorem c_129_93 : zcode 129 93 = some (.aload_n 0, 1, 0, 0, 0) := by decide +kernel
theorem c_129_94 : zcode 129 94 = some (.dup, 1, 0, 0, 0) := by decide +kernel
theorem c_129_95 : zcode 129 95 = some (.getfield 106, 3, 8, 14, 4019) := by decide +kernel
theorem c_129_98 : zcode 129 98 = some (.iconst 1, 1, 0, 0, 0) := by decide +kernel
theorem c_129_99 : zcode 129 99 = some (.iadd, 1, 0, 0, 0) := by decide +kernel
theorem c_129_100 : zcode 129 100 = some (.putfield 106, 3, 8, 14, 4019) := by decide +kernel
theorem c_129_103 : zcode 129 103 = some (.iconst 1, 1, 0, 0, 0) := by decide +kernel
theorem c_129_104 : zcode 129 104 = some (.ireturn, 1, 0, 0, 0) := by decide +kernel
theorem c_130_0 : zcode 130 0 = some (.aload_n 0, 1, 0, 0, 0) := by decide +kernel
theorem c_130_1 : zcode 130 1 = some (.getfield 7, 3, 8, 1, 4006) := by decide +kernel
theorem c_130_4 : zcode 130 4 = some (.aload_n 0, 1, 0, 0, 0) := by decide +kernel
theorem c_130_5 : zcode 130 5 = some (.getfield 93, 3, 8, 3, 4008) := by decide +kernel
theorem c_130_8 : zcode 130 8 = some (.iaload, 1, 0, 0, 0) := by decide +kernel
theorem c_130_9 : zcode 130 9 = some (.istore_n 1, 1, 0, 0, 0) := by decide +kernel
theorem c_130_10 : zcode 130 10 = some (.aload_n 0, 1, 0, 0, 0) := by decide +kernel
theorem c_130_11 : zcode 130 11 = some (.dup, 1, 0, 0, 0) := by decide +kernel
theorem c_130_12 : zcode 130 12 = some (.getfield 93, 3, 8, 3, 4008) := by decide +kernel
theorem c_130_15 : zcode 130 15 = some (.iconst 1, 1, 0, 0, 0) := by decide +kernel
theorem c_130_16 : zcode 130 16 = some (.iadd, 1, 0, 0, 0) := by decide +kernel
theorem c_130_17 : zcode 130 17 = some (.putfield 93, 3, 8, 3, 4008) := by decide +kernel
theorem c_130_20 : zcode 130 20 = some (.iload_n 1, 1, 0, 0, 0) := by decide +kernel
theorem c_130_21 : zcode 130 21 = some (.bipush 71, 2, 0, 0, 0) := by decide +kernel
theorem c_130_23 : zcode 130 23 = some (.if_icmp .ne 16, 3, 39, 0, 0) := by decide +kernel
theorem c_130_26 : zcode 130 26 = some (.aload_n 0, 1, 0, 0, 0) := by decide +kernel
theorem c_130_27 : zcode 130 27 = some (.getfield 100, 3, 8, 10, 4015) := by decide +kernel
theorem c_130_30 : zcode 130 30 = some (.iconst 4, 1, 0, 0, 0) := by decide +kernel
theorem c_130_31 : zcode 130 31 = some (.if_icmp .ge 8, 3, 39, 0, 0) := by decide +kernel
theorem c_130_34 : zcode 130 34 = some (.aload_n 0, 1, 0, 0, 0) := by decide +kernel
theorem c_130_35 : zcode 130 35 = some (.invokevirtual 109, 3, 127, 0, 4154) := by decide +kernel
theorem c_130_38 : zcode 130 38 = some (.ireturn, 1, 0, 0, 0) := by decide +kernel
theorem c_130_39 : zcode 130 39 = some (.iload_n 1, 1, 0, 0, 0) := by decide +kernel
theorem c_130_40 : zcode 130 40 = some (.bipush 83, 2, 0, 0, 0) := by decide +kernel
theorem c_130_42 : zcode 130 42 = some (.if_icmp .ne 16, 3, 58, 0, 0) := by decide +kernel
theorem c_130_45 : zcode 130 45 = some (.aload_n 0, 1, 0, 0, 0) := by decide +kernel
theorem c_130_46 : zcode 130 46 = some (.getfield 103, 3, 8, 12, 4017) := by decide +kernel
theorem c_130_49 : zcode 130 49 = some (.iconst 4, 1, 0, 0, 0) := by decide +kernel
theorem c_130_50 : zcode 130 50 = some (.if_icmp .ge 8, 3, 58, 0, 0) := by decide +kernel
theorem c_130_53 : zcode 130 53 = some (.aload_n 0, 1, 0, 0, 0) := by decide +kernel
theorem c_130_54 : zcode 130 54 = some (.invokevirtual 113, 3, 128, 0, 4162) := by decide +kernel
theorem c_130_57 : zcode 130 57 = some (.ireturn, 1, 0, 0, 0) := by decide +kernel
theorem c_130_58 : zcode 130 58 = some (.iload_n 1, 1, 0, 0, 0) := by decide +kernel
theorem c_130_59 : zcode 130 59 = some (.bipush 89, 2, 0, 0, 0) := by decide +kernel
theorem c_130_61 : zcode 130 61 = some (.if_icmp .ne 17, 3, 78, 0, 0) := by decide +kernel
theorem c_130_64 : zcode 130 64 = some (.aload_n 0, 1, 0, 0, 0) := by decide +kernel
theorem c_130_65 : zcode 130 65 = some (.getfield 106, 3, 8, 14, 4019) := by decide +kernel
theorem c_130_68 : zcode 130 68 = some (.bipush 6, 2, 0, 0, 0) := by decide +kernel
theorem c_130_70 : zcode 130 70 = some (.if_icmp .ge 8, 3, 78, 0, 0) := by decide +kernel
theorem c_130_73 : zcode 130 73 = some (.aload_n 0, 1, 0, 0, 0) := by decide +kernel
theorem c_130_74 : zcode 130 74 = some (.invokevirtual 116, 3, 129, 0, 4166) := by decide +kernel
theorem c_130_77 : zcode 130 77 = some (.ireturn, 1, 0, 0, 0) := by decide +kernel
theorem c_130_78 : zcode 130 78 = some (.aload_n 0, 1, 0, 0, 0) := by decide +kernel
theorem c_130_79 : zcode 130 79 = some (.dup, 1, 0, 0, 0) := by decide +kernel
theorem c_130_80 : zcode 130 80 = some (.getfield 93, 3, 8, 3, 4008) := by decide +kernel
theorem c_130_83 : zcode 130 83 = some (.iconst 1, 1, 0, 0, 0) := by decide +kernel
theorem c_130_84 : zcode 130 84 = some (.isub, 1, 0, 0, 0) := by decide +kernel
theorem c_130_85 : zcode 130 85 = some (.putfield 93, 3, 8, 3, 4008) := by decide +kernel
theorem c_130_88 : zcode 130 88 = some (.iconst 0, 1, 0, 0, 0) := by decide +kernel
theorem c_130_89 : zcode 130 89 = some (.ireturn, 1, 0, 0, 0) := by decide +kernel
theorem c_131_0 : zcode 131 0 = some (.aload_n 0, 1, 0, 0, 0) := by decide +kernel
theorem c_131_1 : zcode 131 1 = some (.iconst 0, 1, 0, 0, 0) := by decide +kernel
theorem c_131_2 : zcode 131 2 = some (.putfield 93, 3, 8, 3, 4008) := by decide +kernel
theorem c_131_5 : zcode 131 5 = some (.aload_n 0, 1, 0, 0, 0) := by decide +kernel
theorem c_131_6 : zcode 131 6 = some (.iconst 0, 1, 0, 0, 0) := by decide +kernel
theorem c_131_7 : zcode 131 7 = some (.putfield 100, 3, 8, 10, 4015) := by decide +kernel
theorem c_131_10 : zcode 131 10 = some (.aload_n 0, 1, 0, 0, 0) := by decide +kernel
theorem c_131_11 : zcode 131 11 = some (.iconst 0, 1, 0, 0, 0) := by decide +kernel
theorem c_131_12 : zcode 131 12 = some (.putfield 103, 3, 8, 12, 4017) := by decide +kernel
theorem c_131_15 : zcode 131 15 = some (.aload_n 0, 1, 0, 0, 0) := by decide +kernel
theorem c_131_16 : zcode 131 16 = some (.iconst 0, 1, 0, 0, 0) := by decide +kernel
theorem c_131_17 : zcode 131 17 = some (.putfield 106, 3, 8, 14, 4019) := by decide +kernel
theorem c_131_20 : zcode 131 20 = some (.aload_n 0, 1, 0, 0, 0) := by decide +kernel
theorem c_131_21 : zcode 131 21 = some (.getfield 90, 3, 8, 2, 4007) := by decide +kernel
theorem c_131_24 : zcode 131 24 = some (.ifCond .eq 14, 3, 38, 0, 0) := by decide +kernel
theorem c_131_27 : zcode 131 27 = some (.aload_n 0, 1, 0, 0, 0) := by decide +kernel
theorem c_131_28 : zcode 131 28 = some (.getfield 7, 3, 8, 1, 4006) := by decide +kernel
theorem c_131_31 : zcode 131 31 = some (.iconst 0, 1, 0, 0, 0) := by decide +kernel
theorem c_131_32 : zcode 131 32 = some (.iaload, 1, 0, 0, 0) := by decide +kernel
theorem c_131_33 : zcode 131 33 = some (.bipush 69, 2, 0, 0, 0) := by decide +kernel
theorem c_131_35 : zcode 131 35 = some (.if_icmp .eq 5, 3, 40, 0, 0) := by decide +kernel
theorem c_131_38 : zcode 131 38 = some (.iconst 0, 1, 0, 0, 0) := by decide +kernel
theorem c_131_39 : zcode 131 39 = some (.ireturn, 1, 0, 0, 0) := by decide +kernel
theorem c_131_40 : zcode 131 40 = some (.aload_n 0, 1, 0, 0, 0) := by decide +kernel
theorem c_131_41 : zcode 131 41 = some (.iconst 1, 1, 0, 0, 0) := by decide +kernel
theorem c_131_42 : zcode 131 42 = some (.putfield 93, 3, 8, 3, 4008) := by decide +kernel
theorem c_131_45 : zcode 131 45 = some (.aload_n 0, 1, 0, 0, 0) := by decide +kernel
theorem c_131_46 : zcode 131 46 = some (.getfield 93, 3, 8, 3, 4008) := by decide +kernel
theorem c_131_49 : zcode 131 49 = some (.aload_n 0, 1, 0, 0, 0) := by decide +kernel
theorem c_131_50 : zcode 131 50 = some (.getfield 90, 3, 8, 2, 4007) := by decide +kernel
theorem c_131_53 : zcode 131 53 = some (.if_icmp .ge 15, 3, 68, 0, 0) := by decide +kernel
theorem c_131_56 : zcode 131 56 = some (.aload_n 0, 1, 0, 0, 0) := by decide +kernel
theorem c_131_57 : zcode 131 57 = some (.invokevirtual 119, 3, 130, 0, 4150) := by decide +kernel
theorem c_131_60 : zcode 131 60 = some (.ifCond .ne (-15), 3, 45, 0, 0) := by decide +kernel
theorem c_131_63 : zcode 131 63 = some (.aload_n 0, 1, 0, 0, 0) := by decide +kernel
theorem c_131_64 : zcode 131 64 = some (.getfield 93, 3, 8, 3, 4008) := by decide +kernel
theorem c_131_67 : zcode 131 67 = some (.ireturn, 1, 0, 0, 0) := by decide +kernel
theorem c_131_68 : zcode 131 68 = some (.bipush (-9), 2, 0, 0, 0) := by decide +kernel
theorem c_131_70 : zcode 131 70 = some (.ireturn, 1, 0, 0, 0) := by decide +kernel
theorem c_132_0 : zcode 132 0 = some (.aload_n 0, 1, 0, 0, 0) := by decide +kernel
theorem c_132_1 : zcode 132 1 = some (.iconst 0, 1, 0, 0, 0) := by decide +kernel
theorem c_132_2 : zcode 132 2 = some (.putfield 71, 3, 8, 0, 4005) := by decide +kernel
theorem c_132_5 : zcode 132 5 = some (.aload_n 0, 1, 0, 0, 0) := by decide +kernel
theorem c_132_6 : zcode 132 6 = some (.invokevirtual 122, 3, 131, 0, 4146) := by decide +kernel
theorem c_132_9 : zcode 132 9 = some (.ireturn, 1, 0, 0, 0) := by decide +kernel
theorem c_133_0 : zcode 133 0 = some (.iconst 0, 1, 0, 0, 0) := by decide +kernel
theorem c_133_1 : zcode 133 1 = some (.istore_n 3, 1, 0, 0, 0) := by decide +kernel
theorem c_133_2 : zcode 133 2 = some (.iload_n 3, 1, 0, 0, 0) := by decide +kernel
theorem c_133_3 : zcode 133 3 = some (.iload_n 2, 1, 0, 0, 0) := by decide +kernel
theorem c_133_4 : zcode 133 4 = some (.if_icmp .ge 15, 3, 19, 0, 0) := by decide +kernel
theorem c_133_7 : zcode 133 7 = some (.aload_n 1, 1, 0, 0, 0) := by decide +kernel
theorem c_133_8 : zcode 133 8 = some (.iload_n 3, 1, 0, 0, 0) := by decide +kernel
theorem c_133_9 : zcode 133 9 = some (.aload_n 0, 1, 0, 0, 0) := by decide +kernel
theorem c_133_10 : zcode 133 10 = some (.iload_n 3, 1, 0, 0, 0) := by decide +kernel
theorem c_133_11 : zcode 133 11 = some (.iaload, 1, 0, 0, 0) := by decide +kernel
theorem c_133_12 : zcode 133 12 = some (.iastore, 1, 0, 0, 0) := by decide +kernel
theorem c_133_13 : zcode 133 13 = some (.iinc 3 1, 3, 0, 0, 0) := by decide +kernel
theorem c_133_16 : zcode 133 16 = some (.goto (-14), 3, 2, 0, 0) := by decide +kernel
theorem c_133_19 : zcode 133 19 = some (.return_, 1, 0, 0, 0) := by decide +kernel
theorem c_134_0 : zcode 134 0 = some (.aload_n 0, 1, 0, 0, 0) := by decide +kernel
theorem c_134_1 : zcode 134 1 = some (.iconst 0, 1, 0, 0, 0) := by decide +kernel
theorem c_134_2 : zcode 134 2 = some (.putfield 71, 3, 8, 0, 4005) := by decide +kernel
theorem c_134_5 : zcode 134 5 = some (.aload_n 0, 1, 0, 0, 0) := by decide +kernel
theorem c_134_6 : zcode 134 6 = some (.invokevirtual 122, 3, 131, 0, 4146) := by decide +kernel
theorem c_134_9 : zcode 134 9 = some (.bipush (-9), 2, 0, 0, 0) := by decide +kernel
theorem c_134_11 : zcode 134 11 = some (.if_icmp .eq 6, 3, 17, 0, 0) := by decide +kernel
theorem c_134_14 : zcode 134 14 = some (.bipush (-3), 2, 0, 0, 0) := by decide +kernel
theorem c_134_16 : zcode 134 16 = some (.ireturn, 1, 0, 0, 0) := by decide +kernel
theorem c_134_17 : zcode 134 17 = some (.aload_n 0, 1, 0, 0, 0) := by decide +kernel
theorem c_134_18 : zcode 134 18 = some (.aload_n 0, 1, 0, 0, 0) := by decide +kernel
theorem c_134_19 : zcode 134 19 = some (.getfield 100, 3, 8, 10, 4015) := by decide +kernel
theorem c_134_22 : zcode 134 22 = some (.putfield 75, 3, 8, 4, 4009) := by decide +kernel
theorem c_134_25 : zcode 134 25 = some (.aload_n 0, 1, 0, 0, 0) := by decide +kernel
theorem c_134_26 : zcode 134 26 = some (.aload_n 0, 1, 0, 0, 0) := by decide +kernel
theorem c_134_27 : zcode 134 27 = some (.getfield 103, 3, 8, 12, 4017) := by decide +kernel
theorem c_134_30 : zcode 134 30 = some (.putfield 82, 3, 8, 6, 4011) := by decide +kernel
theorem c_134_33 : zcode 134 33 = some (.aload_n 0, 1, 0, 0, 0) := by decide +kernel
theorem c_134_34 : zcode 134 34 = some (.aload_n 0, 1, 0, 0, 0) := by decide +kernel
theorem c_134_35 : zcode 134 35 = some (.getfield 106, 3, 8, 14, 4019) := by decide +kernel
theorem c_134_38 : zcode 134 38 = some (.putfield 85, 3, 8, 8, 4013) := by decide +kernel
theorem c_134_41 : zcode 134 41 = some (.aload_n 0, 1, 0, 0, 0) := by decide +kernel
theorem c_134_42 : zcode 134 42 = some (.getfield 22, 3, 8, 11, 4016) := by decide +kernel
theorem c_134_45 : zcode 134 45 = some (.aload_n 0, 1, 0, 0, 0) := by decide +kernel
theorem c_134_46 : zcode 134 46 = some (.getfield 13, 3, 8, 5, 4010) := by decide +kernel
theorem c_134_49 : zcode 134 49 = some (.bipush 8, 2, 0, 0, 0) := by decide +kernel
theorem c_134_51 : zcode 134 51 = some (.invokestatic 126, 3, 133, 0, 4174) := by decide +kernel
theorem c_134_54 : zcode 134 54 = some (.aload_n 0, 1, 0, 0, 0) := by decide +kernel
theorem c_134_55 : zcode 134 55 = some (.getfield 25, 3, 8, 13, 4018) := by decide +kernel
theorem c_134_58 : zcode 134 58 = some (.aload_n 0, 1, 0, 0, 0) := by decide +kernel
theorem c_134_59 : zcode 134 59 = some (.getfield 16, 3, 8, 7, 4012) := by decide +kernel
theorem c_134_62 : zcode 134 62 = some (.bipush 8, 2, 0, 0, 0) := by decide +kernel
theorem c_134_64 : zcode 134 64 = some (.invokestatic 126, 3, 133, 0, 4174) := by decide +kernel
theorem c_134_67 : zcode 134 67 = some (.aload_n 0, 1, 0, 0, 0) := by decide +kernel
theorem c_134_68 : zcode 134 68 = some (.getfield 28, 3, 8, 15, 4020) := by decide +kernel
theorem c_134_71 : zcode 134 71 = some (.aload_n 0, 1, 0, 0, 0) := by decide +kernel
theorem c_134_72 : zcode 134 72 = some (.getfield 19, 3, 8, 9, 4014) := by decide +kernel
theorem c_134_75 : zcode 134 75 = some (.bipush 18, 2, 0, 0, 0) := by decide +kernel
theorem c_134_77 : zcode 134 77 = some (.invokestatic 126, 3, 133, 0, 4174) := by decide +kernel
theorem c_134_80 : zcode 134 80 = some (.iconst 0, 1, 0, 0, 0) := by decide +kernel
theorem c_134_81 : zcode 134 81 = some (.istore_n 1, 1, 0, 0, 0) := by decide +kernel
theorem c_134_82 : zcode 134 82 = some (.iload_n 1, 1, 0, 0, 0) := by decide +kernel
theorem c_134_83 : zcode 134 83 = some (.bipush 10, 2, 0, 0, 0) := by decide +kernel
theorem c_134_85 : zcode 134 85 = some (.if_icmp .ge 26, 3, 111, 0, 0) := by decide +kernel
theorem c_134_88 : zcode 134 88 = some (.aload_n 0, 1, 0, 0, 0) := by decide +kernel
theorem c_134_89 : zcode 134 89 = some (.getfield 31, 3, 8, 16, 4021) := by decide +kernel
theorem c_134_92 : zcode 134 92 = some (.iload_n 1, 1, 0, 0, 0) := by decide +kernel
theorem c_134_93 : zcode 134 93 = some (.iload_n 1, 1, 0, 0, 0) := by decide +kernel
theorem c_134_94 : zcode 134 94 = some (.iconst 2, 1, 0, 0, 0) := by decide +kernel
theorem c_134_95 : zcode 134 95 = some (.if_icmp .ge 8, 3, 103, 0, 0) := by decide +kernel
theorem c_134_98 : zcode 134 98 = some (.bipush (-9), 2, 0, 0, 0) := by decide +kernel
theorem c_134_100 : zcode 134 100 = some (.goto 4, 3, 104, 0, 0) := by decide +kernel
theorem c_134_103 : zcode 134 103 = some (.iconst 0, 1, 0, 0, 0) := by decide +kernel
theorem c_134_104 : zcode 134 104 = some (.iastore, 1, 0, 0, 0) := by decide +kernel
theorem c_134_105 : zcode 134 105 = some (.iinc 1 1, 3, 0, 0, 0) := by decide +kernel
theorem c_134_108 : zcode 134 108 = some (.goto (-26), 3, 82, 0, 0) := by decide +kernel
theorem c_134_111 : zcode 134 111 = some (.aload_n 0, 1, 0, 0, 0) := by decide +kernel
theorem c_134_112 : zcode 134 112 = some (.iconst 0, 1, 0, 0, 0) := by decide +kernel
theorem c_134_113 : zcode 134 113 = some (.putfield 130, 3, 8, 19, 4024) := by decide +kernel
theorem c_134_116 : zcode 134 116 = some (.aload_n 0, 1, 0, 0, 0) := by decide +kernel
theorem c_134_117 : zcode 134 117 = some (.getfield 43, 3, 8, 21, 4026) := by decide +kernel
theorem c_134_120 : zcode 134 120 = some (.iconst 0, 1, 0, 0, 0) := by decide +kernel
theorem c_134_121 : zcode 134 121 = some (.iconst 0, 1, 0, 0, 0) := by decide +kernel
theorem c_134_122 : zcode 134 122 = some (.bastore, 1, 0, 0, 0) := by decide +kernel
theorem c_134_123 : zcode 134 123 = some (.aload_n 0, 1, 0, 0, 0) := by decide +kernel
theorem c_134_124 : zcode 134 124 = some (.getfield 43, 3, 8, 21, 4026) := by decide +kernel
theorem c_134_127 : zcode 134 127 = some (.iconst 1, 1, 0, 0, 0) := by decide +kernel
theorem c_134_128 : zcode 134 128 = some (.iconst 0, 1, 0, 0, 0) := by decide +kernel
theorem c_134_129 : zcode 134 129 = some (.bastore, 1, 0, 0, 0) := by decide +kernel
theorem c_134_130 : zcode 134 130 = some (.bipush 100, 2, 0, 0, 0) := by decide +kernel
theorem c_134_132 : zcode 134 132 = some (.aload_n 0, 1, 0, 0, 0) := by decide +kernel
theorem c_134_133 : zcode 134 133 = some (.getfield 75, 3, 8, 4, 4009) := by decide +kernel
theorem c_134_136 : zcode 134 136 = some (.imul, 1, 0, 0, 0) := by decide +kernel
theorem c_134_137 : zcode 134 137 = some (.bipush 10, 2, 0, 0, 0) := by decide +kernel
theorem c_134_139 : zcode 134 139 = some (.aload_n 0, 1, 0, 0, 0) := by decide +kernel
theorem c_134_140 : zcode 134 140 = some (.getfield 82, 3, 8, 6, 4011) := by decide +kernel
theorem c_134_143 : zcode 134 143 = some (.imul, 1, 0, 0, 0) := by decide +kernel
theorem c_134_144 : zcode 134 144 = some (.iadd, 1, 0, 0, 0) := by decide +kernel
theorem c_134_145 : zcode 134 145 = some (.aload_n 0, 1, 0, 0, 0) := by decide +kernel
theorem c_134_146 : zcode 134 146 = some (.getfield 85, 3, 8, 8, 4013) := by decide +kernel
theorem c_134_149 : zcode 134 149 = some (.iadd, 1, 0, 0, 0) := by decide +kernel
theorem c_134_150 : zcode 134 150 = some (.ireturn, 1, 0, 0, 0) := by decide +kernel
theorem c_135_0 : zcode 135 0 = some (.aload_n 0, 1, 0, 0, 0) := by decide +kernel
theorem c_135_1 : zcode 135 1 = some (.getfield 13, 3, 8, 5, 4010) := by decide +kernel
theorem c_135_4 : zcode 135 4 = some (.iconst 2, 1, 0, 0, 0) := by decide +kernel
theorem c_135_5 : zcode 135 5 = some (.iload_n 1, 1, 0, 0, 0) := by decide +kernel
theorem c_135_6 : zcode 135 6 = some (.imul, 1, 0, 0, 0) := by decide +kernel
theorem c_135_7 : zcode 135 7 = some (.iaload, 1, 0, 0, 0) := by decide +kernel
theorem c_135_8 : zcode 135 8 = some (.istore_n 2, 1, 0, 0, 0) := by decide +kernel
theorem c_135_9 : zcode 135 9 = some (.aload_n 0, 1, 0, 0, 0) := by decide +kernel
theorem c_135_10 : zcode 135 10 = some (.getfield 13, 3, 8, 5, 4010) := by decide +kernel
theorem c_135_13 : zcode 135 13 = some (.iconst 2, 1, 0, 0, 0) := by decide +kernel
theorem c_135_14 : zcode 135 14 = some (.iload_n 1, 1, 0, 0, 0) := by decide +kernel
theorem c_135_15 : zcode 135 15 = some (.imul, 1, 0, 0, 0) := by decide +kernel
theorem c_135_16 : zcode 135 16 = some (.iconst 1, 1, 0, 0, 0) := by decide +kernel
theorem c_135_17 : zcode 135 17 = some (.iadd, 1, 0, 0, 0) := by decide +kernel
theorem c_135_18 : zcode 135 18 = some (.iaload, 1, 0, 0, 0) := by decide +kernel
theorem c_135_19 : zcode 135 19 = some (.iconst 2, 1, 0, 0, 0) := by decide +kernel
theorem c_135_20 : zcode 135 20 = some (.if_icmp .ne 10, 3, 30, 0, 0) := by decide +kernel
theorem c_135_23 : zcode 135 23 = some (.bipush 15, 2, 0, 0, 0) := by decide +kernel
theorem c_135_25 : zcode 135 25 = some (.iload_n 2, 1, 0, 0, 0) := by decide +kernel
theorem c_135_26 : zcode 135 26 = some (.imul, 1, 0, 0, 0) := by decide +kernel
theorem c_135_27 : zcode 135 27 = some (.goto 7, 3, 34, 0, 0) := by decide +kernel
theorem c_135_30 : zcode 135 30 = some (.bipush 10, 2, 0, 0, 0) := by decide +kernel
theorem c_135_32 : zcode 135 32 = some (.iload_n 2, 1, 0, 0, 0) := by decide +kernel
theorem c_135_33 : zcode 135 33 = some (.imul, 1, 0, 0, 0) := by decide +kernel
theorem c_135_34 : zcode 135 34 = some (.ireturn, 1, 0, 0, 0) := by decide +kernel
theorem c_136_0 : zcode 136 0 = some (.aload_n 0, 1, 0, 0, 0) := by decide +kernel
theorem c_136_1 : zcode 136 1 = some (.getfield 19, 3, 8, 9, 4014) := by decide +kernel
theorem c_136_4 : zcode 136 4 = some (.iconst 3, 1, 0, 0, 0) := by decide +kernel
theorem c_136_5 : zcode 136 5 = some (.iload_n 1, 1, 0, 0, 0) := by decide +kernel
theorem c_136_6 : zcode 136 6 = some (.imul, 1, 0, 0, 0) := by decide +kernel
theorem c_136_7 : zcode 136 7 = some (.iaload, 1, 0, 0, 0) := by decide +kernel
theorem c_136_8 : zcode 136 8 = some (.iload_n 2, 1, 0, 0, 0) := by decide +kernel
theorem c_136_9 : zcode 136 9 = some (.imul, 1, 0, 0, 0) := by decide +kernel
theorem c_136_10 : zcode 136 10 = some (.istore 5, 2, 0, 0, 0) := by decide +kernel
theorem c_136_12 : zcode 136 12 = some (.iload_n 3, 1, 0, 0, 0) := by decide +kernel
theorem c_136_13 : zcode 136 13 = some (.iconst 1, 1, 0, 0, 0) := by decide +kernel
theorem c_136_14 : zcode 136 14 = some (.if_icmp .ne 21, 3, 35, 0, 0) := by decide +kernel
theorem c_136_17 : zcode 136 17 = some (.aload_n 0, 1, 0, 0, 0) := by decide +kernel
theorem c_136_18 : zcode 136 18 = some (.getfield 19, 3, 8, 9, 4014) := by decide +kernel
theorem c_136_21 : zcode 136 21 = some (.iconst 3, 1, 0, 0, 0) := by decide +kernel
theorem c_136_22 : zcode 136 22 = some (.iload_n 1, 1, 0, 0, 0) := by decide +kernel
theorem c_136_23 : zcode 136 23 = some (.imul, 1, 0, 0, 0) := by decide +kernel
theorem c_136_24 : zcode 136 24 = some (.iconst 2, 1, 0, 0, 0) := by decide +kernel
theorem c_136_25 : zcode 136 25 = some (.iadd, 1, 0, 0, 0) := by decide +kernel
theorem c_136_26 : zcode 136 26 = some (.iaload, 1, 0, 0, 0) := by decide +kernel
theorem c_136_27 : zcode 136 27 = some (.ifCond .ne 8, 3, 35, 0, 0) := by decide +kernel
theorem c_136_30 : zcode 136 30 = some (.iload 5, 2, 0, 0, 0) := by decide +kernel
theorem c_136_32 : zcode 136 32 = some (.iconst 2, 1, 0, 0, 0) := by decide +kernel
theorem c_136_33 : zcode 136 33 = some (.idiv, 1, 0, 0, 0) := by decide +kernel
theorem c_136_34 : zcode 136 34 = some (.ireturn, 1, 0, 0, 0) := by decide +kernel
theorem c_136_35 : zcode 136 35 = some (.iload_n 3, 1, 0, 0, 0) := by decide +kernel
theorem c_136_36 : zcode 136 36 = some (.iconst 2, 1, 0, 0, 0) := by decide +kernel
theorem c_136_37 : zcode 136 37 = some (.if_icmp .ne 13, 3, 50, 0, 0) := by decide +kernel
theorem c_136_40 : zcode 136 40 = some (.iload 4, 2, 0, 0, 0) := by decide +kernel
theorem c_136_42 : zcode 136 42 = some (.ifCond .ne 8, 3, 50, 0, 0) := by decide +kernel
theorem c_136_45 : zcode 136 45 = some (.iconst 2, 1, 0, 0, 0) := by decide +kernel
theorem c_136_46 : zcode 136 46 = some (.iload 5, 2, 0, 0, 0) := by decide +kernel
theorem c_136_48 : zcode 136 48 = some (.imul, 1, 0, 0, 0) := by decide +kernel
theorem c_136_49 : zcode 136 49 = some (.ireturn, 1, 0, 0, 0) := by decide +kernel
theorem c_136_50 : zcode 136 50 = some (.iload_n 3, 1, 0, 0, 0) := by decide +kernel
theorem c_136_51 : zcode 136 51 = some (.iconst 3, 1, 0, 0, 0) := by decide +kernel
theorem c_136_52 : zcode 136 52 = some (.if_icmp .ne 11, 3, 63, 0, 0) := by decide +kernel
theorem c_136_55 : zcode 136 55 = some (.iload 5, 2, 0, 0, 0) := by decide +kernel
theorem c_136_57 : zcode 136 57 = some (.iload 4, 2, 0, 0, 0) := by decide +kernel
theorem c_136_59 : zcode 136 59 = some (.iadd, 1, 0, 0, 0) := by decide +kernel
theorem c_136_60 : zcode 136 60 = some (.goto 5, 3, 65, 0, 0) := by decide +kernel
theorem c_136_63 : zcode 136 63 = some (.iload 5, 2, 0, 0, 0) := by decide +kernel
theorem c_136_65 : zcode 136 65 = some (.ireturn, 1, 0, 0, 0) := by decide +kernel
theorem c_137_0 : zcode 137 0 = some (.aload_n 0, 1, 0, 0, 0) := by decide +kernel
theorem c_137_1 : zcode 137 1 = some (.iload_n 1, 1, 0, 0, 0) := by decide +kernel
theorem c_137_2 : zcode 137 2 = some (.aload_n 0, 1, 0, 0, 0) := by decide +kernel
theorem c_137_3 : zcode 137 3 = some (.getfield 16, 3, 8, 7, 4012) := by decide +kernel
theorem c_137_6 : zcode 137 6 = some (.iconst 2, 1, 0, 0, 0) := by decide +kernel
theorem c_137_7 : zcode 137 7 = some (.iload_n 2, 1, 0, 0, 0) := by decide +kernel
theorem c_137_8 : zcode 137 8 = some (.imul, 1, 0, 0, 0) := by decide +kernel
theorem c_137_9 : zcode 137 9 = some (.iaload, 1, 0, 0, 0) := by decide +kernel
theorem c_137_10 : zcode 137 10 = some (.aload_n 0, 1, 0, 0, 0) := by decide +kernel
theorem c_137_11 : zcode 137 11 = some (.getfield 16, 3, 8, 7, 4012) := by decide +kernel
theorem c_137_14 : zcode 137 14 = some (.iconst 2, 1, 0, 0, 0) := by decide +kernel
theorem c_137_15 : zcode 137 15 = some (.iload_n 2, 1, 0, 0, 0) := by decide +kernel
theorem c_137_16 : zcode 137 16 = some (.imul, 1, 0, 0, 0) := by decide +kernel
theorem c_137_17 : zcode 137 17 = some (.iconst 1, 1, 0, 0, 0) := by decide +kernel
theorem c_137_18 : zcode 137 18 = some (.iadd, 1, 0, 0, 0) := by decide +kernel
theorem c_137_19 : zcode 137 19 = some (.iaload, 1, 0, 0, 0) := by decide +kernel
theorem c_137_20 : zcode 137 20 = some (.iload 4, 2, 0, 0, 0) := by decide +kernel
theorem c_137_22 : zcode 137 22 = some (.invokevirtual 133, 3, 136, 0, 4232) := by decide +kernel
theorem c_137_25 : zcode 137 25 = some (.aload_n 0, 1, 0, 0, 0) := by decide +kernel
theorem c_137_26 : zcode 137 26 = some (.getfield 13, 3, 8, 5, 4010) := by decide +kernel
theorem c_137_29 : zcode 137 29 = some (.iconst 2, 1, 0, 0, 0) := by decide +kernel
theorem c_137_30 : zcode 137 30 = some (.iload_n 3, 1, 0, 0, 0) := by decide +kernel
theorem c_137_31 : zcode 137 31 = some (.imul, 1, 0, 0, 0) := by decide +kernel
theorem c_137_32 : zcode 137 32 = some (.iconst 1, 1, 0, 0, 0) := by decide +kernel
theorem c_137_33 : zcode 137 33 = some (.iadd, 1, 0, 0, 0) := by decide +kernel
theorem c_137_34 : zcode 137 34 = some (.iaload, 1, 0, 0, 0) := by decide +kernel
theorem c_137_35 : zcode 137 35 = some (.iconst 1, 1, 0, 0, 0) := by decide +kernel
theorem c_137_36 : zcode 137 36 = some (.if_icmp .ne 7, 3, 43, 0, 0) := by decide +kernel
theorem c_137_39 : zcode 137 39 = some (.iconst 2, 1, 0, 0, 0) := by decide +kernel
theorem c_137_40 : zcode 137 40 = some (.goto 4, 3, 44, 0, 0) := by decide +kernel
theorem c_137_43 : zcode 137 43 = some (.iconst 0, 1, 0, 0, 0) := by decide +kernel
theorem c_137_44 : zcode 137 44 = some (.iadd, 1, 0, 0, 0) := by decide +kernel
theorem c_137_45 : zcode 137 45 = some (.ireturn, 1, 0, 0, 0) := by decide +kernel
theorem c_138_0 : zcode 138 0 = some (.iconst 0, 1, 0, 0, 0) := by decide +kernel
theorem c_138_1 : zcode 138 1 = some (.istore_n 1, 1, 0, 0, 0) := by decide +kernel
theorem c_138_2 : zcode 138 2 = some (.iconst 0, 1, 0, 0, 0) := by decide +kernel
theorem c_138_3 : zcode 138 3 = some (.istore_n 2, 1, 0, 0, 0) := by decide +kernel
theorem c_138_4 : zcode 138 4 = some (.iload_n 2, 1, 0, 0, 0) := by decide +kernel
theorem c_138_5 : zcode 138 5 = some (.aload_n 0, 1, 0, 0, 0) := by decide +kernel
theorem c_138_6 : zcode 138 6 = some (.iconst 3, 1, 0, 0, 0) := by decide +kernel
theorem c_138_7 : zcode 138 7 = some (.iaload, 1, 0, 0, 0) := by decide +kernel
theorem c_138_8 : zcode 138 8 = some (.if_icmp .ge 19, 3, 27, 0, 0) := by decide +kernel
theorem c_138_11 : zcode 138 11 = some (.iload_n 1, 1, 0, 0, 0) := by decide +kernel
theorem c_138_12 : zcode 138 12 = some (.iconst 1, 1, 0, 0, 0) := by decide +kernel
theorem c_138_13 : zcode 138 13 = some (.aload_n 0, 1, 0, 0, 0) := by decide +kernel
theorem c_138_14 : zcode 138 14 = some (.iconst 4, 1, 0, 0, 0) := by decide +kernel
theorem c_138_15 : zcode 138 15 = some (.iload_n 2, 1, 0, 0, 0) := by decide +kernel
theorem c_138_16 : zcode 138 16 = some (.iadd, 1, 0, 0, 0) := by decide +kernel
theorem c_138_17 : zcode 138 17 = some (.iaload, 1, 0, 0, 0) := by decide +kernel
theorem c_138_18 : zcode 138 18 = some (.ishl, 1, 0, 0, 0) := by decide +kernel
theorem c_138_19 : zcode 138 19 = some (.ior, 1, 0, 0, 0) := by decide +kernel
theorem c_138_20 : zcode 138 20 = some (.istore_n 1, 1, 0, 0, 0) := by decide +kernel
theorem c_138_21 : zcode 138 21 = some (.iinc 2 1, 3, 0, 0, 0) := by decide +kernel
theorem c_138_24 : zcode 138 24 = some (.goto (-20), 3, 4, 0, 0) := by decide +kernel
theorem c_138_27 : zcode 138 27 = some (.iload_n 1, 1, 0, 0, 0) := by decide +kernel
theorem c_138_28 : zcode 138 28 = some (.ireturn, 1, 0, 0, 0) := by decide +kernel
theorem c_139_0 : zcode 139 0 = some (.iconst 0, 1, 0, 0, 0) := by decide +kernel
theorem c_139_1 : zcode 139 1 = some (.istore_n 2, 1, 0, 0, 0) := by decide +kernel
theorem c_139_2 : zcode 139 2 = some (.iconst 0, 1, 0, 0, 0) := by decide +kernel
theorem c_139_3 : zcode 139 3 = some (.istore_n 3, 1, 0, 0, 0) := by decide +kernel
theorem c_139_4 : zcode 139 4 = some (.iload_n 3, 1, 0, 0, 0) := by decide +kernel
theorem c_139_5 : zcode 139 5 = some (.aload_n 1, 1, 0, 0, 0) := by decide +kernel
theorem c_139_6 : zcode 139 6 = some (.iconst 3, 1, 0, 0, 0) := by decide +kernel
theorem c_139_7 : zcode 139 7 = some (.iaload, 1, 0, 0, 0) := by decide +kernel
theorem c_139_8 : zcode 139 8 = some (.if_icmp .ge 26, 3, 34, 0, 0) := by decide +kernel
theorem c_139_11 : zcode 139 11 = some (.iload_n 2, 1, 0, 0, 0) := by decide +kernel
theorem c_139_12 : zcode 139 12 = some (.aload_n 0, 1, 0, 0, 0) := by decide +kernel
theorem c_139_13 : zcode 139 13 = some (.getfield 19, 3, 8, 9, 4014) := by decide +kernel
theorem c_139_16 : zcode 139 16 = some (.iconst 3, 1, 0, 0, 0) := by decide +kernel
theorem c_139_17 : zcode 139 17 = some (.aload_n 1, 1, 0, 0, 0) := by decide +kernel
theorem c_139_18 : zcode 139 18 = some (.iconst 4, 1, 0, 0, 0) := by decide +kernel
theorem c_139_19 : zcode 139 19 = some (.iload_n 3, 1, 0, 0, 0) := by decide +kernel
theorem c_139_20 : zcode 139 20 = some (.iadd, 1, 0, 0, 0) := by decide +kernel
theorem c_139_21 : zcode 139 21 = some (.iaload, 1, 0, 0, 0) := by decide +kernel
theorem c_139_22 : zcode 139 22 = some (.imul, 1, 0, 0, 0) := by decide +kernel
theorem c_139_23 : zcode 139 23 = some (.iconst 1, 1, 0, 0, 0) := by decide +kernel
theorem c_139_24 : zcode 139 24 = some (.iadd, 1, 0, 0, 0) := by decide +kernel
theorem c_139_25 : zcode 139 25 = some (.iaload, 1, 0, 0, 0) := by decide +kernel
theorem c_139_26 : zcode 139 26 = some (.iadd, 1, 0, 0, 0) := by decide +kernel
theorem c_139_27 : zcode 139 27 = some (.istore_n 2, 1, 0, 0, 0) := by decide +kernel
theorem c_139_28 : zcode 139 28 = some (.iinc 3 1, 3, 0, 0, 0) := by decide +kernel
theorem c_139_31 : zcode 139 31 = some (.goto (-27), 3, 4, 0, 0) := by decide +kernel
theorem c_139_34 : zcode 139 34 = some (.iload_n 2, 1, 0, 0, 0) := by decide +kernel
theorem c_139_35 : zcode 139 35 = some (.ireturn, 1, 0, 0, 0) := by decide +kernel
theorem c_140_0 : zcode 140 0 = some (.iconst 1, 1, 0, 0, 0) := by decide +kernel
theorem c_140_1 : zcode 140 1 = some (.istore_n 3, 1, 0, 0, 0) := by decide +kernel
theorem c_140_2 : zcode 140 2 = some (.iconst 0, 1, 0, 0, 0) := by decide +kernel
theorem c_140_3 : zcode 140 3 = some (.istore 4, 2, 0, 0, 0) := by decide +kernel
theorem c_140_5 : zcode 140 5 = some (.iload 4, 2, 0, 0, 0) := by decide +kernel
theorem c_140_7 : zcode 140 7 = some (.aload_n 1, 1, 0, 0, 0) := by decide +kernel
theorem c_140_8 : zcode 140 8 = some (.iconst 3, 1, 0, 0, 0) := by decide +kernel
theorem c_140_9 : zcode 140 9 = some (.iaload, 1, 0, 0, 0) := by decide +kernel
theorem c_140_10 : zcode 140 10 = some (.if_icmp .ge 50, 3, 60, 0, 0) := by decide +kernel
theorem c_140_13 : zcode 140 13 = some (.iload_n 3, 1, 0, 0, 0) := by decide +kernel
theorem c_140_14 : zcode 140 14 = some (.iload_n 3, 1, 0, 0, 0) := by decide +kernel
theorem c_140_15 : zcode 140 15 = some (.iconst 4, 1, 0, 0, 0) := by decide +kernel
theorem c_140_16 : zcode 140 16 = some (.if_icmp .ge 35, 3, 51, 0, 0) := by decide +kernel
theorem c_140_19 : zcode 140 19 = some (.iload_n 2, 1, 0, 0, 0) := by decide +kernel
theorem c_140_20 : zcode 140 20 = some (.iload 4, 2, 0, 0, 0) := by decide +kernel
theorem c_140_22 : zcode 140 22 = some (.invokestatic 137, 3, 118, 0, 4192) := by decide +kernel
theorem c_140_25 : zcode 140 25 = some (.ifCond .ne 26, 3, 51, 0, 0) := by decide +kernel
theorem c_140_28 : zcode 140 28 = some (.aload_n 0, 1, 0, 0, 0) := by decide +kernel
theorem c_140_29 : zcode 140 29 = some (.getfield 19, 3, 8, 9, 4014) := by decide +kernel
theorem c_140_32 : zcode 140 32 = some (.iconst 3, 1, 0, 0, 0) := by decide +kernel
theorem c_140_33 : zcode 140 33 = some (.aload_n 1, 1, 0, 0, 0) := by decide +kernel
theorem c_140_34 : zcode 140 34 = some (.iconst 4, 1, 0, 0, 0) := by decide +kernel
theorem c_140_35 : zcode 140 35 = some (.iload 4, 2, 0, 0, 0) := by decide +kernel
theorem c_140_37 : zcode 140 37 = some (.iadd, 1, 0, 0, 0) := by decide +kernel
theorem c_140_38 : zcode 140 38 = some (.iaload, 1, 0, 0, 0) := by decide +kernel
theorem c_140_39 : zcode 140 39 = some (.imul, 1, 0, 0, 0) := by decide +kernel
theorem c_140_40 : zcode 140 40 = some (.iconst 2, 1, 0, 0, 0) := by decide +kernel
theorem c_140_41 : zcode 140 41 = some (.iadd, 1, 0, 0, 0) := by decide +kernel
theorem c_140_42 : zcode 140 42 = some (.iaload, 1, 0, 0, 0) := by decide +kernel
theorem c_140_43 : zcode 140 43 = some (.iload_n 3, 1, 0, 0, 0) := by decide +kernel
theorem c_140_44 : zcode 140 44 = some (.if_icmp .ne 7, 3, 51, 0, 0) := by decide +kernel
theorem c_140_47 : zcode 140 47 = some (.iconst 1, 1, 0, 0, 0) := by decide +kernel
theorem c_140_48 : zcode 140 48 = some (.goto 4, 3, 52, 0, 0) := by decide +kernel
theorem c_140_51 : zcode 140 51 = some (.iconst 0, 1, 0, 0, 0) := by decide +kernel
theorem c_140_52 : zcode 140 52 = some (.iadd, 1, 0, 0, 0) := by decide +kernel
theorem c_140_53 : zcode 140 53 = some (.istore_n 3, 1, 0, 0, 0) := by decide +kernel
theorem c_140_54 : zcode 140 54 = some (.iinc 4 1, 3, 0, 0, 0) := by decide +kernel
theorem c_140_57 : zcode 140 57 = some (.goto (-52), 3, 5, 0, 0) := by decide +kernel
theorem c_140_60 : zcode 140 60 = some (.iload_n 3, 1, 0, 0, 0) := by decide +kernel
theorem c_140_61 : zcode 140 61 = some (.iconst 4, 1, 0, 0, 0) := by decide +kernel
theorem c_140_62 : zcode 140 62 = some (.if_icmp .ne 7, 3, 69, 0, 0) := by decide +kernel
theorem c_140_65 : zcode 140 65 = some (.iconst 1, 1, 0, 0, 0) := by decide +kernel
theorem c_140_66 : zcode 140 66 = some (.goto 4, 3, 70, 0, 0) := by decide +kernel
theorem c_140_69 : zcode 140 69 = some (.iconst 0, 1, 0, 0, 0) := by decide +kernel
theorem c_140_70 : zcode 140 70 = some (.ireturn, 1, 0, 0, 0) := by decide +kernel
theorem c_141_0 : zcode 141 0 = some (.aload_n 0, 1, 0, 0, 0) := by decide +kernel
theorem c_141_1 : zcode 141 1 = some (.iconst 0, 1, 0, 0, 0) := by decide +kernel
theorem c_141_2 : zcode 141 2 = some (.putfield 71, 3, 8, 0, 4005) := by decide +kernel
theorem c_141_5 : zcode 141 5 = some (.iload_n 1, 1, 0, 0, 0) := by decide +kernel
theorem c_141_6 : zcode 141 6 = some (.tableswitch 159 0 12 #[66, 71, 76, 81, 88, 95, 102, 109, 117, 126, 144, 149, 154], 66, 0, 0, 0) := by decide +kernel
theorem c_141_72 : zcode 141 72 = some (.aload_n 0, 1, 0, 0, 0) := by decide +kernel
theorem c_141_73 : zcode 141 73 = some (.getfield 75, 3, 8, 4, 4009) := by decide +kernel
theorem c_141_76 : zcode 141 76 = some (.ireturn, 1, 0, 0, 0) := by decide +kernel
theorem c_141_77 : zcode 141 77 = some (.aload_n 0, 1, 0, 0, 0) := by decide +kernel
theorem c_141_78 : zcode 141 78 = some (.getfield 82, 3, 8, 6, 4011) := by decide +kernel
theorem c_141_81 : zcode 141 81 = some (.ireturn, 1, 0, 0, 0) := by decide +kernel
theorem c_141_82 : zcode 141 82 = some (.aload_n 0, 1, 0, 0, 0) := by decide +kernel
theorem c_141_83 : zcode 141 83 = some (.getfield 85, 3, 8, 8, 4013) := by decide +kernel
theorem c_141_86 : zcode 141 86 = some (.ireturn, 1, 0, 0, 0) := by decide +kernel
theorem c_141_87 : zcode 141 87 = some (.aload_n 0, 1, 0, 0, 0) := by decide +kernel
theorem c_141_88 : zcode 141 88 = some (.getfield 31, 3, 8, 16, 4021) := by decide +kernel
theorem c_141_91 : zcode 141 91 = some (.iconst 0, 1, 0, 0, 0) := by decide +kernel
theorem c_141_92 : zcode 141 92 = some (.iaload, 1, 0, 0, 0) := by decide +kernel
theorem c_141_93 : zcode 141 93 = some (.ireturn, 1, 0, 0, 0) := by decide +kernel
theorem c_141_94 : zcode 141 94 = some (.aload_n 0, 1, 0, 0, 0) := by decide +kernel
theorem c_141_95 : zcode 141 95 = some (.getfield 31, 3, 8, 16, 4021) := by decide +kernel
theorem c_141_98 : zcode 141 98 = some (.iconst 1, 1, 0, 0, 0) := by decide +kernel
theorem c_141_99 : zcode 141 99 = some (.iaload, 1, 0, 0, 0) := by decide +kernel
theorem c_141_100 : zcode 141 100 = some (.ireturn, 1, 0, 0, 0) := by decide +kernel
theorem c_141_101 : zcode 141 101 = some (.aload_n 0, 1, 0, 0, 0) := by decide +kernel
theorem c_141_102 : zcode 141 102 = some (.getfield 31, 3, 8, 16, 4021) := by decide +kernel
theorem c_141_105 : zcode 141 105 = some (.iconst 2, 1, 0, 0, 0) := by decide +kernel
theorem c_141_106 : zcode 141 106 = some (.iaload, 1, 0, 0, 0) := by decide +kernel
theorem c_141_107 : zcode 141 107 = some (.ireturn, 1, 0, 0, 0) := by decide +kernel
theorem c_141_108 : zcode 141 108 = some (.aload_n 0, 1, 0, 0, 0) := by decide +kernel
theorem c_141_109 : zcode 141 109 = some (.getfield 31, 3, 8, 16, 4021) := by decide +kernel
theorem c_141_112 : zcode 141 112 = some (.iconst 3, 1, 0, 0, 0) := by decide +kernel
theorem c_141_113 : zcode 141 113 = some (.iaload, 1, 0, 0, 0) := by decide +kernel
theorem c_141_114 : zcode 141 114 = some (.ireturn, 1, 0, 0, 0) := by decide +kernel
theorem c_141_115 : zcode 141 115 = some (.aload_n 0, 1, 0, 0, 0) := by decide +kernel
theorem c_141_116 : zcode 141 116 = some (.getfield 31, 3, 8, 16, 4021) := by decide +kernel
theorem c_141_119 : zcode 141 119 = some (.invokestatic 141, 3, 138, 0, 4181) := by decide +kernel
theorem c_141_122 : zcode 141 122 = some (.ireturn, 1, 0, 0, 0) := by decide +kernel
theorem c_141_123 : zcode 141 123 = some (.aload_n 0, 1, 0, 0, 0) := by decide +kernel
theorem c_141_124 : zcode 141 124 = some (.aload_n 0, 1, 0, 0, 0) := by decide +kernel
theorem c_141_125 : zcode 141 125 = some (.getfield 31, 3, 8, 16, 4021) := by decide +kernel
theorem c_141_128 : zcode 141 128 = some (.invokevirtual 145, 3, 139, 0, 4184) := by decide +kernel
theorem c_141_131 : zcode 141 131 = some (.ireturn, 1, 0, 0, 0) := by decide +kernel
theorem c_141_132 : zcode 141 132 = some (.aload_n 0, 1, 0, 0, 0) := by decide +kernel
theorem c_141_133 : zcode 141 133 = some (.aload_n 0, 1, 0, 0, 0) := by decide +kernel
theorem c_141_134 : zcode 141 134 = some (.getfield 31, 3, 8, 16, 4021) := by decide +kernel
theorem c_141_137 : zcode 141 137 = some (.iconst 0, 1, 0, 0, 0) := by decide +kernel
theorem c_141_138 : zcode 141 138 = some (.invokevirtual 148, 3, 140, 0, 4188) := by decide +kernel
theorem c_141_141 : zcode 141 141 = some (.ifCond .eq 7, 3, 148, 0, 0) := by decide +kernel
theorem c_141_144 : zcode 141 144 = some (.iconst 1, 1, 0, 0, 0) := by decide +kernel
theorem c_141_145 : zcode 141 145 = some (.goto 4, 3, 149, 0, 0) := by decide +kernel
theorem c_141_148 : zcode 141 148 = some (.iconst 0, 1, 0, 0, 0) := by decide +kernel
theorem c_141_149 : zcode 141 149 = some (.ireturn, 1, 0, 0, 0) := by decide +kernel
theorem c_141_150 : zcode 141 150 = some (.aload_n 0, 1, 0, 0, 0) := by decide +kernel
theorem c_141_151 : zcode 141 151 = some (.getfield 130, 3, 8, 19, 4024) := by decide +kernel
theorem c_141_154 : zcode 141 154 = some (.ireturn, 1, 0, 0, 0) := by decide +kernel
theorem c_141_155 : zcode 141 155 = some (.aload_n 0, 1, 0, 0, 0) := by decide +kernel
theorem c_141_156 : zcode 141 156 = some (.getfield 152, 3, 8, 22, 4027) := by decide +kernel
theorem c_141_159 : zcode 141 159 = some (.ireturn, 1, 0, 0, 0) := by decide +kernel
theorem c_141_160 : zcode 141 160 = some (.aload_n 0, 1, 0, 0, 0) := by decide +kernel
theorem c_141_161 : zcode 141 161 = some (.getfield 90, 3, 8, 2, 4007) := by decide +kernel
theorem c_141_164 : zcode 141 164 = some (.ireturn, 1, 0, 0, 0) := by decide +kernel
theorem c_141_165 : zcode 141 165 = some (.bipush (-2), 2, 0, 0, 0) := by decide +kernel
theorem c_141_167 : zcode 141 167 = some (.ireturn, 1, 0, 0, 0) := by decide +kernel
theorem c_142_0 : zcode 142 0 = some (.aload_n 0, 1, 0, 0, 0) := by decide +kernel
theorem c_142_1 : zcode 142 1 = some (.iconst 0, 1, 0, 0, 0) := by decide +kernel
theorem c_142_2 : zcode 142 2 = some (.putfield 71, 3, 8, 0, 4005) := by decide +kernel
theorem c_142_5 : zcode 142 5 = some (.aload_n 0, 1, 0, 0, 0) := by decide +kernel
theorem c_142_6 : zcode 142 6 = some (.iload_n 1, 1, 0, 0, 0) := by decide +kernel
theorem c_142_7 : zcode 142 7 = some (.invokevirtual 155, 3, 121, 0, 4199) := by decide +kernel
theorem c_142_10 : zcode 142 10 = some (.ifCond .eq 5, 3, 15, 0, 0) := by decide +kernel
theorem c_142_13 : zcode 142 13 = some (.iconst (-1), 1, 0, 0, 0) := by decide +kernel
theorem c_142_14 : zcode 142 14 = some (.ireturn, 1, 0, 0, 0) := by decide +kernel
theorem c_142_15 : zcode 142 15 = some (.iload_n 2, 1, 0, 0, 0) := by decide +kernel
theorem c_142_16 : zcode 142 16 = some (.i2l, 1, 0, 0, 0) := by decide +kernel
theorem c_142_17 : zcode 142 17 = some (.lconst 0, 1, 0, 0, 0) := by decide +kernel
theorem c_142_18 : zcode 142 18 = some (.lconst 1, 1, 0, 0, 0) := by decide +kernel
theorem c_142_19 : zcode 142 19 = some (.invokestatic 78, 3, 117, 0, 4135) := by decide +kernel
theorem c_142_22 : zcode 142 22 = some (.ifCond .eq 16, 3, 38, 0, 0) := by decide +kernel
theorem c_142_25 : zcode 142 25 = some (.aload_n 0, 1, 0, 0, 0) := by decide +kernel
theorem c_142_26 : zcode 142 26 = some (.getfield 13, 3, 8, 5, 4010) := by decide +kernel
theorem c_142_29 : zcode 142 29 = some (.iconst 2, 1, 0, 0, 0) := by decide +kernel
theorem c_142_30 : zcode 142 30 = some (.iload_n 1, 1, 0, 0, 0) := by decide +kernel
theorem c_142_31 : zcode 142 31 = some (.imul, 1, 0, 0, 0) := by decide +kernel
theorem c_142_32 : zcode 142 32 = some (.iload_n 2, 1, 0, 0, 0) := by decide +kernel
theorem c_142_33 : zcode 142 33 = some (.iadd, 1, 0, 0, 0) := by decide +kernel
theorem c_142_34 : zcode 142 34 = some (.iaload, 1, 0, 0, 0) := by decide +kernel
theorem c_142_35 : zcode 142 35 = some (.goto 18, 3, 53, 0, 0) := by decide +kernel
theorem c_142_38 : zcode 142 38 = some (.iload_n 2, 1, 0, 0, 0) := by decide +kernel
theorem c_142_39 : zcode 142 39 = some (.iconst 2, 1, 0, 0, 0) := by decide +kernel
theorem c_142_40 : zcode 142 40 = some (.if_icmp .ne 11, 3, 51, 0, 0) := by decide +kernel
theorem c_142_43 : zcode 142 43 = some (.aload_n 0, 1, 0, 0, 0) := by decide +kernel
theorem c_142_44 : zcode 142 44 = some (.iload_n 1, 1, 0, 0, 0) := by decide +kernel
theorem c_142_45 : zcode 142 45 = some (.invokevirtual 159, 3, 135, 0, 4203) := by decide +kernel
theorem c_142_48 : zcode 142 48 = some (.goto 5, 3, 53, 0, 0) := by decide +kernel
theorem c_142_51 : zcode 142 51 = some (.bipush (-2), 2, 0, 0, 0) := by decide +kernel
theorem c_142_53 : zcode 142 53 = some (.ireturn, 1, 0, 0, 0) := by decide +kernel
theorem c_143_0 : zcode 143 0 = some (.aload_n 0, 1, 0, 0, 0) := by decide +kernel
theorem c_143_1 : zcode 143 1 = some (.iconst 0, 1, 0, 0, 0) := by decide +kernel
theorem c_143_2 : zcode 143 2 = some (.putfield 71, 3, 8, 0, 4005) := by decide +kernel
theorem c_143_5 : zcode 143 5 = some (.aload_n 0, 1, 0, 0, 0) := by decide +kernel
theorem c_143_6 : zcode 143 6 = some (.iload_n 1, 1, 0, 0, 0) := by decide +kernel
theorem c_143_7 : zcode 143 7 = some (.invokevirtual 163, 3, 122, 0, 4211) := by decide +kernel
theorem c_143_10 : zcode 143 10 = some (.ifCond .eq 5, 3, 15, 0, 0) := by decide +kernel
theorem c_143_13 : zcode 143 13 = some (.iconst (-1), 1, 0, 0, 0) := by decide +kernel
theorem c_143_14 : zcode 143 14 = some (.ireturn, 1, 0, 0, 0) := by decide +kernel
theorem c_143_15 : zcode 143 15 = some (.iload_n 2, 1, 0, 0, 0) := by decide +kernel
theorem c_143_16 : zcode 143 16 = some (.i2l, 1, 0, 0, 0) := by decide +kernel
theorem c_143_17 : zcode 143 17 = some (.lconst 0, 1, 0, 0, 0) := by decide +kernel
theorem c_143_18 : zcode 143 18 = some (.lconst 1, 1, 0, 0, 0) := by decide +kernel
theorem c_143_19 : zcode 143 19 = some (.invokestatic 78, 3, 117, 0, 4135) := by decide +kernel
theorem c_143_22 : zcode 143 22 = some (.ifCond .eq 16, 3, 38, 0, 0) := by decide +kernel
theorem c_143_25 : zcode 143 25 = some (.aload_n 0, 1, 0, 0, 0) := by decide +kernel
theorem c_143_26 : zcode 143 26 = some (.getfield 16, 3, 8, 7, 4012) := by decide +kernel
theorem c_143_29 : zcode 143 29 = some (.iconst 2, 1, 0, 0, 0) := by decide +kernel
theorem c_143_30 : zcode 143 30 = some (.iload_n 1, 1, 0, 0, 0) := by decide +kernel
theorem c_143_31 : zcode 143 31 = some (.imul, 1, 0, 0, 0) := by decide +kernel
theorem c_143_32 : zcode 143 32 = some (.iload_n 2, 1, 0, 0, 0) := by decide +kernel
theorem c_143_33 : zcode 143 33 = some (.iadd, 1, 0, 0, 0) := by decide +kernel
theorem c_143_34 : zcode 143 34 = some (.iaload, 1, 0, 0, 0) := by decide +kernel
theorem c_143_35 : zcode 143 35 = some (.goto 5, 3, 40, 0, 0) := by decide +kernel
theorem c_143_38 : zcode 143 38 = some (.bipush (-2), 2, 0, 0, 0) := by decide +kernel
theorem c_143_40 : zcode 143 40 = some (.ireturn, 1, 0, 0, 0) := by decide +kernel
theorem c_144_0 : zcode 144 0 = some (.aload_n 0, 1, 0, 0, 0) := by decide +kernel
theorem c_144_1 : zcode 144 1 = some (.iload_n 2, 1, 0, 0, 0) := by decide +kernel
theorem c_144_2 : zcode 144 2 = some (.aload_n 1, 1, 0, 0, 0) := by decide +kernel
theorem c_144_3 : zcode 144 3 = some (.iconst 1, 1, 0, 0, 0) := by decide +kernel
theorem c_144_4 : zcode 144 4 = some (.iaload, 1, 0, 0, 0) := by decide +kernel
theorem c_144_5 : zcode 144 5 = some (.aload_n 1, 1, 0, 0, 0) := by decide +kernel
theorem c_144_6 : zcode 144 6 = some (.iconst 0, 1, 0, 0, 0) := by decide +kernel
theorem c_144_7 : zcode 144 7 = some (.iaload, 1, 0, 0, 0) := by decide +kernel
theorem c_144_8 : zcode 144 8 = some (.aload_n 1, 1, 0, 0, 0) := by decide +kernel
theorem c_144_9 : zcode 144 9 = some (.iconst 3, 1, 0, 0, 0) := by decide +kernel
theorem c_144_10 : zcode 144 10 = some (.iaload, 1, 0, 0, 0) := by decide +kernel
theorem c_144_11 : zcode 144 11 = some (.invokevirtual 166, 3, 137, 0, 4228) := by decide +kernel
theorem c_144_14 : zcode 144 14 = some (.ireturn, 1, 0, 0, 0) := by decide +kernel
theorem c_145_0 : zcode 145 0 = some (.aload_n 0, 1, 0, 0, 0) := by decide +kernel
theorem c_145_1 : zcode 145 1 = some (.iconst 0, 1, 0, 0, 0) := by decide +kernel
theorem c_145_2 : zcode 145 2 = some (.putfield 71, 3, 8, 0, 4005) := by decide +kernel
theorem c_145_5 : zcode 145 5 = some (.aload_n 0, 1, 0, 0, 0) := by decide +kernel
theorem c_145_6 : zcode 145 6 = some (.iload_n 1, 1, 0, 0, 0) := by decide +kernel
theorem c_145_7 : zcode 145 7 = some (.invokevirtual 169, 3, 123, 0, 4219) := by decide +kernel
theorem c_145_10 : zcode 145 10 = some (.ifCond .eq 5, 3, 15, 0, 0) := by decide +kernel
theorem c_145_13 : zcode 145 13 = some (.iconst (-1), 1, 0, 0, 0) := by decide +kernel
theorem c_145_14 : zcode 145 14 = some (.ireturn, 1, 0, 0, 0) := by decide +kernel
theorem c_145_15 : zcode 145 15 = some (.iload_n 2, 1, 0, 0, 0) := by decide +kernel
theorem c_145_16 : zcode 145 16 = some (.i2l, 1, 0, 0, 0) := by decide +kernel
theorem c_145_17 : zcode 145 17 = some (.lconst 0, 1, 0, 0, 0) := by decide +kernel
theorem c_145_18 : zcode 145 18 = some (.ldc2_w 172, 3, 2, 0, 4223) := by decide +kernel
theorem c_145_21 : zcode 145 21 = some (.invokestatic 78, 3, 117, 0, 4135) := by decide +kernel
theorem c_145_24 : zcode 145 24 = some (.ifCond .eq 14, 3, 38, 0, 0) := by decide +kernel
theorem c_145_27 : zcode 145 27 = some (.aload_n 0, 1, 0, 0, 0) := by decide +kernel
theorem c_145_28 : zcode 145 28 = some (.getfield 19, 3, 8, 9, 4014) := by decide +kernel
theorem c_145_31 : zcode 145 31 = some (.iconst 3, 1, 0, 0, 0) := by decide +kernel
theorem c_145_32 : zcode 145 32 = some (.iload_n 1, 1, 0, 0, 0) := by decide +kernel
theorem c_145_33 : zcode 145 33 = some (.imul, 1, 0, 0, 0) := by decide +kernel
theorem c_145_34 : zcode 145 34 = some (.iload_n 2, 1, 0, 0, 0) := by decide +kernel
theorem c_145_35 : zcode 145 35 = some (.iadd, 1, 0, 0, 0) := by decide +kernel
theorem c_145_36 : zcode 145 36 = some (.iaload, 1, 0, 0, 0) := by decide +kernel
theorem c_145_37 : zcode 145 37 = some (.ireturn, 1, 0, 0, 0) := by decide +kernel
theorem c_145_38 : zcode 145 38 = some (.iload_n 2, 1, 0, 0, 0) := by decide +kernel
theorem c_145_39 : zcode 145 39 = some (.iconst 3, 1, 0, 0, 0) := by decide +kernel
theorem c_145_40 : zcode 145 40 = some (.if_icmp .eq 6, 3, 46, 0, 0) := by decide +kernel
theorem c_145_43 : zcode 145 43 = some (.bipush (-2), 2, 0, 0, 0) := by decide +kernel
theorem c_145_45 : zcode 145 45 = some (.ireturn, 1, 0, 0, 0) := by decide +kernel
theorem c_145_46 : zcode 145 46 = some (.aload_n 0, 1, 0, 0, 0) := by decide +kernel
theorem c_145_47 : zcode 145 47 = some (.getfield 31, 3, 8, 16, 4021) := by decide +kernel
theorem c_145_50 : zcode 145 50 = some (.iconst 0, 1, 0, 0, 0) := by decide +kernel
theorem c_145_51 : zcode 145 51 = some (.iaload, 1, 0, 0, 0) := by decide +kernel
theorem c_145_52 : zcode 145 52 = some (.bipush (-9), 2, 0, 0, 0) := by decide +kernel
theorem c_145_54 : zcode 145 54 = some (.if_icmp .eq 17, 3, 71, 0, 0) := by decide +kernel
theorem c_145_57 : zcode 145 57 = some (.aload_n 0, 1, 0, 0, 0) := by decide +kernel
theorem c_145_58 : zcode 145 58 = some (.getfield 31, 3, 8, 16, 4021) := by decide +kernel
theorem c_145_61 : zcode 145 61 = some (.invokestatic 141, 3, 138, 0, 4181) := by decide +kernel
theorem c_145_64 : zcode 145 64 = some (.iload_n 1, 1, 0, 0, 0) := by decide +kernel
theorem c_145_65 : zcode 145 65 = some (.invokestatic 137, 3, 118, 0, 4192) := by decide +kernel
theorem c_145_68 : zcode 145 68 = some (.ifCond .eq 8, 3, 76, 0, 0) := by decide +kernel
theorem c_145_71 : zcode 145 71 = some (.bipush (-9), 2, 0, 0, 0) := by decide +kernel
theorem c_145_73 : zcode 145 73 = some (.goto 12, 3, 85, 0, 0) := by decide +kernel
theorem c_145_76 : zcode 145 76 = some (.aload_n 0, 1, 0, 0, 0) := by decide +kernel
theorem c_145_77 : zcode 145 77 = some (.aload_n 0, 1, 0, 0, 0) := by decide +kernel
theorem c_145_78 : zcode 145 78 = some (.getfield 31, 3, 8, 16, 4021) := by decide +kernel
theorem c_145_81 : zcode 145 81 = some (.iload_n 1, 1, 0, 0, 0) := by decide +kernel
theorem c_145_82 : zcode 145 82 = some (.invokevirtual 174, 3, 144, 0, 4224) := by decide +kernel
theorem c_145_85 : zcode 145 85 = some (.ireturn, 1, 0, 0, 0) := by decide +kernel
theorem c_146_0 : zcode 146 0 = some (.aload_n 0, 1, 0, 0, 0) := by decide +kernel
theorem c_146_1 : zcode 146 1 = some (.iconst 0, 1, 0, 0, 0) := by decide +kernel
theorem c_146_2 : zcode 146 2 = some (.putfield 71, 3, 8, 0, 4005) := by decide +kernel
theorem c_146_5 : zcode 146 5 = some (.iload_n 1, 1, 0, 0, 0) := by decide +kernel
theorem c_146_6 : zcode 146 6 = some (.i2l, 1, 0, 0, 0) := by decide +kernel
theorem c_146_7 : zcode 146 7 = some (.lconst 0, 1, 0, 0, 0) := by decide +kernel
theorem c_146_8 : zcode 146 8 = some (.aload_n 0, 1, 0, 0, 0) := by decide +kernel
theorem c_146_9 : zcode 146 9 = some (.getfield 31, 3, 8, 16, 4021) := by decide +kernel
theorem c_146_12 : zcode 146 12 = some (.iconst 3, 1, 0, 0, 0) := by decide +kernel
theorem c_146_13 : zcode 146 13 = some (.iaload, 1, 0, 0, 0) := by decide +kernel
theorem c_146_14 : zcode 146 14 = some (.iconst 1, 1, 0, 0, 0) := by decide +kernel
theorem c_146_15 : zcode 146 15 = some (.isub, 1, 0, 0, 0) := by decide +kernel
theorem c_146_16 : zcode 146 16 = some (.i2l, 1, 0, 0, 0) := by decide +kernel
theorem c_146_17 : zcode 146 17 = some (.invokestatic 78, 3, 117, 0, 4135) := by decide +kernel
theorem c_146_20 : zcode 146 20 = some (.ifCond .eq 14, 3, 34, 0, 0) := by decide +kernel
theorem c_146_23 : zcode 146 23 = some (.aload_n 0, 1, 0, 0, 0) := by decide +kernel
theorem c_146_24 : zcode 146 24 = some (.getfield 31, 3, 8, 16, 4021) := by decide +kernel
theorem c_146_27 : zcode 146 27 = some (.iconst 4, 1, 0, 0, 0) := by decide +kernel
theorem c_146_28 : zcode 146 28 = some (.iload_n 1, 1, 0, 0, 0) := by decide +kernel
theorem c_146_29 : zcode 146 29 = some (.iadd, 1, 0, 0, 0) := by decide +kernel
theorem c_146_30 : zcode 146 30 = some (.iaload, 1, 0, 0, 0) := by decide +kernel
theorem c_146_31 : zcode 146 31 = some (.goto 4, 3, 35, 0, 0) := by decide +kernel
theorem c_146_34 : zcode 146 34 = some (.iconst (-1), 1, 0, 0, 0) := by decide +kernel
theorem c_146_35 : zcode 146 35 = some (.ireturn, 1, 0, 0, 0) := by decide +kernel
theorem c_147_0 : zcode 147 0 = some (.aload_n 0, 1, 0, 0, 0) := by decide +kernel
theorem c_147_1 : zcode 147 1 = some (.iconst 0, 1, 0, 0, 0) := by decide +kernel
theorem c_147_2 : zcode 147 2 = some (.putfield 71, 3, 8, 0, 4005) := by decide +kernel
theorem c_147_5 : zcode 147 5 = some (.aload_n 0, 1, 0, 0, 0) := by decide +kernel
theorem c_147_6 : zcode 147 6 = some (.iload_n 1, 1, 0, 0, 0) := by decide +kernel
theorem c_147_7 : zcode 147 7 = some (.invokevirtual 169, 3, 123, 0, 4219) := by decide +kernel
theorem c_147_10 : zcode 147 10 = some (.ifCond .ne 19, 3, 29, 0, 0) := by decide +kernel
theorem c_147_13 : zcode 147 13 = some (.aload_n 0, 1, 0, 0, 0) := by decide +kernel
theorem c_147_14 : zcode 147 14 = some (.iload_n 2, 1, 0, 0, 0) := by decide +kernel
theorem c_147_15 : zcode 147 15 = some (.invokevirtual 163, 3, 122, 0, 4211) := by decide +kernel
theorem c_147_18 : zcode 147 18 = some (.ifCond .ne 11, 3, 29, 0, 0) := by decide +kernel
theorem c_147_21 : zcode 147 21 = some (.aload_n 0, 1, 0, 0, 0) := by decide +kernel
theorem c_147_22 : zcode 147 22 = some (.iload_n 3, 1, 0, 0, 0) := by decide +kernel
theorem c_147_23 : zcode 147 23 = some (.invokevirtual 155, 3, 121, 0, 4199) := by decide +kernel
theorem c_147_26 : zcode 147 26 = some (.ifCond .eq 5, 3, 31, 0, 0) := by decide +kernel
theorem c_147_29 : zcode 147 29 = some (.iconst (-1), 1, 0, 0, 0) := by decide +kernel
theorem c_147_30 : zcode 147 30 = some (.ireturn, 1, 0, 0, 0) := by decide +kernel
theorem c_147_31 : zcode 147 31 = some (.iload 4, 2, 0, 0, 0) := by decide +kernel
theorem c_147_33 : zcode 147 33 = some (.i2l, 1, 0, 0, 0) := by decide +kernel
theorem c_147_34 : zcode 147 34 = some (.lconst 0, 1, 0, 0, 0) := by decide +kernel
theorem c_147_35 : zcode 147 35 = some (.ldc2_w 178, 3, 5, 0, 5004) := by decide +kernel
theorem c_147_38 : zcode 147 38 = some (.invokestatic 78, 3, 117, 0, 4135) := by decide +kernel
theorem c_147_41 : zcode 147 41 = some (.ifCond .eq 15, 3, 56, 0, 0) := by decide +kernel
theorem c_147_44 : zcode 147 44 = some (.aload_n 0, 1, 0, 0, 0) := by decide +kernel
theorem c_147_45 : zcode 147 45 = some (.iload_n 1, 1, 0, 0, 0) := by decide +kernel
theorem c_147_46 : zcode 147 46 = some (.iload_n 2, 1, 0, 0, 0) := by decide +kernel
theorem c_147_47 : zcode 147 47 = some (.iload_n 3, 1, 0, 0, 0) := by decide +kernel
theorem c_147_48 : zcode 147 48 = some (.iload 4, 2, 0, 0, 0) := by decide +kernel
theorem c_147_50 : zcode 147 50 = some (.invokevirtual 166, 3, 137, 0, 4228) := by decide +kernel
theorem c_147_53 : zcode 147 53 = some (.goto 5, 3, 58, 0, 0) := by decide +kernel
theorem c_147_56 : zcode 147 56 = some (.bipush (-2), 2, 0, 0, 0) := by decide +kernel
theorem c_147_58 : zcode 147 58 = some (.ireturn, 1, 0, 0, 0) := by decide +kernel
theorem c_148_0 : zcode 148 0 = some (.aload_n 0, 1, 0, 0, 0) := by decide +kernel
theorem c_148_1 : zcode 148 1 = some (.getfield 130, 3, 8, 19, 4024) := by decide +kernel
theorem c_148_4 : zcode 148 4 = some (.bipush 14, 2, 0, 0, 0) := by decide +kernel
theorem c_148_6 : zcode 148 6 = some (.if_icmp .ne 43, 3, 49, 0, 0) := by decide +kernel
theorem c_148_9 : zcode 148 9 = some (.iconst 0, 1, 0, 0, 0) := by decide +kernel
theorem c_148_10 : zcode 148 10 = some (.istore_n 1, 1, 0, 0, 0) := by decide +kernel
theorem c_148_11 : zcode 148 11 = some (.iload_n 1, 1, 0, 0, 0) := by decide +kernel
theorem c_148_12 : zcode 148 12 = some (.sipush 130, 3, 0, 0, 0) := by decide +kernel
theorem c_148_15 : zcode 148 15 = some (.if_icmp .ge 24, 3, 39, 0, 0) := by decide +kernel
theorem c_148_18 : zcode 148 18 = some (.aload_n 0, 1, 0, 0, 0) := by decide +kernel
theorem c_148_19 : zcode 148 19 = some (.getfield 37, 3, 8, 18, 4023) := by decide +kernel
theorem c_148_22 : zcode 148 22 = some (.iload_n 1, 1, 0, 0, 0) := by decide +kernel
theorem c_148_23 : zcode 148 23 = some (.aload_n 0, 1, 0, 0, 0) := by decide +kernel
theorem c_148_24 : zcode 148 24 = some (.getfield 37, 3, 8, 18, 4023) := by decide +kernel
theorem c_148_27 : zcode 148 27 = some (.iload_n 1, 1, 0, 0, 0) := by decide +kernel
theorem c_148_28 : zcode 148 28 = some (.bipush 10, 2, 0, 0, 0) := by decide +kernel
theorem c_148_30 : zcode 148 30 = some (.iadd, 1, 0, 0, 0) := by decide +kernel
theorem c_148_31 : zcode 148 31 = some (.iaload, 1, 0, 0, 0) := by decide +kernel
theorem c_148_32 : zcode 148 32 = some (.iastore, 1, 0, 0, 0) := by decide +kernel
theorem c_148_33 : zcode 148 33 = some (.iinc 1 1, 3, 0, 0, 0) := by decide +kernel
theorem c_148_36 : zcode 148 36 = some (.goto (-25), 3, 11, 0, 0) := by decide +kernel
theorem c_148_39 : zcode 148 39 = some (.aload_n 0, 1, 0, 0, 0) := by decide +kernel
theorem c_148_40 : zcode 148 40 = some (.dup, 1, 0, 0, 0) := by decide +kernel
theorem c_148_41 : zcode 148 41 = some (.getfield 130, 3, 8, 19, 4024) := by decide +kernel
theorem c_148_44 : zcode 148 44 = some (.iconst 1, 1, 0, 0, 0) := by decide +kernel
theorem c_148_45 : zcode 148 45 = some (.isub, 1, 0, 0, 0) := by decide +kernel
theorem c_148_46 : zcode 148 46 = some (.putfield 130, 3, 8, 19, 4024) := by decide +kernel
theorem c_148_49 : zcode 148 49 = some (.iconst 0, 1, 0, 0, 0) := by decide +kernel
theorem c_148_50 : zcode 148 50 = some (.istore_n 1, 1, 0, 0, 0) := by decide +kernel
theorem c_148_51 : zcode 148 51 = some (.iload_n 1, 1, 0, 0, 0) := by decide +kernel
theorem c_148_52 : zcode 148 52 = some (.bipush 10, 2, 0, 0, 0) := by decide +kernel
theorem c_148_54 : zcode 148 54 = some (.if_icmp .ge 29, 3, 83, 0, 0) := by decide +kernel
theorem c_148_57 : zcode 148 57 = some (.aload_n 0, 1, 0, 0, 0) := by decide +kernel
theorem c_148_58 : zcode 148 58 = some (.getfield 37, 3, 8, 18, 4023) := by decide +kernel
theorem c_148_61 : zcode 148 61 = some (.bipush 10, 2, 0, 0, 0) := by decide +kernel
theorem c_148_63 : zcode 148 63 = some (.aload_n 0, 1, 0, 0, 0) := by decide +kernel
theorem c_148_64 : zcode 148 64 = some (.getfield 130, 3, 8, 19, 4024) := by decide +kernel
theorem c_148_67 : zcode 148 67 = some (.imul, 1, 0, 0, 0) := by decide +kernel
theorem c_148_68 : zcode 148 68 = some (.iload_n 1, 1, 0, 0, 0) := by decide +kernel
theorem c_148_69 : zcode 148 69 = some (.iadd, 1, 0, 0, 0) := by decide +kernel
theorem c_148_70 : zcode 148 70 = some (.aload_n 0, 1, 0, 0, 0) := by decide +kernel
theorem c_148_71 : zcode 148 71 = some (.getfield 31, 3, 8, 16, 4021) := by decide +kernel
theorem c_148_74 : zcode 148 74 = some (.iload_n 1, 1, 0, 0, 0) := by decide +kernel
theorem c_148_75 : zcode 148 75 = some (.iaload, 1, 0, 0, 0) := by decide +kernel
theorem c_148_76 : zcode 148 76 = some (.iastore, 1, 0, 0, 0) := by decide +kernel
theorem c_148_77 : zcode 148 77 = some (.iinc 1 1, 3, 0, 0, 0) := by decide +kernel
theorem c_148_80 : zcode 148 80 = some (.goto (-29), 3, 51, 0, 0) := by decide +kernel
theorem c_148_83 : zcode 148 83 = some (.aload_n 0, 1, 0, 0, 0) := by decide +kernel
theorem c_148_84 : zcode 148 84 = some (.dup, 1, 0, 0, 0) := by decide +kernel
theorem c_148_85 : zcode 148 85 = some (.getfield 130, 3, 8, 19, 4024) := by decide +kernel
theorem c_148_88 : zcode 148 88 = some (.iconst 1, 1, 0, 0, 0) := by decide +kernel
theorem c_148_89 : zcode 148 89 = some (.iadd, 1, 0, 0, 0) := by decide +kernel
theorem c_148_90 : zcode 148 90 = some (.putfield 130, 3, 8, 19, 4024) := by decide +kernel
theorem c_148_93 : zcode 148 93 = some (.return_, 1, 0, 0, 0) := by decide +kernel
theorem c_149_0 : zcode 149 0 = some (.aload_n 1, 1, 0, 0, 0) := by decide +kernel
theorem c_149_1 : zcode 149 1 = some (.iconst 0, 1, 0, 0, 0) := by decide +kernel
theorem c_149_2 : zcode 149 2 = some (.iload_n 2, 1, 0, 0, 0) := by decide +kernel
theorem c_149_3 : zcode 149 3 = some (.iastore, 1, 0, 0, 0) := by decide +kernel
theorem c_149_4 : zcode 149 4 = some (.aload_n 1, 1, 0, 0, 0) := by decide +kernel
theorem c_149_5 : zcode 149 5 = some (.iconst 1, 1, 0, 0, 0) := by decide +kernel
theorem c_149_6 : zcode 149 6 = some (.iload_n 3, 1, 0, 0, 0) := by decide +kernel
theorem c_149_7 : zcode 149 7 = some (.iastore, 1, 0, 0, 0) := by decide +kernel
theorem c_149_8 : zcode 149 8 = some (.aload_n 1, 1, 0, 0, 0) := by decide +kernel
theorem c_149_9 : zcode 149 9 = some (.iconst 2, 1, 0, 0, 0) := by decide +kernel
theorem c_149_10 : zcode 149 10 = some (.aload_n 0, 1, 0, 0, 0) := by decide +kernel
theorem c_149_11 : zcode 149 11 = some (.iload_n 2, 1, 0, 0, 0) := by decide +kernel
theorem c_149_12 : zcode 149 12 = some (.invokevirtual 159, 3, 135, 0, 4203) := by decide +kernel
theorem c_149_15 : zcode 149 15 = some (.iastore, 1, 0, 0, 0) := by decide +kernel
theorem c_149_16 : zcode 149 16 = some (.iconst 3, 1, 0, 0, 0) := by decide +kernel
theorem c_149_17 : zcode 149 17 = some (.istore 4, 2, 0, 0, 0) := by decide +kernel
theorem c_149_19 : zcode 149 19 = some (.iload 4, 2, 0, 0, 0) := by decide +kernel
theorem c_149_21 : zcode 149 21 = some (.bipush 10, 2, 0, 0, 0) := by decide +kernel
theorem c_149_23 : zcode 149 23 = some (.if_icmp .ge 14, 3, 37, 0, 0) := by decide +kernel
theorem c_149_26 : zcode 149 26 = some (.aload_n 1, 1, 0, 0, 0) := by decide +kernel
theorem c_149_27 : zcode 149 27 = some (.iload 4, 2, 0, 0, 0) := by decide +kernel
theorem c_149_29 : zcode 149 29 = some (.iconst 0, 1, 0, 0, 0) := by decide +kernel
theorem c_149_30 : zcode 149 30 = some (.iastore, 1, 0, 0, 0) := by decide +kernel
theorem c_149_31 : zcode 149 31 = some (.iinc 4 1, 3, 0, 0, 0) := by decide +kernel
theorem c_149_34 : zcode 149 34 = some (.goto (-15), 3, 19, 0, 0) := by decide +kernel
theorem c_149_37 : zcode 149 37 = some (.return_, 1, 0, 0, 0) := by decide +kernel
theorem c_150_0 : zcode 150 0 = some (.aload_n 0, 1, 0, 0, 0) := by decide +kernel
theorem c_150_1 : zcode 150 1 = some (.iconst 0, 1, 0, 0, 0) := by decide +kernel
theorem c_150_2 : zcode 150 2 = some (.putfield 71, 3, 8, 0, 4005) := by decide +kernel
theorem c_150_5 : zcode 150 5 = some (.aload_n 0, 1, 0, 0, 0) := by decide +kernel
theorem c_150_6 : zcode 150 6 = some (.iload_n 1, 1, 0, 0, 0) := by decide +kernel
theorem c_150_7 : zcode 150 7 = some (.invokevirtual 155, 3, 121, 0, 4199) := by decide +kernel
theorem c_150_10 : zcode 150 10 = some (.ifCond .ne 11, 3, 21, 0, 0) := by decide +kernel
theorem c_150_13 : zcode 150 13 = some (.aload_n 0, 1, 0, 0, 0) := by decide +kernel
theorem c_150_14 : zcode 150 14 = some (.iload_n 2, 1, 0, 0, 0) := by decide +kernel
theorem c_150_15 : zcode 150 15 = some (.invokevirtual 163, 3, 122, 0, 4211) := by decide +kernel
theorem c_150_18 : zcode 150 18 = some (.ifCond .eq 5, 3, 23, 0, 0) := by decide +kernel
theorem c_150_21 : zcode 150 21 = some (.iconst (-1), 1, 0, 0, 0) := by decide +kernel
theorem c_150_22 : zcode 150 22 = some (.ireturn, 1, 0, 0, 0) := by decide +kernel
theorem c_150_23 : zcode 150 23 = some (.aload_n 0, 1, 0, 0, 0) := by decide +kernel
theorem c_150_24 : zcode 150 24 = some (.invokevirtual 180, 3, 148, 0, 5009) := by decide +kernel
theorem c_150_27 : zcode 150 27 = some (.aload_n 0, 1, 0, 0, 0) := by decide +kernel
theorem c_150_28 : zcode 150 28 = some (.aload_n 0, 1, 0, 0, 0) := by decide +kernel
theorem c_150_29 : zcode 150 29 = some (.getfield 31, 3, 8, 16, 4021) := by decide +kernel
theorem c_150_32 : zcode 150 32 = some (.iload_n 1, 1, 0, 0, 0) := by decide +kernel
theorem c_150_33 : zcode 150 33 = some (.iload_n 2, 1, 0, 0, 0) := by decide +kernel
theorem c_150_34 : zcode 150 34 = some (.invokevirtual 183, 3, 149, 0, 5013) := by decide +kernel
theorem c_150_37 : zcode 150 37 = some (.aload_n 0, 1, 0, 0, 0) := by decide +kernel
theorem c_150_38 : zcode 150 38 = some (.getfield 31, 3, 8, 16, 4021) := by decide +kernel
theorem c_150_41 : zcode 150 41 = some (.iconst 2, 1, 0, 0, 0) := by decide +kernel
theorem c_150_42 : zcode 150 42 = some (.iaload, 1, 0, 0, 0) := by decide +kernel
theorem c_150_43 : zcode 150 43 = some (.ireturn, 1, 0, 0, 0) := by decide +kernel
theorem c_151_0 : zcode 151 0 = some (.aload_n 1, 1, 0, 0, 0) := by decide +kernel
theorem c_151_1 : zcode 151 1 = some (.iconst 0, 1, 0, 0, 0) := by decide +kernel
theorem c_151_2 : zcode 151 2 = some (.iaload, 1, 0, 0, 0) := by decide +kernel
theorem c_151_3 : zcode 151 3 = some (.bipush (-9), 2, 0, 0, 0) := by decide +kernel
theorem c_151_5 : zcode 151 5 = some (.if_icmp .eq 30, 3, 35, 0, 0) := by decide +kernel
theorem c_151_8 : zcode 151 8 = some (.aload_n 1, 1, 0, 0, 0) := by decide +kernel
theorem c_151_9 : zcode 151 9 = some (.invokestatic 141, 3, 138, 0, 4181) := by decide +kernel
theorem c_151_12 : zcode 151 12 = some (.iload_n 2, 1, 0, 0, 0) := by decide +kernel
theorem c_151_13 : zcode 151 13 = some (.invokestatic 137, 3, 118, 0, 4192) := by decide +kernel
theorem c_151_16 : zcode 151 16 = some (.ifCond .ne 19, 3, 35, 0, 0) := by decide +kernel
theorem c_151_19 : zcode 151 19 = some (.aload_n 0, 1, 0, 0, 0) := by decide +kernel
theorem c_151_20 : zcode 151 20 = some (.aload_n 1, 1, 0, 0, 0) := by decide +kernel
theorem c_151_21 : zcode 151 21 = some (.iload_n 2, 1, 0, 0, 0) := by decide +kernel
theorem c_151_22 : zcode 151 22 = some (.invokevirtual 174, 3, 144, 0, 4224) := by decide +kernel
theorem c_151_25 : zcode 151 25 = some (.aload_n 1, 1, 0, 0, 0) := by decide +kernel
theorem c_151_26 : zcode 151 26 = some (.iconst 2, 1, 0, 0, 0) := by decide +kernel
theorem c_151_27 : zcode 151 27 = some (.iaload, 1, 0, 0, 0) := by decide +kernel
theorem c_151_28 : zcode 151 28 = some (.if_icmp .gt 7, 3, 35, 0, 0) := by decide +kernel
theorem c_151_31 : zcode 151 31 = some (.iconst 1, 1, 0, 0, 0) := by decide +kernel
theorem c_151_32 : zcode 151 32 = some (.goto 4, 3, 36, 0, 0) := by decide +kernel
theorem c_151_35 : zcode 151 35 = some (.iconst 0, 1, 0, 0, 0) := by decide +kernel
theorem c_151_36 : zcode 151 36 = some (.ireturn, 1, 0, 0, 0) := by decide +kernel
theorem c_152_0 : zcode 152 0 = some (.aload_n 1, 1, 0, 0, 0) := by decide +kernel
theorem c_152_1 : zcode 152 1 = some (.iconst 2, 1, 0, 0, 0) := by decide +kernel
theorem c_152_2 : zcode 152 2 = some (.dup2, 1, 0, 0, 0) := by decide +kernel
theorem c_152_3 : zcode 152 3 = some (.iaload, 1, 0, 0, 0) := by decide +kernel
theorem c_152_4 : zcode 152 4 = some (.aload_n 0, 1, 0, 0, 0) := by decide +kernel
theorem c_152_5 : zcode 152 5 = some (.aload_n 1, 1, 0, 0, 0) := by decide +kernel
theorem c_152_6 : zcode 152 6 = some (.iload_n 2, 1, 0, 0, 0) := by decide +kernel
theorem c_152_7 : zcode 152 7 = some (.invokevirtual 174, 3, 144, 0, 4224) := by decide +kernel
theorem c_152_10 : zcode 152 10 = some (.isub, 1, 0, 0, 0) := by decide +kernel
theorem c_152_11 : zcode 152 11 = some (.iastore, 1, 0, 0, 0) := by decide +kernel
theorem c_152_12 : zcode 152 12 = some (.aload_n 1, 1, 0, 0, 0) := by decide +kernel
theorem c_152_13 : zcode 152 13 = some (.iconst 4, 1, 0, 0, 0) := by decide +kernel
theorem c_152_14 : zcode 152 14 = some (.aload_n 1, 1, 0, 0, 0) := by decide +kernel
theorem c_152_15 : zcode 152 15 = some (.iconst 3, 1, 0, 0, 0) := by decide +kernel
theorem c_152_16 : zcode 152 16 = some (.iaload, 1, 0, 0, 0) := by decide +kernel
theorem c_152_17 : zcode 152 17 = some (.iadd, 1, 0, 0, 0) := by decide +kernel
theorem c_152_18 : zcode 152 18 = some (.iload_n 2, 1, 0, 0, 0) := by decide +kernel
theorem c_152_19 : zcode 152 19 = some (.iastore, 1, 0, 0, 0) := by decide +kernel
theorem c_152_20 : zcode 152 20 = some (.aload_n 1, 1, 0, 0, 0) := by decide +kernel
theorem c_152_21 : zcode 152 21 = some (.iconst 3, 1, 0, 0, 0) := by decide +kernel
theorem c_152_22 : zcode 152 22 = some (.dup2, 1, 0, 0, 0) := by decide +kernel
theorem c_152_23 : zcode 152 23 = some (.iaload, 1, 0, 0, 0) := by decide +kernel
theorem c_152_24 : zcode 152 24 = some (.iconst 1, 1, 0, 0, 0) := by decide +kernel
theorem c_152_25 : zcode 152 25 = some (.iadd, 1, 0, 0, 0) := by decide +kernel
theorem c_152_26 : zcode 152 26 = some (.iastore, 1, 0, 0, 0) := by decide +kernel
theorem c_152_27 : zcode 152 27 = some (.return_, 1, 0, 0, 0) := by decide +kernel
theorem c_153_0 : zcode 153 0 = some (.aload_n 0, 1, 0, 0, 0) := by decide +kernel
theorem c_153_1 : zcode 153 1 = some (.iconst 0, 1, 0, 0, 0) := by decide +kernel
theorem c_153_2 : zcode 153 2 = some (.putfield 71, 3, 8, 0, 4005) := by decide +kernel
theorem c_153_5 : zcode 153 5 = some (.aload_n 0, 1, 0, 0, 0) := by decide +kernel
theorem c_153_6 : zcode 153 6 = some (.iload_n 1, 1, 0, 0, 0) := by decide +kernel
theorem c_153_7 : zcode 153 7 = some (.invokevirtual 169, 3, 123, 0, 4219) := by decide +kernel
theorem c_153_10 : zcode 153 10 = some (.ifCond .eq 5, 3, 15, 0, 0) := by decide +kernel
theorem c_153_13 : zcode 153 13 = some (.iconst (-1), 1, 0, 0, 0) := by decide +kernel
theorem c_153_14 : zcode 153 14 = some (.ireturn, 1, 0, 0, 0) := by decide +kernel
theorem c_153_15 : zcode 153 15 = some (.aload_n 0, 1, 0, 0, 0) := by decide +kernel
theorem c_153_16 : zcode 153 16 = some (.aload_n 0, 1, 0, 0, 0) := by decide +kernel
theorem c_153_17 : zcode 153 17 = some (.getfield 31, 3, 8, 16, 4021) := by decide +kernel
theorem c_153_20 : zcode 153 20 = some (.iload_n 1, 1, 0, 0, 0) := by decide +kernel
theorem c_153_21 : zcode 153 21 = some (.invokevirtual 187, 3, 151, 0, 5021) := by decide +kernel
theorem c_153_24 : zcode 153 24 = some (.ifCond .ne 6, 3, 30, 0, 0) := by decide +kernel
theorem c_153_27 : zcode 153 27 = some (.bipush (-3), 2, 0, 0, 0) := by decide +kernel
theorem c_153_29 : zcode 153 29 = some (.ireturn, 1, 0, 0, 0) := by decide +kernel
theorem c_153_30 : zcode 153 30 = some (.aload_n 0, 1, 0, 0, 0) := by decide +kernel
theorem c_153_31 : zcode 153 31 = some (.invokevirtual 180, 3, 148, 0, 5009) := by decide +kernel
theorem c_153_34 : zcode 153 34 = some (.aload_n 0, 1, 0, 0, 0) := by decide +kernel
theorem c_153_35 : zcode 153 35 = some (.aload_n 0, 1, 0, 0, 0) := by decide +kernel
theorem c_153_36 : zcode 153 36 = some (.getfield 31, 3, 8, 16, 4021) := by decide +kernel
theorem c_153_39 : zcode 153 39 = some (.iload_n 1, 1, 0, 0, 0) := by decide +kernel
theorem c_153_40 : zcode 153 40 = some (.invokevirtual 190, 3, 152, 0, 5025) := by decide +kernel
theorem c_153_43 : zcode 153 43 = some (.aload_n 0, 1, 0, 0, 0) := by decide +kernel
theorem c_153_44 : zcode 153 44 = some (.getfield 31, 3, 8, 16, 4021) := by decide +kernel
theorem c_153_47 : zcode 153 47 = some (.iconst 2, 1, 0, 0, 0) := by decide +kernel
theorem c_153_48 : zcode 153 48 = some (.iaload, 1, 0, 0, 0) := by decide +kernel
theorem c_153_49 : zcode 153 49 = some (.ireturn, 1, 0, 0, 0) := by decide +kernel
theorem c_154_0 : zcode 154 0 = some (.aload_n 1, 1, 0, 0, 0) := by decide +kernel
theorem c_154_1 : zcode 154 1 = some (.iconst 0, 1, 0, 0, 0) := by decide +kernel
theorem c_154_2 : zcode 154 2 = some (.iaload, 1, 0, 0, 0) := by decide +kernel
theorem c_154_3 : zcode 154 3 = some (.bipush (-9), 2, 0, 0, 0) := by decide +kernel
theorem c_154_5 : zcode 154 5 = some (.if_icmp .ne 6, 3, 11, 0, 0) := by decide +kernel
theorem c_154_8 : zcode 154 8 = some (.bipush (-9), 2, 0, 0, 0) := by decide +kernel
theorem c_154_10 : zcode 154 10 = some (.ireturn, 1, 0, 0, 0) := by decide +kernel
theorem c_154_11 : zcode 154 11 = some (.aload_n 0, 1, 0, 0, 0) := by decide +kernel
theorem c_154_12 : zcode 154 12 = some (.getfield 13, 3, 8, 5, 4010) := by decide +kernel
theorem c_154_15 : zcode 154 15 = some (.iconst 2, 1, 0, 0, 0) := by decide +kernel
theorem c_154_16 : zcode 154 16 = some (.aload_n 1, 1, 0, 0, 0) := by decide +kernel
theorem c_154_17 : zcode 154 17 = some (.iconst 0, 1, 0, 0, 0) := by decide +kernel
theorem c_154_18 : zcode 154 18 = some (.iaload, 1, 0, 0, 0) := by decide +kernel
theorem c_154_19 : zcode 154 19 = some (.imul, 1, 0, 0, 0) := by decide +kernel
theorem c_154_20 : zcode 154 20 = some (.iconst 1, 1, 0, 0, 0) := by decide +kernel
theorem c_154_21 : zcode 154 21 = some (.iadd, 1, 0, 0, 0) := by decide +kernel
theorem c_154_22 : zcode 154 22 = some (.iaload, 1, 0, 0, 0) := by decide +kernel
theorem c_154_23 : zcode 154 23 = some (.iconst 3, 1, 0, 0, 0) := by decide +kernel
theorem c_154_24 : zcode 154 24 = some (.if_icmp .ne 7, 3, 31, 0, 0) := by decide +kernel
theorem c_154_27 : zcode 154 27 = some (.iconst 0, 1, 0, 0, 0) := by decide +kernel
theorem c_154_28 : zcode 154 28 = some (.goto 4, 3, 32, 0, 0) := by decide +kernel
theorem c_154_31 : zcode 154 31 = some (.iconst 1, 1, 0, 0, 0) := by decide +kernel
theorem c_154_32 : zcode 154 32 = some (.istore_n 2, 1, 0, 0, 0) := by decide +kernel
theorem c_154_33 : zcode 154 33 = some (.iload_n 2, 1, 0, 0, 0) := by decide +kernel
theorem c_154_34 : zcode 154 34 = some (.aload_n 1, 1, 0, 0, 0) := by decide +kernel
theorem c_154_35 : zcode 154 35 = some (.iconst 2, 1, 0, 0, 0) := by decide +kernel
theorem c_154_36 : zcode 154 36 = some (.iaload, 1, 0, 0, 0) := by decide +kernel
theorem c_154_37 : zcode 154 37 = some (.if_icmp .le 8, 3, 45, 0, 0) := by decide +kernel
theorem c_154_40 : zcode 154 40 = some (.bipush (-9), 2, 0, 0, 0) := by decide +kernel
theorem c_154_42 : zcode 154 42 = some (.goto 4, 3, 46, 0, 0) := by decide +kernel
theorem c_154_45 : zcode 154 45 = some (.iload_n 2, 1, 0, 0, 0) := by decide +kernel
theorem c_154_46 : zcode 154 46 = some (.ireturn, 1, 0, 0, 0) := by decide +kernel
theorem c_155_0 : zcode 155 0 = some (.aload_n 0, 1, 0, 0, 0) := by decide +kernel
theorem c_155_1 : zcode 155 1 = some (.iconst 0, 1, 0, 0, 0) := by decide +kernel
theorem c_155_2 : zcode 155 2 = some (.putfield 71, 3, 8, 0, 4005) := by decide +kernel
theorem c_155_5 : zcode 155 5 = some (.aload_n 0, 1, 0, 0, 0) := by decide +kernel
theorem c_155_6 : zcode 155 6 = some (.aload_n 0, 1, 0, 0, 0) := by decide +kernel
theorem c_155_7 : zcode 155 7 = some (.getfield 31, 3, 8, 16, 4021) := by decide +kernel
theorem c_155_10 : zcode 155 10 = some (.invokevirtual 194, 3, 154, 0, 5033) := by decide +kernel
theorem c_155_13 : zcode 155 13 = some (.istore_n 1, 1, 0, 0, 0) := by decide +kernel
theorem c_155_14 : zcode 155 14 = some (.iload_n 1, 1, 0, 0, 0) := by decide +kernel
theorem c_155_15 : zcode 155 15 = some (.bipush (-9), 2, 0, 0, 0) := by decide +kernel
theorem c_155_17 : zcode 155 17 = some (.if_icmp .ne 6, 3, 23, 0, 0) := by decide +kernel
theorem c_155_20 : zcode 155 20 = some (.bipush (-3), 2, 0, 0, 0) := by decide +kernel
theorem c_155_22 : zcode 155 22 = some (.ireturn, 1, 0, 0, 0) := by decide +kernel
theorem c_155_23 : zcode 155 23 = some (.aload_n 0, 1, 0, 0, 0) := by decide +kernel
theorem c_155_24 : zcode 155 24 = some (.invokevirtual 180, 3, 148, 0, 5009) := by decide +kernel
theorem c_155_27 : zcode 155 27 = some (.aload_n 0, 1, 0, 0, 0) := by decide +kernel
theorem c_155_28 : zcode 155 28 = some (.getfield 31, 3, 8, 16, 4021) := by decide +kernel
theorem c_155_31 : zcode 155 31 = some (.iconst 2, 1, 0, 0, 0) := by decide +kernel
theorem c_155_32 : zcode 155 32 = some (.dup2, 1, 0, 0, 0) := by decide +kernel
theorem c_155_33 : zcode 155 33 = some (.iaload, 1, 0, 0, 0) := by decide +kernel
theorem c_155_34 : zcode 155 34 = some (.iload_n 1, 1, 0, 0, 0) := by decide +kernel
theorem c_155_35 : zcode 155 35 = some (.isub, 1, 0, 0, 0) := by decide +kernel
theorem c_155_36 : zcode 155 36 = some (.iastore, 1, 0, 0, 0) := by decide +kernel
theorem c_155_37 : zcode 155 37 = some (.aload_n 0, 1, 0, 0, 0) := by decide +kernel
theorem c_155_38 : zcode 155 38 = some (.getfield 31, 3, 8, 16, 4021) := by decide +kernel
theorem c_155_41 : zcode 155 41 = some (.iconst 2, 1, 0, 0, 0) := by decide +kernel
theorem c_155_42 : zcode 155 42 = some (.iaload, 1, 0, 0, 0) := by decide +kernel
theorem c_155_43 : zcode 155 43 = some (.ireturn, 1, 0, 0, 0) := by decide +kernel
theorem c_156_0 : zcode 156 0 = some (.aload_n 0, 1, 0, 0, 0) := by decide +kernel
theorem c_156_1 : zcode 156 1 = some (.iconst 0, 1, 0, 0, 0) := by decide +kernel
theorem c_156_2 : zcode 156 2 = some (.iaload, 1, 0, 0, 0) := by decide +kernel
theorem c_156_3 : zcode 156 3 = some (.bipush (-9), 2, 0, 0, 0) := by decide +kernel
theorem c_156_5 : zcode 156 5 = some (.if_icmp .eq 13, 3, 18, 0, 0) := by decide +kernel
theorem c_156_8 : zcode 156 8 = some (.aload_n 0, 1, 0, 0, 0) := by decide +kernel
theorem c_156_9 : zcode 156 9 = some (.iconst 2, 1, 0, 0, 0) := by decide +kernel
theorem c_156_10 : zcode 156 10 = some (.iaload, 1, 0, 0, 0) := by decide +kernel
theorem c_156_11 : zcode 156 11 = some (.ifCond .le 7, 3, 18, 0, 0) := by decide +kernel
theorem c_156_14 : zcode 156 14 = some (.iconst 1, 1, 0, 0, 0) := by decide +kernel
theorem c_156_15 : zcode 156 15 = some (.goto 4, 3, 19, 0, 0) := by decide +kernel
theorem c_156_18 : zcode 156 18 = some (.iconst 0, 1, 0, 0, 0) := by decide +kernel
theorem c_156_19 : zcode 156 19 = some (.ireturn, 1, 0, 0, 0) := by decide +kernel
theorem c_157_0 : zcode 157 0 = some (.aload_n 0, 1, 0, 0, 0) := by decide +kernel
theorem c_157_1 : zcode 157 1 = some (.iconst 2, 1, 0, 0, 0) := by decide +kernel
theorem c_157_2 : zcode 157 2 = some (.aload_n 0, 1, 0, 0, 0) := by decide +kernel
theorem c_157_3 : zcode 157 3 = some (.iconst 2, 1, 0, 0, 0) := by decide +kernel
theorem c_157_4 : zcode 157 4 = some (.iaload, 1, 0, 0, 0) := by decide +kernel
theorem c_157_5 : zcode 157 5 = some (.iload_n 1, 1, 0, 0, 0) := by decide +kernel
theorem c_157_6 : zcode 157 6 = some (.if_icmp .ge 7, 3, 13, 0, 0) := by decide +kernel
theorem c_157_9 : zcode 157 9 = some (.iconst 0, 1, 0, 0, 0) := by decide +kernel
theorem c_157_10 : zcode 157 10 = some (.goto 8, 3, 18, 0, 0) := by decide +kernel
theorem c_157_13 : zcode 157 13 = some (.aload_n 0, 1, 0, 0, 0) := by decide +kernel
theorem c_157_14 : zcode 157 14 = some (.iconst 2, 1, 0, 0, 0) := by decide +kernel
theorem c_157_15 : zcode 157 15 = some (.iaload, 1, 0, 0, 0) := by decide +kernel
theorem c_157_16 : zcode 157 16 = some (.iload_n 1, 1, 0, 0, 0) := by decide +kernel
theorem c_157_17 : zcode 157 17 = some (.isub, 1, 0, 0, 0) := by decide +kernel
theorem c_157_18 : zcode 157 18 = some (.iastore, 1, 0, 0, 0) := by decide +kernel
theorem c_157_19 : zcode 157 19 = some (.return_, 1, 0, 0, 0) := by decide +kernel
theorem c_158_0 : zcode 158 0 = some (.aload_n 0, 1, 0, 0, 0) := by decide +kernel
theorem c_158_1 : zcode 158 1 = some (.iconst 0, 1, 0, 0, 0) := by decide +kernel
theorem c_158_2 : zcode 158 2 = some (.putfield 71, 3, 8, 0, 4005) := by decide +kernel
theorem c_158_5 : zcode 158 5 = some (.iload_n 1, 1, 0, 0, 0) := by decide +kernel
theorem c_158_6 : zcode 158 6 = some (.i2l, 1, 0, 0, 0) := by decide +kernel
theorem c_158_7 : zcode 158 7 = some (.lconst 1, 1, 0, 0, 0) := by decide +kernel
theorem c_158_8 : zcode 158 8 = some (.ldc2_w 197, 3, 9, 0, 5041) := by decide +kernel
theorem c_158_11 : zcode 158 11 = some (.invokestatic 78, 3, 117, 0, 4135) := by decide +kernel
theorem c_158_14 : zcode 158 14 = some (.ifCond .ne 6, 3, 20, 0, 0) := by decide +kernel
theorem c_158_17 : zcode 158 17 = some (.bipush (-2), 2, 0, 0, 0) := by decide +kernel
theorem c_158_19 : zcode 158 19 = some (.ireturn, 1, 0, 0, 0) := by decide +kernel
theorem c_158_20 : zcode 158 20 = some (.aload_n 0, 1, 0, 0, 0) := by decide +kernel
theorem c_158_21 : zcode 158 21 = some (.getfield 31, 3, 8, 16, 4021) := by decide +kernel
theorem c_158_24 : zcode 158 24 = some (.invokestatic 199, 3, 156, 0, 5042) := by decide +kernel
theorem c_158_27 : zcode 158 27 = some (.ifCond .ne 6, 3, 33, 0, 0) := by decide +kernel
theorem c_158_30 : zcode 158 30 = some (.bipush (-3), 2, 0, 0, 0) := by decide +kernel
theorem c_158_32 : zcode 158 32 = some (.ireturn, 1, 0, 0, 0) := by decide +kernel
theorem c_158_33 : zcode 158 33 = some (.aload_n 0, 1, 0, 0, 0) := by decide +kernel
theorem c_158_34 : zcode 158 34 = some (.invokevirtual 180, 3, 148, 0, 5009) := by decide +kernel
theorem c_158_37 : zcode 158 37 = some (.aload_n 0, 1, 0, 0, 0) := by decide +kernel
theorem c_158_38 : zcode 158 38 = some (.getfield 31, 3, 8, 16, 4021) := by decide +kernel
theorem c_158_41 : zcode 158 41 = some (.iload_n 1, 1, 0, 0, 0) := by decide +kernel
theorem c_158_42 : zcode 158 42 = some (.invokestatic 203, 3, 157, 0, 5045) := by decide +kernel
theorem c_158_45 : zcode 158 45 = some (.aload_n 0, 1, 0, 0, 0) := by decide +kernel
theorem c_158_46 : zcode 158 46 = some (.getfield 31, 3, 8, 16, 4021) := by decide +kernel
theorem c_158_49 : zcode 158 49 = some (.iconst 2, 1, 0, 0, 0) := by decide +kernel
theorem c_158_50 : zcode 158 50 = some (.iaload, 1, 0, 0, 0) := by decide +kernel
theorem c_158_51 : zcode 158 51 = some (.ireturn, 1, 0, 0, 0) := by decide +kernel
theorem c_159_0 : zcode 159 0 = some (.aload_n 0, 1, 0, 0, 0) := by decide +kernel
theorem c_159_1 : zcode 159 1 = some (.iconst 0, 1, 0, 0, 0) := by decide +kernel
theorem c_159_2 : zcode 159 2 = some (.putfield 71, 3, 8, 0, 4005) := by decide +kernel
theorem c_159_5 : zcode 159 5 = some (.aload_n 0, 1, 0, 0, 0) := by decide +kernel
theorem c_159_6 : zcode 159 6 = some (.getfield 130, 3, 8, 19, 4024) := by decide +kernel
theorem c_159_9 : zcode 159 9 = some (.ifCond .ne 6, 3, 15, 0, 0) := by decide +kernel
theorem c_159_12 : zcode 159 12 = some (.bipush (-3), 2, 0, 0, 0) := by decide +kernel
theorem c_159_14 : zcode 159 14 = some (.ireturn, 1, 0, 0, 0) := by decide +kernel
theorem c_159_15 : zcode 159 15 = some (.aload_n 0, 1, 0, 0, 0) := by decide +kernel
theorem c_159_16 : zcode 159 16 = some (.dup, 1, 0, 0, 0) := by decide +kernel
theorem c_159_17 : zcode 159 17 = some (.getfield 130, 3, 8, 19, 4024) := by decide +kernel
theorem c_159_20 : zcode 159 20 = some (.iconst 1, 1, 0, 0, 0) := by decide +kernel
theorem c_159_21 : zcode 159 21 = some (.isub, 1, 0, 0, 0) := by decide +kernel
theorem c_159_22 : zcode 159 22 = some (.putfield 130, 3, 8, 19, 4024) := by decide +kernel
theorem c_159_25 : zcode 159 25 = some (.iconst 0, 1, 0, 0, 0) := by decide +kernel
theorem c_159_26 : zcode 159 26 = some (.istore_n 1, 1, 0, 0, 0) := by decide +kernel
theorem c_159_27 : zcode 159 27 = some (.iload_n 1, 1, 0, 0, 0) := by decide +kernel
theorem c_159_28 : zcode 159 28 = some (.bipush 10, 2, 0, 0, 0) := by decide +kernel
theorem c_159_30 : zcode 159 30 = some (.if_icmp .ge 29, 3, 59, 0, 0) := by decide +kernel
theorem c_159_33 : zcode 159 33 = some (.aload_n 0, 1, 0, 0, 0) := by decide +kernel
theorem c_159_34 : zcode 159 34 = some (.getfield 31, 3, 8, 16, 4021) := by decide +kernel
theorem c_159_37 : zcode 159 37 = some (.iload_n 1, 1, 0, 0, 0) := by decide +kernel
theorem c_159_38 : zcode 159 38 = some (.aload_n 0, 1, 0, 0, 0) := by decide +kernel
theorem c_159_39 : zcode 159 39 = some (.getfield 37, 3, 8, 18, 4023) := by decide +kernel
theorem c_159_42 : zcode 159 42 = some (.bipush 10, 2, 0, 0, 0) := by decide +kernel
theorem c_159_44 : zcode 159 44 = some (.aload_n 0, 1, 0, 0, 0) := by decide +kernel
theorem c_159_45 : zcode 159 45 = some (.getfield 130, 3, 8, 19, 4024) := by decide +kernel
theorem c_159_48 : zcode 159 48 = some (.imul, 1, 0, 0, 0) := by decide +kernel
theorem c_159_49 : zcode 159 49 = some (.iload_n 1, 1, 0, 0, 0) := by decide +kernel
theorem c_159_50 : zcode 159 50 = some (.iadd, 1, 0, 0, 0) := by decide +kernel
theorem c_159_51 : zcode 159 51 = some (.iaload, 1, 0, 0, 0) := by decide +kernel
theorem c_159_52 : zcode 159 52 = some (.iastore, 1, 0, 0, 0) := by decide +kernel
theorem c_159_53 : zcode 159 53 = some (.iinc 1 1, 3, 0, 0, 0) := by decide +kernel
theorem c_159_56 : zcode 159 56 = some (.goto (-29), 3, 27, 0, 0) := by decide +kernel
theorem c_159_59 : zcode 159 59 = some (.aload_n 0, 1, 0, 0, 0) := by decide +kernel
theorem c_159_60 : zcode 159 60 = some (.getfield 130, 3, 8, 19, 4024) := by decide +kernel
theorem c_159_63 : zcode 159 63 = some (.ireturn, 1, 0, 0, 0) := by decide +kernel
theorem c_160_0 : zcode 160 0 = some (.aload_n 0, 1, 0, 0, 0) := by decide +kernel
theorem c_160_1 : zcode 160 1 = some (.getfield 31, 3, 8, 16, 4021) := by decide +kernel
theorem c_160_4 : zcode 160 4 = some (.aload_n 0, 1, 0, 0, 0) := by decide +kernel
theorem c_160_5 : zcode 160 5 = some (.getfield 34, 3, 8, 17, 4022) := by decide +kernel
theorem c_160_8 : zcode 160 8 = some (.bipush 10, 2, 0, 0, 0) := by decide +kernel
theorem c_160_10 : zcode 160 10 = some (.invokestatic 126, 3, 133, 0, 4174) := by decide +kernel
theorem c_160_13 : zcode 160 13 = some (.return_, 1, 0, 0, 0) := by decide +kernel
theorem c_161_0 : zcode 161 0 = some (.aload_n 0, 1, 0, 0, 0) := by decide +kernel
theorem c_161_1 : zcode 161 1 = some (.aload_n 0, 1, 0, 0, 0) := by decide +kernel
theorem c_161_2 : zcode 161 2 = some (.getfield 34, 3, 8, 17, 4022) := by decide +kernel
theorem c_161_5 : zcode 161 5 = some (.iconst 0, 1, 0, 0, 0) := by decide +kernel
theorem c_161_6 : zcode 161 6 = some (.invokevirtual 148, 3, 140, 0, 4188) := by decide +kernel
theorem c_161_9 : zcode 161 9 = some (.ifCond .ne 4, 3, 13, 0, 0) := by decide +kernel
theorem c_161_12 : zcode 161 12 = some (.return_, 1, 0, 0, 0) := by decide +kernel
theorem c_161_13 : zcode 161 13 = some (.aload_n 0, 1, 0, 0, 0) := by decide +kernel
theorem c_161_14 : zcode 161 14 = some (.aload_n 0, 1, 0, 0, 0) := by decide +kernel
theorem c_161_15 : zcode 161 15 = some (.getfield 34, 3, 8, 17, 4022) := by decide +kernel
theorem c_161_18 : zcode 161 18 = some (.invokevirtual 145, 3, 139, 0, 4184) := by decide +kernel
theorem c_161_21 : zcode 161 21 = some (.istore_n 3, 1, 0, 0, 0) := by decide +kernel
theorem c_161_22 : zcode 161 22 = some (.iload_n 3, 1, 0, 0, 0) := by decide +kernel
theorem c_161_23 : zcode 161 23 = some (.aload_n 0, 1, 0, 0, 0) := by decide +kernel
theorem c_161_24 : zcode 161 24 = some (.getfield 206, 3, 8, 30, 4035) := by decide +kernel
theorem c_161_27 : zcode 161 27 = some (.if_icmp .gt 35, 3, 62, 0, 0) := by decide +kernel
theorem c_161_30 : zcode 161 30 = some (.iload_n 3, 1, 0, 0, 0) := by decide +kernel
theorem c_161_31 : zcode 161 31 = some (.aload_n 0, 1, 0, 0, 0) := by decide +kernel
theorem c_161_32 : zcode 161 32 = some (.getfield 206, 3, 8, 30, 4035) := by decide +kernel
theorem c_161_35 : zcode 161 35 = some (.if_icmp .ne 31, 3, 66, 0, 0) := by decide +kernel
theorem c_161_38 : zcode 161 38 = some (.iload_n 1, 1, 0, 0, 0) := by decide +kernel
theorem c_161_39 : zcode 161 39 = some (.aload_n 0, 1, 0, 0, 0) := by decide +kernel
theorem c_161_40 : zcode 161 40 = some (.getfield 209, 3, 8, 31, 4036) := by decide +kernel
theorem c_161_43 : zcode 161 43 = some (.if_icmp .lt 19, 3, 62, 0, 0) := by decide +kernel
theorem c_161_46 : zcode 161 46 = some (.iload_n 1, 1, 0, 0, 0) := by decide +kernel
theorem c_161_47 : zcode 161 47 = some (.aload_n 0, 1, 0, 0, 0) := by decide +kernel
theorem c_161_48 : zcode 161 48 = some (.getfield 209, 3, 8, 31, 4036) := by decide +kernel
theorem c_161_51 : zcode 161 51 = some (.if_icmp .ne 15, 3, 66, 0, 0) := by decide +kernel
theorem c_161_54 : zcode 161 54 = some (.iload_n 2, 1, 0, 0, 0) := by decide +kernel
theorem c_161_55 : zcode 161 55 = some (.aload_n 0, 1, 0, 0, 0) := by decide +kernel
theorem c_161_56 : zcode 161 56 = some (.getfield 212, 3, 8, 32, 4037) := by decide +kernel
theorem c_161_59 : zcode 161 59 = some (.if_icmp .ge 7, 3, 66, 0, 0) := by decide +kernel
theorem c_161_62 : zcode 161 62 = some (.iconst 1, 1, 0, 0, 0) := by decide +kernel
theorem c_161_63 : zcode 161 63 = some (.goto 4, 3, 67, 0, 0) := by decide +kernel
theorem c_161_66 : zcode 161 66 = some (.iconst 0, 1, 0, 0, 0) := by decide +kernel
theorem c_161_67 : zcode 161 67 = some (.istore 4, 2, 0, 0, 0) := by decide +kernel
theorem c_161_69 : zcode 161 69 = some (.iload 4, 2, 0, 0, 0) := by decide +kernel
theorem c_161_71 : zcode 161 71 = some (.ifCond .eq 18, 3, 89, 0, 0) := by decide +kernel
theorem c_161_74 : zcode 161 74 = some (.aload_n 0, 1, 0, 0, 0) := by decide +kernel
theorem c_161_75 : zcode 161 75 = some (.iload_n 3, 1, 0, 0, 0) := by decide +kernel
theorem c_161_76 : zcode 161 76 = some (.putfield 206, 3, 8, 30, 4035) := by decide +kernel
theorem c_161_79 : zcode 161 79 = some (.aload_n 0, 1, 0, 0, 0) := by decide +kernel
theorem c_161_80 : zcode 161 80 = some (.iload_n 1, 1, 0, 0, 0) := by decide +kernel
theorem c_161_81 : zcode 161 81 = some (.putfield 209, 3, 8, 31, 4036) := by decide +kernel
theorem c_161_84 : zcode 161 84 = some (.aload_n 0, 1, 0, 0, 0) := by decide +kernel
theorem c_161_85 : zcode 161 85 = some (.iload_n 2, 1, 0, 0, 0) := by decide +kernel
theorem c_161_86 : zcode 161 86 = some (.putfield 212, 3, 8, 32, 4037) := by decide +kernel
theorem c_161_89 : zcode 161 89 = some (.aload_n 0, 1, 0, 0, 0) := by decide +kernel
theorem c_161_90 : zcode 161 90 = some (.getfield 215, 3, 8, 33, 4038) := by decide +kernel
theorem c_161_93 : zcode 161 93 = some (.bipush (-9), 2, 0, 0, 0) := by decide +kernel
theorem c_161_95 : zcode 161 95 = some (.if_icmp .eq 27, 3, 122, 0, 0) := by decide +kernel
theorem c_161_98 : zcode 161 98 = some (.iload_n 1, 1, 0, 0, 0) := by decide +kernel
theorem c_161_99 : zcode 161 99 = some (.aload_n 0, 1, 0, 0, 0) := by decide +kernel
theorem c_161_100 : zcode 161 100 = some (.getfield 215, 3, 8, 33, 4038) := by decide +kernel
theorem c_161_103 : zcode 161 103 = some (.if_icmp .lt 19, 3, 122, 0, 0) := by decide +kernel
theorem c_161_106 : zcode 161 106 = some (.iload_n 1, 1, 0, 0, 0) := by decide +kernel
theorem c_161_107 : zcode 161 107 = some (.aload_n 0, 1, 0, 0, 0) := by decide +kernel
theorem c_161_108 : zcode 161 108 = some (.getfield 215, 3, 8, 33, 4038) := by decide +kernel
theorem c_161_111 : zcode 161 111 = some (.if_icmp .ne 21, 3, 132, 0, 0) := by decide +kernel
theorem c_161_114 : zcode 161 114 = some (.iload_n 2, 1, 0, 0, 0) := by decide +kernel
theorem c_161_115 : zcode 161 115 = some (.aload_n 0, 1, 0, 0, 0) := by decide +kernel
theorem c_161_116 : zcode 161 116 = some (.getfield 218, 3, 8, 34, 4039) := by decide +kernel
theorem c_161_119 : zcode 161 119 = some (.if_icmp .ge 13, 3, 132, 0, 0) := by decide +kernel
theorem c_161_122 : zcode 161 122 = some (.aload_n 0, 1, 0, 0, 0) := by decide +kernel
theorem c_161_123 : zcode 161 123 = some (.iload_n 1, 1, 0, 0, 0) := by decide +kernel
theorem c_161_124 : zcode 161 124 = some (.putfield 215, 3, 8, 33, 4038) := by decide +kernel
theorem c_161_127 : zcode 161 127 = some (.aload_n 0, 1, 0, 0, 0) := by decide +kernel
theorem c_161_128 : zcode 161 128 = some (.iload_n 2, 1, 0, 0, 0) := by decide +kernel
theorem c_161_129 : zcode 161 129 = some (.putfield 218, 3, 8, 34, 4039) := by decide +kernel
theorem c_161_132 : zcode 161 132 = some (.return_, 1, 0, 0, 0) := by decide +kernel
theorem c_162_0 : zcode 162 0 = some (.aload_n 0, 1, 0, 0, 0) := by decide +kernel
theorem c_162_1 : zcode 162 1 = some (.bipush (-9), 2, 0, 0, 0) := by decide +kernel
theorem c_162_3 : zcode 162 3 = some (.putfield 206, 3, 8, 30, 4035) := by decide +kernel
theorem c_162_6 : zcode 162 6 = some (.aload_n 0, 1, 0, 0, 0) := by decide +kernel
theorem c_162_7 : zcode 162 7 = some (.iconst 0, 1, 0, 0, 0) := by decide +kernel
theorem c_162_8 : zcode 162 8 = some (.putfield 209, 3, 8, 31, 4036) := by decide +kernel
theorem c_162_11 : zcode 162 11 = some (.aload_n 0, 1, 0, 0, 0) := by decide +kernel
theorem c_162_12 : zcode 162 12 = some (.bipush (-9), 2, 0, 0, 0) := by decide +kernel
theorem c_162_14 : zcode 162 14 = some (.putfield 212, 3, 8, 32, 4037) := by decide +kernel
theorem c_162_17 : zcode 162 17 = some (.aload_n 0, 1, 0, 0, 0) := by decide +kernel
theorem c_162_18 : zcode 162 18 = some (.bipush (-9), 2, 0, 0, 0) := by decide +kernel
theorem c_162_20 : zcode 162 20 = some (.putfield 215, 3, 8, 33, 4038) := by decide +kernel
theorem c_162_23 : zcode 162 23 = some (.aload_n 0, 1, 0, 0, 0) := by decide +kernel
theorem c_162_24 : zcode 162 24 = some (.bipush (-9), 2, 0, 0, 0) := by decide +kernel
theorem c_162_26 : zcode 162 26 = some (.putfield 218, 3, 8, 34, 4039) := by decide +kernel
theorem c_162_29 : zcode 162 29 = some (.iconst 0, 1, 0, 0, 0) := by decide +kernel
theorem c_162_30 : zcode 162 30 = some (.istore_n 2, 1, 0, 0, 0) := by decide +kernel
theorem c_162_31 : zcode 162 31 = some (.iconst 0, 1, 0, 0, 0) := by decide +kernel
theorem c_162_32 : zcode 162 32 = some (.istore_n 3, 1, 0, 0, 0) := by decide +kernel
theorem c_162_33 : zcode 162 33 = some (.aload_n 0, 1, 0, 0, 0) := by decide +kernel
theorem c_162_34 : zcode 162 34 = some (.getfield 34, 3, 8, 17, 4022) := by decide +kernel
theorem c_162_37 : zcode 162 37 = some (.iconst 2, 1, 0, 0, 0) := by decide +kernel
theorem c_162_38 : zcode 162 38 = some (.iaload, 1, 0, 0, 0) := by decide +kernel
theorem c_162_39 : zcode 162 39 = some (.istore 4, 2, 0, 0, 0) := by decide +kernel
theorem c_162_41 : zcode 162 41 = some (.aload_n 0, 1, 0, 0, 0) := by decide +kernel
theorem c_162_42 : zcode 162 42 = some (.getfield 59, 3, 8, 28, 4033) := by decide +kernel
theorem c_162_45 : zcode 162 45 = some (.iconst 0, 1, 0, 0, 0) := by decide +kernel
theorem c_162_46 : zcode 162 46 = some (.iconst 0, 1, 0, 0, 0) := by decide +kernel
theorem c_162_47 : zcode 162 47 = some (.iastore, 1, 0, 0, 0) := by decide +kernel
theorem c_162_48 : zcode 162 48 = some (.aload_n 0, 1, 0, 0, 0) := by decide +kernel
theorem c_162_49 : zcode 162 49 = some (.iconst 0, 1, 0, 0, 0) := by decide +kernel
theorem c_162_50 : zcode 162 50 = some (.iconst 0, 1, 0, 0, 0) := by decide +kernel
theorem c_162_51 : zcode 162 51 = some (.invokevirtual 221, 3, 161, 0, 5068) := by decide +kernel
theorem c_162_54 : zcode 162 54 = some (.iload_n 2, 1, 0, 0, 0) := by decide +kernel
theorem c_162_55 : zcode 162 55 = some (.ifCond .lt 155, 3, 210, 0, 0) := by decide +kernel
theorem c_162_58 : zcode 162 58 = some (.aload_n 0, 1, 0, 0, 0) := by decide +kernel
theorem c_162_59 : zcode 162 59 = some (.getfield 59, 3, 8, 28, 4033) := by decide +kernel
theorem c_162_62 : zcode 162 62 = some (.iload_n 2, 1, 0, 0, 0) := by decide +kernel
theorem c_162_63 : zcode 162 63 = some (.iaload, 1, 0, 0, 0) := by decide +kernel
theorem c_162_64 : zcode 162 64 = some (.istore 5, 2, 0, 0, 0) := by decide +kernel
theorem c_162_66 : zcode 162 66 = some (.iload 5, 2, 0, 0, 0) := by decide +kernel
theorem c_162_68 : zcode 162 68 = some (.aload_n 0, 1, 0, 0, 0) := by decide +kernel
theorem c_162_69 : zcode 162 69 = some (.getfield 85, 3, 8, 8, 4013) := by decide +kernel
theorem c_162_72 : zcode 162 72 = some (.if_icmp .ne 43, 3, 115, 0, 0) := by decide +kernel
theorem c_162_75 : zcode 162 75 = some (.iinc 2 (-1), 3, 0, 0, 0) := by decide +kernel
theorem c_162_78 : zcode 162 78 = some (.iload_n 2, 1, 0, 0, 0) := by decide +kernel
theorem c_162_79 : zcode 162 79 = some (.ifCond .lt 128, 3, 207, 0, 0) := by decide +kernel
theorem c_162_82 : zcode 162 82 = some (.aload_n 0, 1, 0, 0, 0) := by decide +kernel
theorem c_162_83 : zcode 162 83 = some (.getfield 34, 3, 8, 17, 4022) := by decide +kernel
theorem c_162_86 : zcode 162 86 = some (.iconst 3, 1, 0, 0, 0) := by decide +kernel
theorem c_162_87 : zcode 162 87 = some (.dup2, 1, 0, 0, 0) := by decide +kernel
theorem c_162_88 : zcode 162 88 = some (.iaload, 1, 0, 0, 0) := by decide +kernel
theorem c_162_89 : zcode 162 89 = some (.iconst 1, 1, 0, 0, 0) := by decide +kernel
theorem c_162_90 : zcode 162 90 = some (.isub, 1, 0, 0, 0) := by decide +kernel
theorem c_162_91 : zcode 162 91 = some (.iastore, 1, 0, 0, 0) := by decide +kernel
theorem c_162_92 : zcode 162 92 = some (.aload_n 0, 1, 0, 0, 0) := by decide +kernel
theorem c_162_93 : zcode 162 93 = some (.getfield 34, 3, 8, 17, 4022) := by decide +kernel
theorem c_162_96 : zcode 162 96 = some (.iconst 2, 1, 0, 0, 0) := by decide +kernel
theorem c_162_97 : zcode 162 97 = some (.dup2, 1, 0, 0, 0) := by decide +kernel
theorem c_162_98 : zcode 162 98 = some (.iaload, 1, 0, 0, 0) := by decide +kernel
theorem c_162_99 : zcode 162 99 = some (.aload_n 0, 1, 0, 0, 0) := by decide +kernel
theorem c_162_100 : zcode 162 100 = some (.getfield 62, 3, 8, 29, 4034) := by decide +kernel
theorem c_162_103 : zcode 162 103 = some (.iload_n 2, 1, 0, 0, 0) := by decide +kernel
theorem c_162_104 : zcode 162 104 = some (.iaload, 1, 0, 0, 0) := by decide +kernel
theorem c_162_105 : zcode 162 105 = some (.iadd, 1, 0, 0, 0) := by decide +kernel
theorem c_162_106 : zcode 162 106 = some (.iastore, 1, 0, 0, 0) := by decide +kernel
theorem c_162_107 : zcode 162 107 = some (.iload_n 3, 1, 0, 0, 0) := by decide +kernel
theorem c_162_108 : zcode 162 108 = some (.bipush 10, 2, 0, 0, 0) := by decide +kernel
theorem c_162_110 : zcode 162 110 = some (.idiv, 1, 0, 0, 0) := by decide +kernel
theorem c_162_111 : zcode 162 111 = some (.istore_n 3, 1, 0, 0, 0) := by decide +kernel
theorem c_162_112 : zcode 162 112 = some (.goto 95, 3, 207, 0, 0) := by decide +kernel
theorem c_162_115 : zcode 162 115 = some (.aload_n 0, 1, 0, 0, 0) := by decide +kernel
theorem c_162_116 : zcode 162 116 = some (.getfield 59, 3, 8, 28, 4033) := by decide +kernel
theorem c_162_119 : zcode 162 119 = some (.iload_n 2, 1, 0, 0, 0) := by decide +kernel
theorem c_162_120 : zcode 162 120 = some (.dup2, 1, 0, 0, 0) := by decide +kernel
theorem c_162_121 : zcode 162 121 = some (.iaload, 1, 0, 0, 0) := by decide +kernel
theorem c_162_122 : zcode 162 122 = some (.iconst 1, 1, 0, 0, 0) := by decide +kernel
theorem c_162_123 : zcode 162 123 = some (.iadd, 1, 0, 0, 0) := by decide +kernel
theorem c_162_124 : zcode 162 124 = some (.iastore, 1, 0, 0, 0) := by decide +kernel
theorem c_162_125 : zcode 162 125 = some (.iload_n 1, 1, 0, 0, 0) := by decide +kernel
theorem c_162_126 : zcode 162 126 = some (.iload 5, 2, 0, 0, 0) := by decide +kernel
theorem c_162_128 : zcode 162 128 = some (.invokestatic 137, 3, 118, 0, 4192) := by decide +kernel
theorem c_162_131 : zcode 162 131 = some (.ifCond .eq 76, 3, 207, 0, 0) := by decide +kernel
theorem c_162_134 : zcode 162 134 = some (.aload_n 0, 1, 0, 0, 0) := by decide +kernel
theorem c_162_135 : zcode 162 135 = some (.aload_n 0, 1, 0, 0, 0) := by decide +kernel
theorem c_162_136 : zcode 162 136 = some (.getfield 34, 3, 8, 17, 4022) := by decide +kernel
theorem c_162_139 : zcode 162 139 = some (.iload 5, 2, 0, 0, 0) := by decide +kernel
theorem c_162_141 : zcode 162 141 = some (.invokevirtual 187, 3, 151, 0, 5021) := by decide +kernel
theorem c_162_144 : zcode 162 144 = some (.ifCond .eq 63, 3, 207, 0, 0) := by decide +kernel
theorem c_162_147 : zcode 162 147 = some (.aload_n 0, 1, 0, 0, 0) := by decide +kernel
theorem c_162_148 : zcode 162 148 = some (.getfield 62, 3, 8, 29, 4034) := by decide +kernel
theorem c_162_151 : zcode 162 151 = some (.iload_n 2, 1, 0, 0, 0) := by decide +kernel
theorem c_162_152 : zcode 162 152 = some (.aload_n 0, 1, 0, 0, 0) := by decide +kernel
theorem c_162_153 : zcode 162 153 = some (.aload_n 0, 1, 0, 0, 0) := by decide +kernel
theorem c_162_154 : zcode 162 154 = some (.getfield 34, 3, 8, 17, 4022) := by decide +kernel
theorem c_162_157 : zcode 162 157 = some (.iload 5, 2, 0, 0, 0) := by decide +kernel
theorem c_162_159 : zcode 162 159 = some (.invokevirtual 174, 3, 144, 0, 4224) := by decide +kernel
theorem c_162_162 : zcode 162 162 = some (.iastore, 1, 0, 0, 0) := by decide +kernel
theorem c_162_163 : zcode 162 163 = some (.aload_n 0, 1, 0, 0, 0) := by decide +kernel
theorem c_162_164 : zcode 162 164 = some (.aload_n 0, 1, 0, 0, 0) := by decide +kernel
theorem c_162_165 : zcode 162 165 = some (.getfield 34, 3, 8, 17, 4022) := by decide +kernel
theorem c_162_168 : zcode 162 168 = some (.iload 5, 2, 0, 0, 0) := by decide +kernel
theorem c_162_170 : zcode 162 170 = some (.invokevirtual 190, 3, 152, 0, 5025) := by decide +kernel
theorem c_162_173 : zcode 162 173 = some (.bipush 10, 2, 0, 0, 0) := by decide +kernel
theorem c_162_175 : zcode 162 175 = some (.iload_n 3, 1, 0, 0, 0) := by decide +kernel
theorem c_162_176 : zcode 162 176 = some (.imul, 1, 0, 0, 0) := by decide +kernel
theorem c_162_177 : zcode 162 177 = some (.iload 5, 2, 0, 0, 0) := by decide +kernel
theorem c_162_179 : zcode 162 179 = some (.iadd, 1, 0, 0, 0) := by decide +kernel
theorem c_162_180 : zcode 162 180 = some (.iconst 1, 1, 0, 0, 0) := by decide +kernel
theorem c_162_181 : zcode 162 181 = some (.iadd, 1, 0, 0, 0) := by decide +kernel
theorem c_162_182 : zcode 162 182 = some (.istore_n 3, 1, 0, 0, 0) := by decide +kernel
theorem c_162_183 : zcode 162 183 = some (.iinc 2 1, 3, 0, 0, 0) := by decide +kernel
theorem c_162_186 : zcode 162 186 = some (.aload_n 0, 1, 0, 0, 0) := by decide +kernel
theorem c_162_187 : zcode 162 187 = some (.getfield 59, 3, 8, 28, 4033) := by decide +kernel
theorem c_162_190 : zcode 162 190 = some (.iload_n 2, 1, 0, 0, 0) := by decide +kernel
theorem c_162_191 : zcode 162 191 = some (.iconst 0, 1, 0, 0, 0) := by decide +kernel
theorem c_162_192 : zcode 162 192 = some (.iastore, 1, 0, 0, 0) := by decide +kernel
theorem c_162_193 : zcode 162 193 = some (.aload_n 0, 1, 0, 0, 0) := by decide +kernel
theorem c_162_194 : zcode 162 194 = some (.iload 4, 2, 0, 0, 0) := by decide +kernel
theorem c_162_196 : zcode 162 196 = some (.aload_n 0, 1, 0, 0, 0) := by decide +kernel
theorem c_162_197 : zcode 162 197 = some (.getfield 34, 3, 8, 17, 4022) := by decide +kernel
theorem c_162_200 : zcode 162 200 = some (.iconst 2, 1, 0, 0, 0) := by decide +kernel
theorem c_162_201 : zcode 162 201 = some (.iaload, 1, 0, 0, 0) := by decide +kernel
theorem c_162_202 : zcode 162 202 = some (.isub, 1, 0, 0, 0) := by decide +kernel
theorem c_162_203 : zcode 162 203 = some (.iload_n 3, 1, 0, 0, 0) := by decide +kernel
theorem c_162_204 : zcode 162 204 = some (.invokevirtual 221, 3, 161, 0, 5068) := by decide +kernel
theorem c_162_207 : zcode 162 207 = some (.goto (-153), 3, 54, 0, 0) := by decide +kernel
theorem c_162_210 : zcode 162 210 = some (.return_, 1, 0, 0, 0) := by decide +kernel
theorem c_163_0 : zcode 163 0 = some (.aload_n 0, 1, 0, 0, 0) := by decide +kernel
theorem c_163_1 : zcode 163 1 = some (.invokevirtual 225, 3, 160, 0, 5060) := by decide +kernel
theorem c_163_4 : zcode 163 4 = some (.aload_n 0, 1, 0, 0, 0) := by decide +kernel
theorem c_163_5 : zcode 163 5 = some (.bipush (-9), 2, 0, 0, 0) := by decide +kernel
theorem c_163_7 : zcode 163 7 = some (.putfield 206, 3, 8, 30, 4035) := by decide +kernel
theorem c_163_10 : zcode 163 10 = some (.aload_n 0, 1, 0, 0, 0) := by decide +kernel
theorem c_163_11 : zcode 163 11 = some (.bipush (-9), 2, 0, 0, 0) := by decide +kernel
theorem c_163_13 : zcode 163 13 = some (.putfield 212, 3, 8, 32, 4037) := by decide +kernel
theorem c_163_16 : zcode 163 16 = some (.aload_n 0, 1, 0, 0, 0) := by decide +kernel
theorem c_163_17 : zcode 163 17 = some (.bipush (-9), 2, 0, 0, 0) := by decide +kernel
theorem c_163_19 : zcode 163 19 = some (.putfield 215, 3, 8, 33, 4038) := by decide +kernel
theorem c_163_22 : zcode 163 22 = some (.aload_n 0, 1, 0, 0, 0) := by decide +kernel
theorem c_163_23 : zcode 163 23 = some (.bipush (-9), 2, 0, 0, 0) := by decide +kernel
theorem c_163_25 : zcode 163 25 = some (.putfield 218, 3, 8, 34, 4039) := by decide +kernel
theorem c_163_28 : zcode 163 28 = some (.aload_n 0, 1, 0, 0, 0) := by decide +kernel
theorem c_163_29 : zcode 163 29 = some (.getfield 31, 3, 8, 16, 4021) := by decide +kernel
theorem c_163_32 : zcode 163 32 = some (.iconst 0, 1, 0, 0, 0) := by decide +kernel
theorem c_163_33 : zcode 163 33 = some (.iaload, 1, 0, 0, 0) := by decide +kernel
theorem c_163_34 : zcode 163 34 = some (.bipush (-9), 2, 0, 0, 0) := by decide +kernel
theorem c_163_36 : zcode 163 36 = some (.if_icmp .eq 9, 3, 45, 0, 0) := by decide +kernel
theorem c_163_39 : zcode 163 39 = some (.aload_n 0, 1, 0, 0, 0) := by decide +kernel
theorem c_163_40 : zcode 163 40 = some (.bipush 63, 2, 0, 0, 0) := by decide +kernel
theorem c_163_42 : zcode 163 42 = some (.invokevirtual 228, 3, 162, 0, 5064) := by decide +kernel
theorem c_163_45 : zcode 163 45 = some (.return_, 1, 0, 0, 0) := by decide +kernel
theorem c_164_0 : zcode 164 0 = some (.aload_n 0, 1, 0, 0, 0) := by decide +kernel
theorem c_164_1 : zcode 164 1 = some (.iconst 0, 1, 0, 0, 0) := by decide +kernel
theorem c_164_2 : zcode 164 2 = some (.putfield 71, 3, 8, 0, 4005) := by decide +kernel
theorem c_164_5 : zcode 164 5 = some (.aload_n 0, 1, 0, 0, 0) := by decide +kernel
theorem c_164_6 : zcode 164 6 = some (.invokevirtual 232, 3, 163, 0, 5056) := by decide +kernel
theorem c_164_9 : zcode 164 9 = some (.iload_n 1, 1, 0, 0, 0) := by decide +kernel
theorem c_164_10 : zcode 164 10 = some (.ifCond .eq 10, 3, 20, 0, 0) := by decide +kernel
theorem c_164_13 : zcode 164 13 = some (.aload_n 0, 1, 0, 0, 0) := by decide +kernel
theorem c_164_14 : zcode 164 14 = some (.getfield 212, 3, 8, 32, 4037) := by decide +kernel
theorem c_164_17 : zcode 164 17 = some (.goto 7, 3, 24, 0, 0) := by decide +kernel
theorem c_164_20 : zcode 164 20 = some (.aload_n 0, 1, 0, 0, 0) := by decide +kernel
theorem c_164_21 : zcode 164 21 = some (.getfield 206, 3, 8, 30, 4035) := by decide +kernel
theorem c_164_24 : zcode 164 24 = some (.ireturn, 1, 0, 0, 0) := by decide +kernel
theorem c_165_0 : zcode 165 0 = some (.aload_n 0, 1, 0, 0, 0) := by decide +kernel
theorem c_165_1 : zcode 165 1 = some (.iconst 0, 1, 0, 0, 0) := by decide +kernel
theorem c_165_2 : zcode 165 2 = some (.putfield 71, 3, 8, 0, 4005) := by decide +kernel
theorem c_165_5 : zcode 165 5 = some (.aload_n 0, 1, 0, 0, 0) := by decide +kernel
theorem c_165_6 : zcode 165 6 = some (.invokevirtual 232, 3, 163, 0, 5056) := by decide +kernel
theorem c_165_9 : zcode 165 9 = some (.iload_n 1, 1, 0, 0, 0) := by decide +kernel
theorem c_165_10 : zcode 165 10 = some (.ifCond .eq 10, 3, 20, 0, 0) := by decide +kernel
theorem c_165_13 : zcode 165 13 = some (.aload_n 0, 1, 0, 0, 0) := by decide +kernel
theorem c_165_14 : zcode 165 14 = some (.getfield 218, 3, 8, 34, 4039) := by decide +kernel
theorem c_165_17 : zcode 165 17 = some (.goto 7, 3, 24, 0, 0) := by decide +kernel
theorem c_165_20 : zcode 165 20 = some (.aload_n 0, 1, 0, 0, 0) := by decide +kernel
theorem c_165_21 : zcode 165 21 = some (.getfield 215, 3, 8, 33, 4038) := by decide +kernel
theorem c_165_24 : zcode 165 24 = some (.ireturn, 1, 0, 0, 0) := by decide +kernel
theorem c_166_0 : zcode 166 0 = some (.aload_n 0, 1, 0, 0, 0) := by decide +kernel
theorem c_166_1 : zcode 166 1 = some (.aload_n 0, 1, 0, 0, 0) := by decide +kernel
theorem c_166_2 : zcode 166 2 = some (.getfield 34, 3, 8, 17, 4022) := by decide +kernel
theorem c_166_5 : zcode 166 5 = some (.iload_n 2, 1, 0, 0, 0) := by decide +kernel
theorem c_166_6 : zcode 166 6 = some (.iload_n 1, 1, 0, 0, 0) := by decide +kernel
theorem c_166_7 : zcode 166 7 = some (.invokevirtual 183, 3, 149, 0, 5013) := by decide +kernel
theorem c_166_10 : zcode 166 10 = some (.aload_n 0, 1, 0, 0, 0) := by decide +kernel
theorem c_166_11 : zcode 166 11 = some (.bipush 63, 2, 0, 0, 0) := by decide +kernel
theorem c_166_13 : zcode 166 13 = some (.invokevirtual 228, 3, 162, 0, 5064) := by decide +kernel
theorem c_166_16 : zcode 166 16 = some (.aload_n 0, 1, 0, 0, 0) := by decide +kernel
theorem c_166_17 : zcode 166 17 = some (.getfield 206, 3, 8, 30, 4035) := by decide +kernel
theorem c_166_20 : zcode 166 20 = some (.bipush (-9), 2, 0, 0, 0) := by decide +kernel
theorem c_166_22 : zcode 166 22 = some (.if_icmp .eq 7, 3, 29, 0, 0) := by decide +kernel
theorem c_166_25 : zcode 166 25 = some (.iconst 1, 1, 0, 0, 0) := by decide +kernel
theorem c_166_26 : zcode 166 26 = some (.goto 4, 3, 30, 0, 0) := by decide +kernel
theorem c_166_29 : zcode 166 29 = some (.iconst 0, 1, 0, 0, 0) := by decide +kernel
theorem c_166_30 : zcode 166 30 = some (.ireturn, 1, 0, 0, 0) := by decide +kernel
theorem c_167_0 : zcode 167 0 = some (.aload_n 0, 1, 0, 0, 0) := by decide +kernel
theorem c_167_1 : zcode 167 1 = some (.iconst 0, 1, 0, 0, 0) := by decide +kernel
theorem c_167_2 : zcode 167 2 = some (.putfield 71, 3, 8, 0, 4005) := by decide +kernel
theorem c_167_5 : zcode 167 5 = some (.aload_n 0, 1, 0, 0, 0) := by decide +kernel
theorem c_167_6 : zcode 167 6 = some (.iload_n 1, 1, 0, 0, 0) := by decide +kernel
theorem c_167_7 : zcode 167 7 = some (.invokevirtual 155, 3, 121, 0, 4199) := by decide +kernel
theorem c_167_10 : zcode 167 10 = some (.ifCond .eq 5, 3, 15, 0, 0) := by decide +kernel
theorem c_167_13 : zcode 167 13 = some (.iconst (-1), 1, 0, 0, 0) := by decide +kernel
theorem c_167_14 : zcode 167 14 = some (.ireturn, 1, 0, 0, 0) := by decide +kernel
theorem c_167_15 : zcode 167 15 = some (.iconst 0, 1, 0, 0, 0) := by decide +kernel
theorem c_167_16 : zcode 167 16 = some (.istore_n 2, 1, 0, 0, 0) := by decide +kernel
theorem c_167_17 : zcode 167 17 = some (.iconst 0, 1, 0, 0, 0) := by decide +kernel
theorem c_167_18 : zcode 167 18 = some (.istore_n 3, 1, 0, 0, 0) := by decide +kernel
theorem c_167_19 : zcode 167 19 = some (.iload_n 3, 1, 0, 0, 0) := by decide +kernel
theorem c_167_20 : zcode 167 20 = some (.aload_n 0, 1, 0, 0, 0) := by decide +kernel
theorem c_167_21 : zcode 167 21 = some (.getfield 82, 3, 8, 6, 4011) := by decide +kernel
theorem c_167_24 : zcode 167 24 = some (.if_icmp .ge 28, 3, 52, 0, 0) := by decide +kernel
theorem c_167_27 : zcode 167 27 = some (.iload_n 2, 1, 0, 0, 0) := by decide +kernel
theorem c_167_28 : zcode 167 28 = some (.aload_n 0, 1, 0, 0, 0) := by decide +kernel
theorem c_167_29 : zcode 167 29 = some (.iload_n 3, 1, 0, 0, 0) := by decide +kernel
theorem c_167_30 : zcode 167 30 = some (.iload_n 1, 1, 0, 0, 0) := by decide +kernel
theorem c_167_31 : zcode 167 31 = some (.invokevirtual 235, 3, 166, 0, 5080) := by decide +kernel
theorem c_167_34 : zcode 167 34 = some (.ifCond .eq 9, 3, 43, 0, 0) := by decide +kernel
theorem c_167_37 : zcode 167 37 = some (.iconst 1, 1, 0, 0, 0) := by decide +kernel
theorem c_167_38 : zcode 167 38 = some (.iload_n 3, 1, 0, 0, 0) := by decide +kernel
theorem c_167_39 : zcode 167 39 = some (.ishl, 1, 0, 0, 0) := by decide +kernel
theorem c_167_40 : zcode 167 40 = some (.goto 4, 3, 44, 0, 0) := by decide +kernel
theorem c_167_43 : zcode 167 43 = some (.iconst 0, 1, 0, 0, 0) := by decide +kernel
theorem c_167_44 : zcode 167 44 = some (.ior, 1, 0, 0, 0) := by decide +kernel
theorem c_167_45 : zcode 167 45 = some (.istore_n 2, 1, 0, 0, 0) := by decide +kernel
theorem c_167_46 : zcode 167 46 = some (.iinc 3 1, 3, 0, 0, 0) := by decide +kernel
theorem c_167_49 : zcode 167 49 = some (.goto (-30), 3, 19, 0, 0) := by decide +kernel
theorem c_167_52 : zcode 167 52 = some (.iload_n 2, 1, 0, 0, 0) := by decide +kernel
theorem c_167_53 : zcode 167 53 = some (.ireturn, 1, 0, 0, 0) := by decide +kernel
theorem c_168_0 : zcode 168 0 = some (.aload_n 0, 1, 0, 0, 0) := by decide +kernel
theorem c_168_1 : zcode 168 1 = some (.iconst 0, 1, 0, 0, 0) := by decide +kernel
theorem c_168_2 : zcode 168 2 = some (.putfield 71, 3, 8, 0, 4005) := by decide +kernel
theorem c_168_5 : zcode 168 5 = some (.aload_n 0, 1, 0, 0, 0) := by decide +kernel
theorem c_168_6 : zcode 168 6 = some (.iload_n 1, 1, 0, 0, 0) := by decide +kernel
theorem c_168_7 : zcode 168 7 = some (.invokevirtual 163, 3, 122, 0, 4211) := by decide +kernel
theorem c_168_10 : zcode 168 10 = some (.ifCond .eq 5, 3, 15, 0, 0) := by decide +kernel
theorem c_168_13 : zcode 168 13 = some (.iconst (-1), 1, 0, 0, 0) := by decide +kernel
theorem c_168_14 : zcode 168 14 = some (.ireturn, 1, 0, 0, 0) := by decide +kernel
theorem c_168_15 : zcode 168 15 = some (.bipush (-9), 2, 0, 0, 0) := by decide +kernel
theorem c_168_17 : zcode 168 17 = some (.istore_n 2, 1, 0, 0, 0) := by decide +kernel
theorem c_168_18 : zcode 168 18 = some (.iconst 0, 1, 0, 0, 0) := by decide +kernel
theorem c_168_19 : zcode 168 19 = some (.istore_n 3, 1, 0, 0, 0) := by decide +kernel
theorem c_168_20 : zcode 168 20 = some (.iload_n 3, 1, 0, 0, 0) := by decide +kernel
theorem c_168_21 : zcode 168 21 = some (.aload_n 0, 1, 0, 0, 0) := by decide +kernel
theorem c_168_22 : zcode 168 22 = some (.getfield 75, 3, 8, 4, 4009) := by decide +kernel
theorem c_168_25 : zcode 168 25 = some (.if_icmp .ge 55, 3, 80, 0, 0) := by decide +kernel
theorem c_168_28 : zcode 168 28 = some (.iload_n 2, 1, 0, 0, 0) := by decide +kernel
theorem c_168_29 : zcode 168 29 = some (.bipush (-9), 2, 0, 0, 0) := by decide +kernel
theorem c_168_31 : zcode 168 31 = some (.if_icmp .eq 16, 3, 47, 0, 0) := by decide +kernel
theorem c_168_34 : zcode 168 34 = some (.aload_n 0, 1, 0, 0, 0) := by decide +kernel
theorem c_168_35 : zcode 168 35 = some (.iload_n 3, 1, 0, 0, 0) := by decide +kernel
theorem c_168_36 : zcode 168 36 = some (.invokevirtual 159, 3, 135, 0, 4203) := by decide +kernel
theorem c_168_39 : zcode 168 39 = some (.aload_n 0, 1, 0, 0, 0) := by decide +kernel
theorem c_168_40 : zcode 168 40 = some (.iload_n 2, 1, 0, 0, 0) := by decide +kernel
theorem c_168_41 : zcode 168 41 = some (.invokevirtual 159, 3, 135, 0, 4203) := by decide +kernel
theorem c_168_44 : zcode 168 44 = some (.if_icmp .ge 16, 3, 60, 0, 0) := by decide +kernel
theorem c_168_47 : zcode 168 47 = some (.aload_n 0, 1, 0, 0, 0) := by decide +kernel
theorem c_168_48 : zcode 168 48 = some (.iload_n 1, 1, 0, 0, 0) := by decide +kernel
theorem c_168_49 : zcode 168 49 = some (.iload_n 3, 1, 0, 0, 0) := by decide +kernel
theorem c_168_50 : zcode 168 50 = some (.invokevirtual 235, 3, 166, 0, 5080) := by decide +kernel
theorem c_168_53 : zcode 168 53 = some (.ifCond .eq 7, 3, 60, 0, 0) := by decide +kernel
theorem c_168_56 : zcode 168 56 = some (.iconst 1, 1, 0, 0, 0) := by decide +kernel
theorem c_168_57 : zcode 168 57 = some (.goto 4, 3, 61, 0, 0) := by decide +kernel
theorem c_168_60 : zcode 168 60 = some (.iconst 0, 1, 0, 0, 0) := by decide +kernel
theorem c_168_61 : zcode 168 61 = some (.istore 4, 2, 0, 0, 0) := by decide +kernel
theorem c_168_63 : zcode 168 63 = some (.iload 4, 2, 0, 0, 0) := by decide +kernel
theorem c_168_65 : zcode 168 65 = some (.ifCond .eq 7, 3, 72, 0, 0) := by decide +kernel
theorem c_168_68 : zcode 168 68 = some (.iload_n 3, 1, 0, 0, 0) := by decide +kernel
theorem c_168_69 : zcode 168 69 = some (.goto 4, 3, 73, 0, 0) := by decide +kernel
theorem c_168_72 : zcode 168 72 = some (.iload_n 2, 1, 0, 0, 0) := by decide +kernel
theorem c_168_73 : zcode 168 73 = some (.istore_n 2, 1, 0, 0, 0) := by decide +kernel
theorem c_168_74 : zcode 168 74 = some (.iinc 3 1, 3, 0, 0, 0) := by decide +kernel
theorem c_168_77 : zcode 168 77 = some (.goto (-57), 3, 20, 0, 0) := by decide +kernel
theorem c_168_80 : zcode 168 80 = some (.iload_n 2, 1, 0, 0, 0) := by decide +kernel
theorem c_168_81 : zcode 168 81 = some (.ireturn, 1, 0, 0, 0) := by decide +kernel
theorem c_169_0 : zcode 169 0 = some (.iconst 0, 1, 0, 0, 0) := by decide +kernel
theorem c_169_1 : zcode 169 1 = some (.istore_n 1, 1, 0, 0, 0) := by decide +kernel
theorem c_169_2 : zcode 169 2 = some (.iload_n 1, 1, 0, 0, 0) := by decide +kernel
theorem c_169_3 : zcode 169 3 = some (.aload_n 0, 1, 0, 0, 0) := by decide +kernel
theorem c_169_4 : zcode 169 4 = some (.getfield 82, 3, 8, 6, 4011) := by decide +kernel
theorem c_169_7 : zcode 169 7 = some (.aload_n 0, 1, 0, 0, 0) := by decide +kernel
theorem c_169_8 : zcode 169 8 = some (.getfield 75, 3, 8, 4, 4009) := by decide +kernel
theorem c_169_11 : zcode 169 11 = some (.imul, 1, 0, 0, 0) := by decide +kernel
theorem c_169_12 : zcode 169 12 = some (.if_icmp .ge 39, 3, 51, 0, 0) := by decide +kernel
theorem c_169_15 : zcode 169 15 = some (.aload_n 0, 1, 0, 0, 0) := by decide +kernel
theorem c_169_16 : zcode 169 16 = some (.getfield 68, 3, 8, 40, 4045) := by decide +kernel
theorem c_169_19 : zcode 169 19 = some (.iload_n 1, 1, 0, 0, 0) := by decide +kernel
theorem c_169_20 : zcode 169 20 = some (.aload_n 0, 1, 0, 0, 0) := by decide +kernel
theorem c_169_21 : zcode 169 21 = some (.iload_n 1, 1, 0, 0, 0) := by decide +kernel
theorem c_169_22 : zcode 169 22 = some (.aload_n 0, 1, 0, 0, 0) := by decide +kernel
theorem c_169_23 : zcode 169 23 = some (.getfield 75, 3, 8, 4, 4009) := by decide +kernel
theorem c_169_26 : zcode 169 26 = some (.idiv, 1, 0, 0, 0) := by decide +kernel
theorem c_169_27 : zcode 169 27 = some (.iload_n 1, 1, 0, 0, 0) := by decide +kernel
theorem c_169_28 : zcode 169 28 = some (.aload_n 0, 1, 0, 0, 0) := by decide +kernel
theorem c_169_29 : zcode 169 29 = some (.getfield 75, 3, 8, 4, 4009) := by decide +kernel
theorem c_169_32 : zcode 169 32 = some (.irem, 1, 0, 0, 0) := by decide +kernel
theorem c_169_33 : zcode 169 33 = some (.invokevirtual 235, 3, 166, 0, 5080) := by decide +kernel
theorem c_169_36 : zcode 169 36 = some (.ifCond .eq 7, 3, 43, 0, 0) := by decide +kernel
theorem c_169_39 : zcode 169 39 = some (.iconst 1, 1, 0, 0, 0) := by decide +kernel
theorem c_169_40 : zcode 169 40 = some (.goto 4, 3, 44, 0, 0) := by decide +kernel
theorem c_169_43 : zcode 169 43 = some (.iconst 0, 1, 0, 0, 0) := by decide +kernel
theorem c_169_44 : zcode 169 44 = some (.iastore, 1, 0, 0, 0) := by decide +kernel
theorem c_169_45 : zcode 169 45 = some (.iinc 1 1, 3, 0, 0, 0) := by decide +kernel
theorem c_169_48 : zcode 169 48 = some (.goto (-46), 3, 2, 0, 0) := by decide +kernel
theorem c_169_51 : zcode 169 51 = some (.aload_n 0, 1, 0, 0, 0) := by decide +kernel
theorem c_169_52 : zcode 169 52 = some (.bipush (-9), 2, 0, 0, 0) := by decide +kernel
theorem c_169_54 : zcode 169 54 = some (.putfield 238, 3, 8, 35, 4040) := by decide +kernel
theorem c_169_57 : zcode 169 57 = some (.aload_n 0, 1, 0, 0, 0) := by decide +kernel
theorem c_169_58 : zcode 169 58 = some (.bipush (-9), 2, 0, 0, 0) := by decide +kernel
theorem c_169_60 : zcode 169 60 = some (.putfield 241, 3, 8, 36, 4041) := by decide +kernel
theorem c_169_63 : zcode 169 63 = some (.aload_n 0, 1, 0, 0, 0) := by decide +kernel
theorem c_169_64 : zcode 169 64 = some (.getfield 75, 3, 8, 4, 4009) := by decide +kernel
theorem c_169_67 : zcode 169 67 = some (.iconst 1, 1, 0, 0, 0) := by decide +kernel
theorem c_169_68 : zcode 169 68 = some (.iadd, 1, 0, 0, 0) := by decide +kernel
theorem c_169_69 : zcode 169 69 = some (.istore_n 1, 1, 0, 0, 0) := by decide +kernel
theorem c_169_70 : zcode 169 70 = some (.iconst 0, 1, 0, 0, 0) := by decide +kernel
theorem c_169_71 : zcode 169 71 = some (.istore_n 2, 1, 0, 0, 0) := by decide +kernel
theorem c_169_72 : zcode 169 72 = some (.iload_n 2, 1, 0, 0, 0) := by decide +kernel
theorem c_169_73 : zcode 169 73 = some (.iload_n 1, 1, 0, 0, 0) := by decide +kernel
theorem c_169_74 : zcode 169 74 = some (.aload_n 0, 1, 0, 0, 0) := by decide +kernel
theorem c_169_75 : zcode 169 75 = some (.getfield 82, 3, 8, 6, 4011) := by decide +kernel
theorem c_169_78 : zcode 169 78 = some (.invokestatic 244, 3, 120, 0, 5096) := by decide +kernel
theorem c_169_81 : zcode 169 81 = some (.if_icmp .ge 157, 3, 238, 0, 0) := by decide +kernel
theorem c_169_84 : zcode 169 84 = some (.iconst 0, 1, 0, 0, 0) := by decide +kernel
theorem c_169_85 : zcode 169 85 = some (.istore_n 3, 1, 0, 0, 0) := by decide +kernel
theorem c_169_86 : zcode 169 86 = some (.iconst 0, 1, 0, 0, 0) := by decide +kernel
theorem c_169_87 : zcode 169 87 = some (.istore 4, 2, 0, 0, 0) := by decide +kernel
theorem c_169_89 : zcode 169 89 = some (.iconst 1, 1, 0, 0, 0) := by decide +kernel
theorem c_169_90 : zcode 169 90 = some (.istore 5, 2, 0, 0, 0) := by decide +kernel
theorem c_169_92 : zcode 169 92 = some (.iconst 1, 1, 0, 0, 0) := by decide +kernel
theorem c_169_93 : zcode 169 93 = some (.istore 6, 2, 0, 0, 0) := by decide +kernel
theorem c_169_95 : zcode 169 95 = some (.iconst 0, 1, 0, 0, 0) := by decide +kernel
theorem c_169_96 : zcode 169 96 = some (.istore 7, 2, 0, 0, 0) := by decide +kernel
theorem c_169_98 : zcode 169 98 = some (.iload 7, 2, 0, 0, 0) := by decide +kernel
theorem c_169_100 : zcode 169 100 = some (.aload_n 0, 1, 0, 0, 0) := by decide +kernel
theorem c_169_101 : zcode 169 101 = some (.getfield 82, 3, 8, 6, 4011) := by decide +kernel
theorem c_169_104 : zcode 169 104 = some (.if_icmp .ge 102, 3, 206, 0, 0) := by decide +kernel
theorem c_169_107 : zcode 169 107 = some (.iload_n 2, 1, 0, 0, 0) := by decide +kernel
theorem c_169_108 : zcode 169 108 = some (.iload_n 1, 1, 0, 0, 0) := by decide +kernel
theorem c_169_109 : zcode 169 109 = some (.aload_n 0, 1, 0, 0, 0) := by decide +kernel
theorem c_169_110 : zcode 169 110 = some (.getfield 82, 3, 8, 6, 4011) := by decide +kernel
theorem c_169_113 : zcode 169 113 = some (.iconst 1, 1, 0, 0, 0) := by decide +kernel
theorem c_169_114 : zcode 169 114 = some (.isub, 1, 0, 0, 0) := by decide +kernel
theorem c_169_115 : zcode 169 115 = some (.iload 7, 2, 0, 0, 0) := by decide +kernel
theorem c_169_117 : zcode 169 117 = some (.isub, 1, 0, 0, 0) := by decide +kernel
theorem c_169_118 : zcode 169 118 = some (.invokestatic 244, 3, 120, 0, 5096) := by decide +kernel
theorem c_169_121 : zcode 169 121 = some (.idiv, 1, 0, 0, 0) := by decide +kernel
theorem c_169_122 : zcode 169 122 = some (.iload_n 1, 1, 0, 0, 0) := by decide +kernel
theorem c_169_123 : zcode 169 123 = some (.irem, 1, 0, 0, 0) := by decide +kernel
theorem c_169_124 : zcode 169 124 = some (.istore 8, 2, 0, 0, 0) := by decide +kernel
theorem c_169_126 : zcode 169 126 = some (.iload 6, 2, 0, 0, 0) := by decide +kernel
theorem c_169_128 : zcode 169 128 = some (.ifCond .eq 21, 3, 149, 0, 0) := by decide +kernel
theorem c_169_131 : zcode 169 131 = some (.iload 8, 2, 0, 0, 0) := by decide +kernel
theorem c_169_133 : zcode 169 133 = some (.ifCond .eq 12, 3, 145, 0, 0) := by decide +kernel
theorem c_169_136 : zcode 169 136 = some (.iload_n 3, 1, 0, 0, 0) := by decide +kernel
theorem c_169_137 : zcode 169 137 = some (.iload 8, 2, 0, 0, 0) := by decide +kernel
theorem c_169_139 : zcode 169 139 = some (.invokestatic 137, 3, 118, 0, 4192) := by decide +kernel
theorem c_169_142 : zcode 169 142 = some (.ifCond .ne 7, 3, 149, 0, 0) := by decide +kernel
theorem c_169_145 : zcode 169 145 = some (.iconst 1, 1, 0, 0, 0) := by decide +kernel
theorem c_169_146 : zcode 169 146 = some (.goto 4, 3, 150, 0, 0) := by decide +kernel
theorem c_169_149 : zcode 169 149 = some (.iconst 0, 1, 0, 0, 0) := by decide +kernel
theorem c_169_150 : zcode 169 150 = some (.istore 6, 2, 0, 0, 0) := by decide +kernel
theorem c_169_152 : zcode 169 152 = some (.iload_n 3, 1, 0, 0, 0) := by decide +kernel
theorem c_169_153 : zcode 169 153 = some (.iconst 1, 1, 0, 0, 0) := by decide +kernel
theorem c_169_154 : zcode 169 154 = some (.iload 8, 2, 0, 0, 0) := by decide +kernel
theorem c_169_156 : zcode 169 156 = some (.ishl, 1, 0, 0, 0) := by decide +kernel
theorem c_169_157 : zcode 169 157 = some (.ior, 1, 0, 0, 0) := by decide +kernel
theorem c_169_158 : zcode 169 158 = some (.istore_n 3, 1, 0, 0, 0) := by decide +kernel
theorem c_169_159 : zcode 169 159 = some (.iload 4, 2, 0, 0, 0) := by decide +kernel
theorem c_169_161 : zcode 169 161 = some (.iload 8, 2, 0, 0, 0) := by decide +kernel
theorem c_169_163 : zcode 169 163 = some (.ifCond .ne 7, 3, 170, 0, 0) := by decide +kernel
theorem c_169_166 : zcode 169 166 = some (.iconst 0, 1, 0, 0, 0) := by decide +kernel
theorem c_169_167 : zcode 169 167 = some (.goto 20, 3, 187, 0, 0) := by decide +kernel
theorem c_169_170 : zcode 169 170 = some (.aload_n 0, 1, 0, 0, 0) := by decide +kernel
theorem c_169_171 : zcode 169 171 = some (.getfield 68, 3, 8, 40, 4045) := by decide +kernel
theorem c_169_174 : zcode 169 174 = some (.iload 7, 2, 0, 0, 0) := by decide +kernel
theorem c_169_176 : zcode 169 176 = some (.aload_n 0, 1, 0, 0, 0) := by decide +kernel
theorem c_169_177 : zcode 169 177 = some (.getfield 75, 3, 8, 4, 4009) := by decide +kernel
theorem c_169_180 : zcode 169 180 = some (.imul, 1, 0, 0, 0) := by decide +kernel
theorem c_169_181 : zcode 169 181 = some (.iload 8, 2, 0, 0, 0) := by decide +kernel
theorem c_169_183 : zcode 169 183 = some (.iadd, 1, 0, 0, 0) := by decide +kernel
theorem c_169_184 : zcode 169 184 = some (.iconst 1, 1, 0, 0, 0) := by decide +kernel
theorem c_169_185 : zcode 169 185 = some (.isub, 1, 0, 0, 0) := by decide +kernel
theorem c_169_186 : zcode 169 186 = some (.iaload, 1, 0, 0, 0) := by decide +kernel
theorem c_169_187 : zcode 169 187 = some (.iadd, 1, 0, 0, 0) := by decide +kernel
theorem c_169_188 : zcode 169 188 = some (.istore 4, 2, 0, 0, 0) := by decide +kernel
theorem c_169_190 : zcode 169 190 = some (.bipush 10, 2, 0, 0, 0) := by decide +kernel
theorem c_169_192 : zcode 169 192 = some (.iload 5, 2, 0, 0, 0) := by decide +kernel
theorem c_169_194 : zcode 169 194 = some (.imul, 1, 0, 0, 0) := by decide +kernel
theorem c_169_195 : zcode 169 195 = some (.iload 8, 2, 0, 0, 0) := by decide +kernel
theorem c_169_197 : zcode 169 197 = some (.iadd, 1, 0, 0, 0) := by decide +kernel
theorem c_169_198 : zcode 169 198 = some (.istore 5, 2, 0, 0, 0) := by decide +kernel
theorem c_169_200 : zcode 169 200 = some (.iinc 7 1, 3, 0, 0, 0) := by decide +kernel
theorem c_169_203 : zcode 169 203 = some (.goto (-105), 3, 98, 0, 0) := by decide +kernel
theorem c_169_206 : zcode 169 206 = some (.iload 6, 2, 0, 0, 0) := by decide +kernel
theorem c_169_208 : zcode 169 208 = some (.ifCond .eq 24, 3, 232, 0, 0) := by decide +kernel
theorem c_169_211 : zcode 169 211 = some (.iload 4, 2, 0, 0, 0) := by decide +kernel
theorem c_169_213 : zcode 169 213 = some (.aload_n 0, 1, 0, 0, 0) := by decide +kernel
theorem c_169_214 : zcode 169 214 = some (.getfield 238, 3, 8, 35, 4040) := by decide +kernel
theorem c_169_217 : zcode 169 217 = some (.if_icmp .le 15, 3, 232, 0, 0) := by decide +kernel
theorem c_169_220 : zcode 169 220 = some (.aload_n 0, 1, 0, 0, 0) := by decide +kernel
theorem c_169_221 : zcode 169 221 = some (.iload 4, 2, 0, 0, 0) := by decide +kernel
theorem c_169_223 : zcode 169 223 = some (.putfield 238, 3, 8, 35, 4040) := by decide +kernel
theorem c_169_226 : zcode 169 226 = some (.aload_n 0, 1, 0, 0, 0) := by decide +kernel
theorem c_169_227 : zcode 169 227 = some (.iload 5, 2, 0, 0, 0) := by decide +kernel
theorem c_169_229 : zcode 169 229 = some (.putfield 241, 3, 8, 36, 4041) := by decide +kernel
theorem c_169_232 : zcode 169 232 = some (.iinc 2 1, 3, 0, 0, 0) := by decide +kernel
theorem c_169_235 : zcode 169 235 = some (.goto (-163), 3, 72, 0, 0) := by decide +kernel
theorem c_169_238 : zcode 169 238 = some (.return_, 1, 0, 0, 0) := by decide +kernel
theorem c_170_0 : zcode 170 0 = some (.aload_n 0, 1, 0, 0, 0) := by decide +kernel
theorem c_170_1 : zcode 170 1 = some (.iconst 0, 1, 0, 0, 0) := by decide +kernel
theorem c_170_2 : zcode 170 2 = some (.putfield 71, 3, 8, 0, 4005) := by decide +kernel
theorem c_170_5 : zcode 170 5 = some (.aload_n 0, 1, 0, 0, 0) := by decide +kernel
theorem c_170_6 : zcode 170 6 = some (.invokevirtual 247, 3, 169, 0, 5092) := by decide +kernel
theorem c_170_9 : zcode 170 9 = some (.iload_n 1, 1, 0, 0, 0) := by decide +kernel
theorem c_170_10 : zcode 170 10 = some (.ifCond .eq 10, 3, 20, 0, 0) := by decide +kernel
theorem c_170_13 : zcode 170 13 = some (.aload_n 0, 1, 0, 0, 0) := by decide +kernel
theorem c_170_14 : zcode 170 14 = some (.getfield 241, 3, 8, 36, 4041) := by decide +kernel
theorem c_170_17 : zcode 170 17 = some (.goto 7, 3, 24, 0, 0) := by decide +kernel
theorem c_170_20 : zcode 170 20 = some (.aload_n 0, 1, 0, 0, 0) := by decide +kernel
theorem c_170_21 : zcode 170 21 = some (.getfield 238, 3, 8, 35, 4040) := by decide +kernel
theorem c_170_24 : zcode 170 24 = some (.ireturn, 1, 0, 0, 0) := by decide +kernel
theorem c_171_0 : zcode 171 0 = some (.iload_n 1, 1, 0, 0, 0) := by decide +kernel
theorem c_171_1 : zcode 171 1 = some (.ifCond .ne 44, 3, 45, 0, 0) := by decide +kernel
theorem c_171_4 : zcode 171 4 = some (.aload_n 0, 1, 0, 0, 0) := by decide +kernel
theorem c_171_5 : zcode 171 5 = some (.iload_n 2, 1, 0, 0, 0) := by decide +kernel
theorem c_171_6 : zcode 171 6 = some (.invokevirtual 169, 3, 123, 0, 4219) := by decide +kernel
theorem c_171_9 : zcode 171 9 = some (.ifCond .ne 19, 3, 28, 0, 0) := by decide +kernel
theorem c_171_12 : zcode 171 12 = some (.aload_n 0, 1, 0, 0, 0) := by decide +kernel
theorem c_171_13 : zcode 171 13 = some (.aload_n 0, 1, 0, 0, 0) := by decide +kernel
theorem c_171_14 : zcode 171 14 = some (.getfield 34, 3, 8, 17, 4022) := by decide +kernel
theorem c_171_17 : zcode 171 17 = some (.iload_n 2, 1, 0, 0, 0) := by decide +kernel
theorem c_171_18 : zcode 171 18 = some (.invokevirtual 187, 3, 151, 0, 5021) := by decide +kernel
theorem c_171_21 : zcode 171 21 = some (.ifCond .eq 7, 3, 28, 0, 0) := by decide +kernel
theorem c_171_24 : zcode 171 24 = some (.iconst 1, 1, 0, 0, 0) := by decide +kernel
theorem c_171_25 : zcode 171 25 = some (.goto 4, 3, 29, 0, 0) := by decide +kernel
theorem c_171_28 : zcode 171 28 = some (.iconst 0, 1, 0, 0, 0) := by decide +kernel
theorem c_171_29 : zcode 171 29 = some (.istore_n 3, 1, 0, 0, 0) := by decide +kernel
theorem c_171_30 : zcode 171 30 = some (.iload_n 3, 1, 0, 0, 0) := by decide +kernel
theorem c_171_31 : zcode 171 31 = some (.ifCond .eq 12, 3, 43, 0, 0) := by decide +kernel
theorem c_171_34 : zcode 171 34 = some (.aload_n 0, 1, 0, 0, 0) := by decide +kernel
theorem c_171_35 : zcode 171 35 = some (.aload_n 0, 1, 0, 0, 0) := by decide +kernel
theorem c_171_36 : zcode 171 36 = some (.getfield 34, 3, 8, 17, 4022) := by decide +kernel
theorem c_171_39 : zcode 171 39 = some (.iload_n 2, 1, 0, 0, 0) := by decide +kernel
theorem c_171_40 : zcode 171 40 = some (.invokevirtual 190, 3, 152, 0, 5025) := by decide +kernel
theorem c_171_43 : zcode 171 43 = some (.iload_n 3, 1, 0, 0, 0) := by decide +kernel
theorem c_171_44 : zcode 171 44 = some (.ireturn, 1, 0, 0, 0) := by decide +kernel
theorem c_171_45 : zcode 171 45 = some (.iload_n 1, 1, 0, 0, 0) := by decide +kernel
theorem c_171_46 : zcode 171 46 = some (.iconst 1, 1, 0, 0, 0) := by decide +kernel
theorem c_171_47 : zcode 171 47 = some (.if_icmp .ne 53, 3, 100, 0, 0) := by decide +kernel
theorem c_171_50 : zcode 171 50 = some (.iload_n 2, 1, 0, 0, 0) := by decide +kernel
theorem c_171_51 : zcode 171 51 = some (.ifCond .le 8, 3, 59, 0, 0) := by decide +kernel
theorem c_171_54 : zcode 171 54 = some (.bipush (-9), 2, 0, 0, 0) := by decide +kernel
theorem c_171_56 : zcode 171 56 = some (.goto 11, 3, 67, 0, 0) := by decide +kernel
theorem c_171_59 : zcode 171 59 = some (.aload_n 0, 1, 0, 0, 0) := by decide +kernel
theorem c_171_60 : zcode 171 60 = some (.aload_n 0, 1, 0, 0, 0) := by decide +kernel
theorem c_171_61 : zcode 171 61 = some (.getfield 34, 3, 8, 17, 4022) := by decide +kernel
theorem c_171_64 : zcode 171 64 = some (.invokevirtual 194, 3, 154, 0, 5033) := by decide +kernel
theorem c_171_67 : zcode 171 67 = some (.istore_n 3, 1, 0, 0, 0) := by decide +kernel
theorem c_171_68 : zcode 171 68 = some (.aload_n 0, 1, 0, 0, 0) := by decide +kernel
theorem c_171_69 : zcode 171 69 = some (.getfield 34, 3, 8, 17, 4022) := by decide +kernel
theorem c_171_72 : zcode 171 72 = some (.iconst 2, 1, 0, 0, 0) := by decide +kernel
theorem c_171_73 : zcode 171 73 = some (.dup2, 1, 0, 0, 0) := by decide +kernel
theorem c_171_74 : zcode 171 74 = some (.iaload, 1, 0, 0, 0) := by decide +kernel
theorem c_171_75 : zcode 171 75 = some (.iload_n 3, 1, 0, 0, 0) := by decide +kernel
theorem c_171_76 : zcode 171 76 = some (.bipush (-9), 2, 0, 0, 0) := by decide +kernel
theorem c_171_78 : zcode 171 78 = some (.if_icmp .ne 7, 3, 85, 0, 0) := by decide +kernel
theorem c_171_81 : zcode 171 81 = some (.iconst 0, 1, 0, 0, 0) := by decide +kernel
theorem c_171_82 : zcode 171 82 = some (.goto 4, 3, 86, 0, 0) := by decide +kernel
theorem c_171_85 : zcode 171 85 = some (.iload_n 3, 1, 0, 0, 0) := by decide +kernel
theorem c_171_86 : zcode 171 86 = some (.isub, 1, 0, 0, 0) := by decide +kernel
theorem c_171_87 : zcode 171 87 = some (.iastore, 1, 0, 0, 0) := by decide +kernel
theorem c_171_88 : zcode 171 88 = some (.iload_n 3, 1, 0, 0, 0) := by decide +kernel
theorem c_171_89 : zcode 171 89 = some (.bipush (-9), 2, 0, 0, 0) := by decide +kernel
theorem c_171_91 : zcode 171 91 = some (.if_icmp .eq 7, 3, 98, 0, 0) := by decide +kernel
theorem c_171_94 : zcode 171 94 = some (.iconst 1, 1, 0, 0, 0) := by decide +kernel
theorem c_171_95 : zcode 171 95 = some (.goto 4, 3, 99, 0, 0) := by decide +kernel
theorem c_171_98 : zcode 171 98 = some (.iconst 0, 1, 0, 0, 0) := by decide +kernel
theorem c_171_99 : zcode 171 99 = some (.ireturn, 1, 0, 0, 0) := by decide +kernel
theorem c_171_100 : zcode 171 100 = some (.iload_n 1, 1, 0, 0, 0) := by decide +kernel
theorem c_171_101 : zcode 171 101 = some (.iconst 2, 1, 0, 0, 0) := by decide +kernel
theorem c_171_102 : zcode 171 102 = some (.if_icmp .ne 37, 3, 139, 0, 0) := by decide +kernel
theorem c_171_105 : zcode 171 105 = some (.iload_n 2, 1, 0, 0, 0) := by decide +kernel
theorem c_171_106 : zcode 171 106 = some (.ifCond .le 17, 3, 123, 0, 0) := by decide +kernel
theorem c_171_109 : zcode 171 109 = some (.aload_n 0, 1, 0, 0, 0) := by decide +kernel
theorem c_171_110 : zcode 171 110 = some (.getfield 34, 3, 8, 17, 4022) := by decide +kernel
theorem c_171_113 : zcode 171 113 = some (.invokestatic 199, 3, 156, 0, 5042) := by decide +kernel
theorem c_171_116 : zcode 171 116 = some (.ifCond .eq 7, 3, 123, 0, 0) := by decide +kernel
theorem c_171_119 : zcode 171 119 = some (.iconst 1, 1, 0, 0, 0) := by decide +kernel
theorem c_171_120 : zcode 171 120 = some (.goto 4, 3, 124, 0, 0) := by decide +kernel
theorem c_171_123 : zcode 171 123 = some (.iconst 0, 1, 0, 0, 0) := by decide +kernel
theorem c_171_124 : zcode 171 124 = some (.istore_n 3, 1, 0, 0, 0) := by decide +kernel
theorem c_171_125 : zcode 171 125 = some (.iload_n 3, 1, 0, 0, 0) := by decide +kernel
theorem c_171_126 : zcode 171 126 = some (.ifCond .eq 11, 3, 137, 0, 0) := by decide +kernel
theorem c_171_129 : zcode 171 129 = some (.aload_n 0, 1, 0, 0, 0) := by decide +kernel
theorem c_171_130 : zcode 171 130 = some (.getfield 34, 3, 8, 17, 4022) := by decide +kernel
theorem c_171_133 : zcode 171 133 = some (.iload_n 2, 1, 0, 0, 0) := by decide +kernel
theorem c_171_134 : zcode 171 134 = some (.invokestatic 203, 3, 157, 0, 5045) := by decide +kernel
theorem c_171_137 : zcode 171 137 = some (.iload_n 3, 1, 0, 0, 0) := by decide +kernel
theorem c_171_138 : zcode 171 138 = some (.ireturn, 1, 0, 0, 0) := by decide +kernel
theorem c_171_139 : zcode 171 139 = some (.iload_n 1, 1, 0, 0, 0) := by decide +kernel
theorem c_171_140 : zcode 171 140 = some (.iconst 3, 1, 0, 0, 0) := by decide +kernel
theorem c_171_141 : zcode 171 141 = some (.if_icmp .ne 27, 3, 168, 0, 0) := by decide +kernel
theorem c_171_144 : zcode 171 144 = some (.iload_n 2, 1, 0, 0, 0) := by decide +kernel
theorem c_171_145 : zcode 171 145 = some (.ifCond .ne 19, 3, 164, 0, 0) := by decide +kernel
theorem c_171_148 : zcode 171 148 = some (.aload_n 0, 1, 0, 0, 0) := by decide +kernel
theorem c_171_149 : zcode 171 149 = some (.aload_n 0, 1, 0, 0, 0) := by decide +kernel
theorem c_171_150 : zcode 171 150 = some (.getfield 34, 3, 8, 17, 4022) := by decide +kernel
theorem c_171_153 : zcode 171 153 = some (.iconst 0, 1, 0, 0, 0) := by decide +kernel
theorem c_171_154 : zcode 171 154 = some (.invokevirtual 148, 3, 140, 0, 4188) := by decide +kernel
theorem c_171_157 : zcode 171 157 = some (.ifCond .eq 7, 3, 164, 0, 0) := by decide +kernel
theorem c_171_160 : zcode 171 160 = some (.iconst 1, 1, 0, 0, 0) := by decide +kernel
theorem c_171_161 : zcode 171 161 = some (.goto 29, 3, 190, 0, 0) := by decide +kernel
theorem c_171_164 : zcode 171 164 = some (.iconst 0, 1, 0, 0, 0) := by decide +kernel
theorem c_171_165 : zcode 171 165 = some (.goto 25, 3, 190, 0, 0) := by decide +kernel
theorem c_171_168 : zcode 171 168 = some (.iload_n 1, 1, 0, 0, 0) := by decide +kernel
theorem c_171_169 : zcode 171 169 = some (.iconst 4, 1, 0, 0, 0) := by decide +kernel
theorem c_171_170 : zcode 171 170 = some (.if_icmp .ne 19, 3, 189, 0, 0) := by decide +kernel
theorem c_171_173 : zcode 171 173 = some (.aload_n 0, 1, 0, 0, 0) := by decide +kernel
theorem c_171_174 : zcode 171 174 = some (.aload_n 0, 1, 0, 0, 0) := by decide +kernel
theorem c_171_175 : zcode 171 175 = some (.getfield 34, 3, 8, 17, 4022) := by decide +kernel
theorem c_171_178 : zcode 171 178 = some (.invokevirtual 145, 3, 139, 0, 4184) := by decide +kernel
theorem c_171_181 : zcode 171 181 = some (.iload_n 2, 1, 0, 0, 0) := by decide +kernel
theorem c_171_182 : zcode 171 182 = some (.if_icmp .lt 7, 3, 189, 0, 0) := by decide +kernel
theorem c_171_185 : zcode 171 185 = some (.iconst 1, 1, 0, 0, 0) := by decide +kernel
theorem c_171_186 : zcode 171 186 = some (.goto 4, 3, 190, 0, 0) := by decide +kernel
theorem c_171_189 : zcode 171 189 = some (.iconst 0, 1, 0, 0, 0) := by decide +kernel
theorem c_171_190 : zcode 171 190 = some (.ireturn, 1, 0, 0, 0) := by decide +kernel
theorem c_172_0 : zcode 172 0 = some (.aload_n 0, 1, 0, 0, 0) := by decide +kernel
theorem c_172_1 : zcode 172 1 = some (.iconst 0, 1, 0, 0, 0) := by decide +kernel
theorem c_172_2 : zcode 172 2 = some (.putfield 71, 3, 8, 0, 4005) := by decide +kernel
theorem c_172_5 : zcode 172 5 = some (.iload_n 1, 1, 0, 0, 0) := by decide +kernel
theorem c_172_6 : zcode 172 6 = some (.i2l, 1, 0, 0, 0) := by decide +kernel
theorem c_172_7 : zcode 172 7 = some (.lconst 1, 1, 0, 0, 0) := by decide +kernel
theorem c_172_8 : zcode 172 8 = some (.ldc2_w 250, 3, 4, 0, 5103) := by decide +kernel
theorem c_172_11 : zcode 172 11 = some (.invokestatic 78, 3, 117, 0, 4135) := by decide +kernel
theorem c_172_14 : zcode 172 14 = some (.ifCond .eq 21, 3, 35, 0, 0) := by decide +kernel
theorem c_172_17 : zcode 172 17 = some (.iload_n 2, 1, 0, 0, 0) := by decide +kernel
theorem c_172_18 : zcode 172 18 = some (.i2l, 1, 0, 0, 0) := by decide +kernel
theorem c_172_19 : zcode 172 19 = some (.lconst 0, 1, 0, 0, 0) := by decide +kernel
theorem c_172_20 : zcode 172 20 = some (.bipush 100, 2, 0, 0, 0) := by decide +kernel
theorem c_172_22 : zcode 172 22 = some (.iload_n 1, 1, 0, 0, 0) := by decide +kernel
theorem c_172_23 : zcode 172 23 = some (.invokestatic 244, 3, 120, 0, 5096) := by decide +kernel
theorem c_172_26 : zcode 172 26 = some (.iconst 1, 1, 0, 0, 0) := by decide +kernel
theorem c_172_27 : zcode 172 27 = some (.isub, 1, 0, 0, 0) := by decide +kernel
theorem c_172_28 : zcode 172 28 = some (.i2l, 1, 0, 0, 0) := by decide +kernel
theorem c_172_29 : zcode 172 29 = some (.invokestatic 78, 3, 117, 0, 4135) := by decide +kernel
theorem c_172_32 : zcode 172 32 = some (.ifCond .ne 6, 3, 38, 0, 0) := by decide +kernel
theorem c_172_35 : zcode 172 35 = some (.bipush (-2), 2, 0, 0, 0) := by decide +kernel
theorem c_172_37 : zcode 172 37 = some (.ireturn, 1, 0, 0, 0) := by decide +kernel
theorem c_172_38 : zcode 172 38 = some (.aload_n 0, 1, 0, 0, 0) := by decide +kernel
theorem c_172_39 : zcode 172 39 = some (.invokevirtual 225, 3, 160, 0, 5060) := by decide +kernel
theorem c_172_42 : zcode 172 42 = some (.iconst 0, 1, 0, 0, 0) := by decide +kernel
theorem c_172_43 : zcode 172 43 = some (.istore_n 3, 1, 0, 0, 0) := by decide +kernel
theorem c_172_44 : zcode 172 44 = some (.iload_n 3, 1, 0, 0, 0) := by decide +kernel
theorem c_172_45 : zcode 172 45 = some (.iload_n 1, 1, 0, 0, 0) := by decide +kernel
theorem c_172_46 : zcode 172 46 = some (.if_icmp .ge 45, 3, 91, 0, 0) := by decide +kernel
theorem c_172_49 : zcode 172 49 = some (.iload_n 2, 1, 0, 0, 0) := by decide +kernel
theorem c_172_50 : zcode 172 50 = some (.bipush 100, 2, 0, 0, 0) := by decide +kernel
theorem c_172_52 : zcode 172 52 = some (.iload_n 1, 1, 0, 0, 0) := by decide +kernel
theorem c_172_53 : zcode 172 53 = some (.iconst 1, 1, 0, 0, 0) := by decide +kernel
theorem c_172_54 : zcode 172 54 = some (.isub, 1, 0, 0, 0) := by decide +kernel
theorem c_172_55 : zcode 172 55 = some (.iload_n 3, 1, 0, 0, 0) := by decide +kernel
theorem c_172_56 : zcode 172 56 = some (.isub, 1, 0, 0, 0) := by decide +kernel
theorem c_172_57 : zcode 172 57 = some (.invokestatic 244, 3, 120, 0, 5096) := by decide +kernel
theorem c_172_60 : zcode 172 60 = some (.idiv, 1, 0, 0, 0) := by decide +kernel
theorem c_172_61 : zcode 172 61 = some (.bipush 100, 2, 0, 0, 0) := by decide +kernel
theorem c_172_63 : zcode 172 63 = some (.irem, 1, 0, 0, 0) := by decide +kernel
theorem c_172_64 : zcode 172 64 = some (.istore 4, 2, 0, 0, 0) := by decide +kernel
theorem c_172_66 : zcode 172 66 = some (.aload_n 0, 1, 0, 0, 0) := by decide +kernel
theorem c_172_67 : zcode 172 67 = some (.iload 4, 2, 0, 0, 0) := by decide +kernel
theorem c_172_69 : zcode 172 69 = some (.bipush 10, 2, 0, 0, 0) := by decide +kernel
theorem c_172_71 : zcode 172 71 = some (.idiv, 1, 0, 0, 0) := by decide +kernel
theorem c_172_72 : zcode 172 72 = some (.iload 4, 2, 0, 0, 0) := by decide +kernel
theorem c_172_74 : zcode 172 74 = some (.bipush 10, 2, 0, 0, 0) := by decide +kernel
theorem c_172_76 : zcode 172 76 = some (.irem, 1, 0, 0, 0) := by decide +kernel
theorem c_172_77 : zcode 172 77 = some (.invokevirtual 252, 3, 171, 0, 5104) := by decide +kernel
theorem c_172_80 : zcode 172 80 = some (.ifCond .ne 5, 3, 85, 0, 0) := by decide +kernel
theorem c_172_83 : zcode 172 83 = some (.iload_n 3, 1, 0, 0, 0) := by decide +kernel
theorem c_172_84 : zcode 172 84 = some (.ireturn, 1, 0, 0, 0) := by decide +kernel
theorem c_172_85 : zcode 172 85 = some (.iinc 3 1, 3, 0, 0, 0) := by decide +kernel
theorem c_172_88 : zcode 172 88 = some (.goto (-44), 3, 44, 0, 0) := by decide +kernel
theorem c_172_91 : zcode 172 91 = some (.bipush (-9), 2, 0, 0, 0) := by decide +kernel
theorem c_172_93 : zcode 172 93 = some (.ireturn, 1, 0, 0, 0) := by decide +kernel
theorem c_173_0 : zcode 173 0 = some (.iconst 1, 1, 0, 0, 0) := by decide +kernel
theorem c_173_1 : zcode 173 1 = some (.istore_n 1, 1, 0, 0, 0) := by decide +kernel
theorem c_173_2 : zcode 173 2 = some (.iconst 2, 1, 0, 0, 0) := by decide +kernel
theorem c_173_3 : zcode 173 3 = some (.istore_n 2, 1, 0, 0, 0) := by decide +kernel
theorem c_173_4 : zcode 173 4 = some (.iload_n 2, 1, 0, 0, 0) := by decide +kernel
theorem c_173_5 : zcode 173 5 = some (.iload_n 0, 1, 0, 0, 0) := by decide +kernel
theorem c_173_6 : zcode 173 6 = some (.if_icmp .gt 13, 3, 19, 0, 0) := by decide +kernel
theorem c_173_9 : zcode 173 9 = some (.iload_n 1, 1, 0, 0, 0) := by decide +kernel
theorem c_173_10 : zcode 173 10 = some (.iload_n 2, 1, 0, 0, 0) := by decide +kernel
theorem c_173_11 : zcode 173 11 = some (.imul, 1, 0, 0, 0) := by decide +kernel
theorem c_173_12 : zcode 173 12 = some (.istore_n 1, 1, 0, 0, 0) := by decide +kernel
theorem c_173_13 : zcode 173 13 = some (.iinc 2 1, 3, 0, 0, 0) := by decide +kernel
theorem c_173_16 : zcode 173 16 = some (.goto (-12), 3, 4, 0, 0) := by decide +kernel
theorem c_173_19 : zcode 173 19 = some (.iload_n 1, 1, 0, 0, 0) := by decide +kernel
theorem c_173_20 : zcode 173 20 = some (.ireturn, 1, 0, 0, 0) := by decide +kernel
theorem c_174_0 : zcode 174 0 = some (.iload_n 0, 1, 0, 0, 0) := by decide +kernel
theorem c_174_1 : zcode 174 1 = some (.ifCond .ge 8, 3, 9, 0, 0) := by decide +kernel
theorem c_174_4 : zcode 174 4 = some (.iload_n 0, 1, 0, 0, 0) := by decide +kernel
theorem c_174_5 : zcode 174 5 = some (.ineg, 1, 0, 0, 0) := by decide +kernel
theorem c_174_6 : zcode 174 6 = some (.goto 4, 3, 10, 0, 0) := by decide +kernel
theorem c_174_9 : zcode 174 9 = some (.iload_n 0, 1, 0, 0, 0) := by decide +kernel
theorem c_174_10 : zcode 174 10 = some (.istore_n 2, 1, 0, 0, 0) := by decide +kernel
theorem c_174_11 : zcode 174 11 = some (.iload_n 1, 1, 0, 0, 0) := by decide +kernel
theorem c_174_12 : zcode 174 12 = some (.istore_n 3, 1, 0, 0, 0) := by decide +kernel
theorem c_174_13 : zcode 174 13 = some (.iload_n 3, 1, 0, 0, 0) := by decide +kernel
theorem c_174_14 : zcode 174 14 = some (.ifCond .eq 16, 3, 30, 0, 0) := by decide +kernel
theorem c_174_17 : zcode 174 17 = some (.iload_n 2, 1, 0, 0, 0) := by decide +kernel
theorem c_174_18 : zcode 174 18 = some (.iload_n 3, 1, 0, 0, 0) := by decide +kernel
theorem c_174_19 : zcode 174 19 = some (.irem, 1, 0, 0, 0) := by decide +kernel
theorem c_174_20 : zcode 174 20 = some (.istore 4, 2, 0, 0, 0) := by decide +kernel
theorem c_174_22 : zcode 174 22 = some (.iload_n 3, 1, 0, 0, 0) := by decide +kernel
theorem c_174_23 : zcode 174 23 = some (.istore_n 2, 1, 0, 0, 0) := by decide +kernel
theorem c_174_24 : zcode 174 24 = some (.iload 4, 2, 0, 0, 0) := by decide +kernel
theorem c_174_26 : zcode 174 26 = some (.istore_n 3, 1, 0, 0, 0) := by decide +kernel
theorem c_174_27 : zcode 174 27 = some (.goto (-14), 3, 13, 0, 0) := by decide +kernel
theorem c_174_30 : zcode 174 30 = some (.iload_n 2, 1, 0, 0, 0) := by decide +kernel
theorem c_174_31 : zcode 174 31 = some (.ireturn, 1, 0, 0, 0) := by decide +kernel
theorem c_175_0 : zcode 175 0 = some (.iload_n 0, 1, 0, 0, 0) := by decide +kernel
theorem c_175_1 : zcode 175 1 = some (.iload_n 1, 1, 0, 0, 0) := by decide +kernel
theorem c_175_2 : zcode 175 2 = some (.invokestatic 255, 3, 174, 0, 5125) := by decide +kernel
theorem c_175_5 : zcode 175 5 = some (.istore_n 3, 1, 0, 0, 0) := by decide +kernel
theorem c_175_6 : zcode 175 6 = some (.iload_n 2, 1, 0, 0, 0) := by decide +kernel
theorem c_175_7 : zcode 175 7 = some (.ifCond .eq 9, 3, 16, 0, 0) := by decide +kernel
theorem c_175_10 : zcode 175 10 = some (.iload_n 0, 1, 0, 0, 0) := by decide +kernel
theorem c_175_11 : zcode 175 11 = some (.iload_n 3, 1, 0, 0, 0) := by decide +kernel
theorem c_175_12 : zcode 175 12 = some (.idiv, 1, 0, 0, 0) := by decide +kernel
theorem c_175_13 : zcode 175 13 = some (.goto 6, 3, 19, 0, 0) := by decide +kernel
theorem c_175_16 : zcode 175 16 = some (.iload_n 1, 1, 0, 0, 0) := by decide +kernel
theorem c_175_17 : zcode 175 17 = some (.iload_n 3, 1, 0, 0, 0) := by decide +kernel
theorem c_175_18 : zcode 175 18 = some (.idiv, 1, 0, 0, 0) := by decide +kernel
theorem c_175_19 : zcode 175 19 = some (.ireturn, 1, 0, 0, 0) := by decide +kernel
theorem c_176_0 : zcode 176 0 = some (.aload_n 0, 1, 0, 0, 0) := by decide +kernel
theorem c_176_1 : zcode 176 1 = some (.aload_n 0, 1, 0, 0, 0) := by decide +kernel
theorem c_176_2 : zcode 176 2 = some (.getfield 34, 3, 8, 17, 4022) := by decide +kernel
theorem c_176_5 : zcode 176 5 = some (.iload_n 1, 1, 0, 0, 0) := by decide +kernel
theorem c_176_6 : zcode 176 6 = some (.iload_n 2, 1, 0, 0, 0) := by decide +kernel
theorem c_176_7 : zcode 176 7 = some (.invokevirtual 183, 3, 149, 0, 5013) := by decide +kernel
theorem c_176_10 : zcode 176 10 = some (.aload_n 0, 1, 0, 0, 0) := by decide +kernel
theorem c_176_11 : zcode 176 11 = some (.getfield 34, 3, 8, 17, 4022) := by decide +kernel
theorem c_176_14 : zcode 176 14 = some (.iconst 2, 1, 0, 0, 0) := by decide +kernel
theorem c_176_15 : zcode 176 15 = some (.iload_n 3, 1, 0, 0, 0) := by decide +kernel
theorem c_176_16 : zcode 176 16 = some (.iastore, 1, 0, 0, 0) := by decide +kernel
theorem c_176_17 : zcode 176 17 = some (.aload_n 0, 1, 0, 0, 0) := by decide +kernel
theorem c_176_18 : zcode 176 18 = some (.iload 4, 2, 0, 0, 0) := by decide +kernel
theorem c_176_20 : zcode 176 20 = some (.invokevirtual 228, 3, 162, 0, 5064) := by decide +kernel
theorem c_176_23 : zcode 176 23 = some (.aload_n 0, 1, 0, 0, 0) := by decide +kernel
theorem c_176_24 : zcode 176 24 = some (.getfield 206, 3, 8, 30, 4035) := by decide +kernel
theorem c_176_27 : zcode 176 27 = some (.bipush (-9), 2, 0, 0, 0) := by decide +kernel
theorem c_176_29 : zcode 176 29 = some (.if_icmp .ne 7, 3, 36, 0, 0) := by decide +kernel
theorem c_176_32 : zcode 176 32 = some (.iconst 0, 1, 0, 0, 0) := by decide +kernel
theorem c_176_33 : zcode 176 33 = some (.goto 7, 3, 40, 0, 0) := by decide +kernel
theorem c_176_36 : zcode 176 36 = some (.aload_n 0, 1, 0, 0, 0) := by decide +kernel
theorem c_176_37 : zcode 176 37 = some (.getfield 206, 3, 8, 30, 4035) := by decide +kernel
theorem c_176_40 : zcode 176 40 = some (.ireturn, 1, 0, 0, 0) := by decide +kernel
theorem c_177_0 : zcode 177 0 = some (.aload_n 0, 1, 0, 0, 0) := by decide +kernel
theorem c_177_1 : zcode 177 1 = some (.iconst 0, 1, 0, 0, 0) := by decide +kernel
theorem c_177_2 : zcode 177 2 = some (.putfield 71, 3, 8, 0, 4005) := by decide +kernel
theorem c_177_5 : zcode 177 5 = some (.aload_n 0, 1, 0, 0, 0) := by decide +kernel
theorem c_177_6 : zcode 177 6 = some (.iload_n 1, 1, 0, 0, 0) := by decide +kernel
theorem c_177_7 : zcode 177 7 = some (.invokevirtual 169, 3, 123, 0, 4219) := by decide +kernel
theorem c_177_10 : zcode 177 10 = some (.ifCond .eq 5, 3, 15, 0, 0) := by decide +kernel
theorem c_177_13 : zcode 177 13 = some (.iconst (-1), 1, 0, 0, 0) := by decide +kernel
theorem c_177_14 : zcode 177 14 = some (.ireturn, 1, 0, 0, 0) := by decide +kernel
theorem c_177_15 : zcode 177 15 = some (.aload_n 0, 1, 0, 0, 0) := by decide +kernel
theorem c_177_16 : zcode 177 16 = some (.getfield 31, 3, 8, 16, 4021) := by decide +kernel
theorem c_177_19 : zcode 177 19 = some (.iconst 0, 1, 0, 0, 0) := by decide +kernel
theorem c_177_20 : zcode 177 20 = some (.iaload, 1, 0, 0, 0) := by decide +kernel
theorem c_177_21 : zcode 177 21 = some (.bipush (-9), 2, 0, 0, 0) := by decide +kernel
theorem c_177_23 : zcode 177 23 = some (.if_icmp .ne 6, 3, 29, 0, 0) := by decide +kernel
theorem c_177_26 : zcode 177 26 = some (.bipush (-3), 2, 0, 0, 0) := by decide +kernel
theorem c_177_28 : zcode 177 28 = some (.ireturn, 1, 0, 0, 0) := by decide +kernel
theorem c_177_29 : zcode 177 29 = some (.iconst 0, 1, 0, 0, 0) := by decide +kernel
theorem c_177_30 : zcode 177 30 = some (.istore_n 3, 1, 0, 0, 0) := by decide +kernel
theorem c_177_31 : zcode 177 31 = some (.iload_n 3, 1, 0, 0, 0) := by decide +kernel
theorem c_177_32 : zcode 177 32 = some (.iconst 1, 1, 0, 0, 0) := by decide +kernel
theorem c_177_33 : zcode 177 33 = some (.aload_n 0, 1, 0, 0, 0) := by decide +kernel
theorem c_177_34 : zcode 177 34 = some (.getfield 85, 3, 8, 8, 4013) := by decide +kernel
theorem c_177_37 : zcode 177 37 = some (.ishl, 1, 0, 0, 0) := by decide +kernel
theorem c_177_38 : zcode 177 38 = some (.if_icmp .ge 42, 3, 80, 0, 0) := by decide +kernel
theorem c_177_41 : zcode 177 41 = some (.aload_n 0, 1, 0, 0, 0) := by decide +kernel
theorem c_177_42 : zcode 177 42 = some (.getfield 68, 3, 8, 40, 4045) := by decide +kernel
theorem c_177_45 : zcode 177 45 = some (.iload_n 3, 1, 0, 0, 0) := by decide +kernel
theorem c_177_46 : zcode 177 46 = some (.aload_n 0, 1, 0, 0, 0) := by decide +kernel
theorem c_177_47 : zcode 177 47 = some (.aload_n 0, 1, 0, 0, 0) := by decide +kernel
theorem c_177_48 : zcode 177 48 = some (.getfield 31, 3, 8, 16, 4021) := by decide +kernel
theorem c_177_51 : zcode 177 51 = some (.iconst 0, 1, 0, 0, 0) := by decide +kernel
theorem c_177_52 : zcode 177 52 = some (.iaload, 1, 0, 0, 0) := by decide +kernel
theorem c_177_53 : zcode 177 53 = some (.aload_n 0, 1, 0, 0, 0) := by decide +kernel
theorem c_177_54 : zcode 177 54 = some (.getfield 31, 3, 8, 16, 4021) := by decide +kernel
theorem c_177_57 : zcode 177 57 = some (.iconst 1, 1, 0, 0, 0) := by decide +kernel
theorem c_177_58 : zcode 177 58 = some (.iaload, 1, 0, 0, 0) := by decide +kernel
theorem c_177_59 : zcode 177 59 = some (.aload_n 0, 1, 0, 0, 0) := by decide +kernel
theorem c_177_60 : zcode 177 60 = some (.aload_n 0, 1, 0, 0, 0) := by decide +kernel
theorem c_177_61 : zcode 177 61 = some (.getfield 31, 3, 8, 16, 4021) := by decide +kernel
theorem c_177_64 : zcode 177 64 = some (.iconst 0, 1, 0, 0, 0) := by decide +kernel
theorem c_177_65 : zcode 177 65 = some (.iaload, 1, 0, 0, 0) := by decide +kernel
theorem c_177_66 : zcode 177 66 = some (.invokevirtual 159, 3, 135, 0, 4203) := by decide +kernel
theorem c_177_69 : zcode 177 69 = some (.iload_n 3, 1, 0, 0, 0) := by decide +kernel
theorem c_177_70 : zcode 177 70 = some (.invokevirtual 258, 3, 176, 0, 5112) := by decide +kernel
theorem c_177_73 : zcode 177 73 = some (.iastore, 1, 0, 0, 0) := by decide +kernel
theorem c_177_74 : zcode 177 74 = some (.iinc 3 1, 3, 0, 0, 0) := by decide +kernel
theorem c_177_77 : zcode 177 77 = some (.goto (-46), 3, 31, 0, 0) := by decide +kernel
theorem c_177_80 : zcode 177 80 = some (.iconst 0, 1, 0, 0, 0) := by decide +kernel
theorem c_177_81 : zcode 177 81 = some (.istore_n 3, 1, 0, 0, 0) := by decide +kernel
theorem c_177_82 : zcode 177 82 = some (.iconst 0, 1, 0, 0, 0) := by decide +kernel
theorem c_177_83 : zcode 177 83 = some (.istore 4, 2, 0, 0, 0) := by decide +kernel
theorem c_177_85 : zcode 177 85 = some (.iload 4, 2, 0, 0, 0) := by decide +kernel
theorem c_177_87 : zcode 177 87 = some (.iconst 1, 1, 0, 0, 0) := by decide +kernel
theorem c_177_88 : zcode 177 88 = some (.aload_n 0, 1, 0, 0, 0) := by decide +kernel
theorem c_177_89 : zcode 177 89 = some (.getfield 85, 3, 8, 8, 4013) := by decide +kernel
theorem c_177_92 : zcode 177 92 = some (.ishl, 1, 0, 0, 0) := by decide +kernel
theorem c_177_93 : zcode 177 93 = some (.if_icmp .ge 66, 3, 159, 0, 0) := by decide +kernel
theorem c_177_96 : zcode 177 96 = some (.iload 4, 2, 0, 0, 0) := by decide +kernel
theorem c_177_98 : zcode 177 98 = some (.iload_n 1, 1, 0, 0, 0) := by decide +kernel
theorem c_177_99 : zcode 177 99 = some (.invokestatic 137, 3, 118, 0, 4192) := by decide +kernel
theorem c_177_102 : zcode 177 102 = some (.ifCond .ne 51, 3, 153, 0, 0) := by decide +kernel
theorem c_177_105 : zcode 177 105 = some (.iload 4, 2, 0, 0, 0) := by decide +kernel
theorem c_177_107 : zcode 177 107 = some (.invokestatic 261, 3, 119, 0, 5116) := by decide +kernel
theorem c_177_110 : zcode 177 110 = some (.istore 5, 2, 0, 0, 0) := by decide +kernel
theorem c_177_112 : zcode 177 112 = some (.iload_n 3, 1, 0, 0, 0) := by decide +kernel
theorem c_177_113 : zcode 177 113 = some (.iload 5, 2, 0, 0, 0) := by decide +kernel
theorem c_177_115 : zcode 177 115 = some (.invokestatic 264, 3, 173, 0, 5119) := by decide +kernel
theorem c_177_118 : zcode 177 118 = some (.aload_n 0, 1, 0, 0, 0) := by decide +kernel
theorem c_177_119 : zcode 177 119 = some (.getfield 85, 3, 8, 8, 4013) := by decide +kernel
theorem c_177_122 : zcode 177 122 = some (.iconst 1, 1, 0, 0, 0) := by decide +kernel
theorem c_177_123 : zcode 177 123 = some (.isub, 1, 0, 0, 0) := by decide +kernel
theorem c_177_124 : zcode 177 124 = some (.iload 5, 2, 0, 0, 0) := by decide +kernel
theorem c_177_126 : zcode 177 126 = some (.isub, 1, 0, 0, 0) := by decide +kernel
theorem c_177_127 : zcode 177 127 = some (.invokestatic 264, 3, 173, 0, 5119) := by decide +kernel
theorem c_177_130 : zcode 177 130 = some (.imul, 1, 0, 0, 0) := by decide +kernel
theorem c_177_131 : zcode 177 131 = some (.aload_n 0, 1, 0, 0, 0) := by decide +kernel
theorem c_177_132 : zcode 177 132 = some (.getfield 68, 3, 8, 40, 4045) := by decide +kernel
theorem c_177_135 : zcode 177 135 = some (.iload 4, 2, 0, 0, 0) := by decide +kernel
theorem c_177_137 : zcode 177 137 = some (.iconst 1, 1, 0, 0, 0) := by decide +kernel
theorem c_177_138 : zcode 177 138 = some (.iload_n 1, 1, 0, 0, 0) := by decide +kernel
theorem c_177_139 : zcode 177 139 = some (.ishl, 1, 0, 0, 0) := by decide +kernel
theorem c_177_140 : zcode 177 140 = some (.ior, 1, 0, 0, 0) := by decide +kernel
theorem c_177_141 : zcode 177 141 = some (.iaload, 1, 0, 0, 0) := by decide +kernel
theorem c_177_142 : zcode 177 142 = some (.aload_n 0, 1, 0, 0, 0) := by decide +kernel
theorem c_177_143 : zcode 177 143 = some (.getfield 68, 3, 8, 40, 4045) := by decide +kernel
theorem c_177_146 : zcode 177 146 = some (.iload 4, 2, 0, 0, 0) := by decide +kernel
theorem c_177_148 : zcode 177 148 = some (.iaload, 1, 0, 0, 0) := by decide +kernel
theorem c_177_149 : zcode 177 149 = some (.isub, 1, 0, 0, 0) := by decide +kernel
theorem c_177_150 : zcode 177 150 = some (.imul, 1, 0, 0, 0) := by decide +kernel
theorem c_177_151 : zcode 177 151 = some (.iadd, 1, 0, 0, 0) := by decide +kernel
theorem c_177_152 : zcode 177 152 = some (.istore_n 3, 1, 0, 0, 0) := by decide +kernel
theorem c_177_153 : zcode 177 153 = some (.iinc 4 1, 3, 0, 0, 0) := by decide +kernel
theorem c_177_156 : zcode 177 156 = some (.goto (-71), 3, 85, 0, 0) := by decide +kernel
theorem c_177_159 : zcode 177 159 = some (.iload_n 3, 1, 0, 0, 0) := by decide +kernel
theorem c_177_160 : zcode 177 160 = some (.aload_n 0, 1, 0, 0, 0) := by decide +kernel
theorem c_177_161 : zcode 177 161 = some (.getfield 85, 3, 8, 8, 4013) := by decide +kernel
theorem c_177_164 : zcode 177 164 = some (.invokestatic 264, 3, 173, 0, 5119) := by decide +kernel
theorem c_177_167 : zcode 177 167 = some (.iload_n 2, 1, 0, 0, 0) := by decide +kernel
theorem c_177_168 : zcode 177 168 = some (.invokestatic 267, 3, 175, 0, 5122) := by decide +kernel
theorem c_177_171 : zcode 177 171 = some (.ireturn, 1, 0, 0, 0) := by decide +kernel
theorem c_178_0 : zcode 178 0 = some (.aload_n 0, 1, 0, 0, 0) := by decide +kernel
theorem c_178_1 : zcode 178 1 = some (.iconst 0, 1, 0, 0, 0) := by decide +kernel
theorem c_178_2 : zcode 178 2 = some (.putfield 71, 3, 8, 0, 4005) := by decide +kernel
theorem c_178_5 : zcode 178 5 = some (.aload_n 0, 1, 0, 0, 0) := by decide +kernel
theorem c_178_6 : zcode 178 6 = some (.iload_n 1, 1, 0, 0, 0) := by decide +kernel
theorem c_178_7 : zcode 178 7 = some (.invokevirtual 169, 3, 123, 0, 4219) := by decide +kernel
theorem c_178_10 : zcode 178 10 = some (.ifCond .eq 5, 3, 15, 0, 0) := by decide +kernel
theorem c_178_13 : zcode 178 13 = some (.iconst (-1), 1, 0, 0, 0) := by decide +kernel
theorem c_178_14 : zcode 178 14 = some (.ireturn, 1, 0, 0, 0) := by decide +kernel
theorem c_178_15 : zcode 178 15 = some (.iload_n 2, 1, 0, 0, 0) := by decide +kernel
theorem c_178_16 : zcode 178 16 = some (.i2l, 1, 0, 0, 0) := by decide +kernel
theorem c_178_17 : zcode 178 17 = some (.lconst 0, 1, 0, 0, 0) := by decide +kernel
theorem c_178_18 : zcode 178 18 = some (.ldc2_w 178, 3, 5, 0, 5004) := by decide +kernel
theorem c_178_21 : zcode 178 21 = some (.invokestatic 78, 3, 117, 0, 4135) := by decide +kernel
theorem c_178_24 : zcode 178 24 = some (.ifCond .eq 28, 3, 52, 0, 0) := by decide +kernel
theorem c_178_27 : zcode 178 27 = some (.iload_n 3, 1, 0, 0, 0) := by decide +kernel
theorem c_178_28 : zcode 178 28 = some (.i2l, 1, 0, 0, 0) := by decide +kernel
theorem c_178_29 : zcode 178 29 = some (.lconst 1, 1, 0, 0, 0) := by decide +kernel
theorem c_178_30 : zcode 178 30 = some (.ldc2_w 250, 3, 4, 0, 5103) := by decide +kernel
theorem c_178_33 : zcode 178 33 = some (.invokestatic 78, 3, 117, 0, 4135) := by decide +kernel
theorem c_178_36 : zcode 178 36 = some (.ifCond .eq 16, 3, 52, 0, 0) := by decide +kernel
theorem c_178_39 : zcode 178 39 = some (.iload 4, 2, 0, 0, 0) := by decide +kernel
theorem c_178_41 : zcode 178 41 = some (.i2l, 1, 0, 0, 0) := by decide +kernel
theorem c_178_42 : zcode 178 42 = some (.lconst 0, 1, 0, 0, 0) := by decide +kernel
theorem c_178_43 : zcode 178 43 = some (.ldc2_w 271, 3, 99, 0, 5132) := by decide +kernel
theorem c_178_46 : zcode 178 46 = some (.invokestatic 78, 3, 117, 0, 4135) := by decide +kernel
theorem c_178_49 : zcode 178 49 = some (.ifCond .ne 6, 3, 55, 0, 0) := by decide +kernel
theorem c_178_52 : zcode 178 52 = some (.bipush (-2), 2, 0, 0, 0) := by decide +kernel
theorem c_178_54 : zcode 178 54 = some (.ireturn, 1, 0, 0, 0) := by decide +kernel
theorem c_178_55 : zcode 178 55 = some (.aload_n 0, 1, 0, 0, 0) := by decide +kernel
theorem c_178_56 : zcode 178 56 = some (.getfield 152, 3, 8, 22, 4027) := by decide +kernel
theorem c_178_59 : zcode 178 59 = some (.bipush 6, 2, 0, 0, 0) := by decide +kernel
theorem c_178_61 : zcode 178 61 = some (.if_icmp .ne 6, 3, 67, 0, 0) := by decide +kernel
theorem c_178_64 : zcode 178 64 = some (.bipush (-4), 2, 0, 0, 0) := by decide +kernel
theorem c_178_66 : zcode 178 66 = some (.ireturn, 1, 0, 0, 0) := by decide +kernel
theorem c_178_67 : zcode 178 67 = some (.aload_n 0, 1, 0, 0, 0) := by decide +kernel
theorem c_178_68 : zcode 178 68 = some (.getfield 47, 3, 8, 23, 4028) := by decide +kernel
theorem c_178_71 : zcode 178 71 = some (.aload_n 0, 1, 0, 0, 0) := by decide +kernel
theorem c_178_72 : zcode 178 72 = some (.getfield 152, 3, 8, 22, 4027) := by decide +kernel
theorem c_178_75 : zcode 178 75 = some (.iload_n 1, 1, 0, 0, 0) := by decide +kernel
theorem c_178_76 : zcode 178 76 = some (.iastore, 1, 0, 0, 0) := by decide +kernel
theorem c_178_77 : zcode 178 77 = some (.aload_n 0, 1, 0, 0, 0) := by decide +kernel
theorem c_178_78 : zcode 178 78 = some (.getfield 50, 3, 8, 24, 4029) := by decide +kernel
theorem c_178_81 : zcode 178 81 = some (.aload_n 0, 1, 0, 0, 0) := by decide +kernel
theorem c_178_82 : zcode 178 82 = some (.getfield 152, 3, 8, 22, 4027) := by decide +kernel
theorem c_178_85 : zcode 178 85 = some (.iload_n 2, 1, 0, 0, 0) := by decide +kernel
theorem c_178_86 : zcode 178 86 = some (.iastore, 1, 0, 0, 0) := by decide +kernel
theorem c_178_87 : zcode 178 87 = some (.aload_n 0, 1, 0, 0, 0) := by decide +kernel
theorem c_178_88 : zcode 178 88 = some (.getfield 53, 3, 8, 25, 4030) := by decide +kernel
theorem c_178_91 : zcode 178 91 = some (.aload_n 0, 1, 0, 0, 0) := by decide +kernel
theorem c_178_92 : zcode 178 92 = some (.getfield 152, 3, 8, 22, 4027) := by decide +kernel
theorem c_178_95 : zcode 178 95 = some (.iload_n 3, 1, 0, 0, 0) := by decide +kernel
theorem c_178_96 : zcode 178 96 = some (.iastore, 1, 0, 0, 0) := by decide +kernel
theorem c_178_97 : zcode 178 97 = some (.aload_n 0, 1, 0, 0, 0) := by decide +kernel
theorem c_178_98 : zcode 178 98 = some (.getfield 56, 3, 8, 26, 4031) := by decide +kernel
theorem c_178_101 : zcode 178 101 = some (.aload_n 0, 1, 0, 0, 0) := by decide +kernel
theorem c_178_102 : zcode 178 102 = some (.getfield 152, 3, 8, 22, 4027) := by decide +kernel
theorem c_178_105 : zcode 178 105 = some (.iload 4, 2, 0, 0, 0) := by decide +kernel
theorem c_178_107 : zcode 178 107 = some (.iastore, 1, 0, 0, 0) := by decide +kernel
theorem c_178_108 : zcode 178 108 = some (.aload_n 0, 1, 0, 0, 0) := by decide +kernel
theorem c_178_109 : zcode 178 109 = some (.dup, 1, 0, 0, 0) := by decide +kernel
theorem c_178_110 : zcode 178 110 = some (.getfield 152, 3, 8, 22, 4027) := by decide +kernel
theorem c_178_113 : zcode 178 113 = some (.iconst 1, 1, 0, 0, 0) := by decide +kernel
theorem c_178_114 : zcode 178 114 = some (.iadd, 1, 0, 0, 0) := by decide +kernel
theorem c_178_115 : zcode 178 115 = some (.putfield 152, 3, 8, 22, 4027) := by decide +kernel
theorem c_178_118 : zcode 178 118 = some (.aload_n 0, 1, 0, 0, 0) := by decide +kernel
theorem c_178_119 : zcode 178 119 = some (.getfield 152, 3, 8, 22, 4027) := by decide +kernel
theorem c_178_122 : zcode 178 122 = some (.ireturn, 1, 0, 0, 0) := by decide +kernel
theorem c_179_0 : zcode 179 0 = some (.aload_n 0, 1, 0, 0, 0) := by decide +kernel
theorem c_179_1 : zcode 179 1 = some (.iconst 0, 1, 0, 0, 0) := by decide +kernel
theorem c_179_2 : zcode 179 2 = some (.putfield 71, 3, 8, 0, 4005) := by decide +kernel
theorem c_179_5 : zcode 179 5 = some (.aload_n 0, 1, 0, 0, 0) := by decide +kernel
theorem c_179_6 : zcode 179 6 = some (.getfield 152, 3, 8, 22, 4027) := by decide +kernel
theorem c_179_9 : zcode 179 9 = some (.istore_n 1, 1, 0, 0, 0) := by decide +kernel
theorem c_179_10 : zcode 179 10 = some (.aload_n 0, 1, 0, 0, 0) := by decide +kernel
theorem c_179_11 : zcode 179 11 = some (.iconst 0, 1, 0, 0, 0) := by decide +kernel
theorem c_179_12 : zcode 179 12 = some (.putfield 152, 3, 8, 22, 4027) := by decide +kernel
theorem c_179_15 : zcode 179 15 = some (.iload_n 1, 1, 0, 0, 0) := by decide +kernel
theorem c_179_16 : zcode 179 16 = some (.ireturn, 1, 0, 0, 0) := by decide +kernel
theorem c_180_0 : zcode 180 0 = some (.aload_n 0, 1, 0, 0, 0) := by decide +kernel
theorem c_180_1 : zcode 180 1 = some (.iconst 0, 1, 0, 0, 0) := by decide +kernel
theorem c_180_2 : zcode 180 2 = some (.putfield 71, 3, 8, 0, 4005) := by decide +kernel
theorem c_180_5 : zcode 180 5 = some (.iconst 0, 1, 0, 0, 0) := by decide +kernel
theorem c_180_6 : zcode 180 6 = some (.istore_n 1, 1, 0, 0, 0) := by decide +kernel
theorem c_180_7 : zcode 180 7 = some (.iconst 0, 1, 0, 0, 0) := by decide +kernel
theorem c_180_8 : zcode 180 8 = some (.istore_n 2, 1, 0, 0, 0) := by decide +kernel
theorem c_180_9 : zcode 180 9 = some (.iload_n 2, 1, 0, 0, 0) := by decide +kernel
theorem c_180_10 : zcode 180 10 = some (.iconst 4, 1, 0, 0, 0) := by decide +kernel
theorem c_180_11 : zcode 180 11 = some (.if_icmp .ge 103, 3, 114, 0, 0) := by decide +kernel
theorem c_180_14 : zcode 180 14 = some (.iconst 1, 1, 0, 0, 0) := by decide +kernel
theorem c_180_15 : zcode 180 15 = some (.istore_n 3, 1, 0, 0, 0) := by decide +kernel
theorem c_180_16 : zcode 180 16 = some (.iconst 0, 1, 0, 0, 0) := by decide +kernel
theorem c_180_17 : zcode 180 17 = some (.istore 4, 2, 0, 0, 0) := by decide +kernel
theorem c_180_19 : zcode 180 19 = some (.iload 4, 2, 0, 0, 0) := by decide +kernel
theorem c_180_21 : zcode 180 21 = some (.aload_n 0, 1, 0, 0, 0) := by decide +kernel
theorem c_180_22 : zcode 180 22 = some (.getfield 152, 3, 8, 22, 4027) := by decide +kernel
theorem c_180_25 : zcode 180 25 = some (.if_icmp .ge 69, 3, 94, 0, 0) := by decide +kernel
theorem c_180_28 : zcode 180 28 = some (.iload_n 3, 1, 0, 0, 0) := by decide +kernel
theorem c_180_29 : zcode 180 29 = some (.ifCond .eq 57, 3, 86, 0, 0) := by decide +kernel
theorem c_180_32 : zcode 180 32 = some (.aload_n 0, 1, 0, 0, 0) := by decide +kernel
theorem c_180_33 : zcode 180 33 = some (.aload_n 0, 1, 0, 0, 0) := by decide +kernel
theorem c_180_34 : zcode 180 34 = some (.getfield 47, 3, 8, 23, 4028) := by decide +kernel
theorem c_180_37 : zcode 180 37 = some (.iload 4, 2, 0, 0, 0) := by decide +kernel
theorem c_180_39 : zcode 180 39 = some (.iaload, 1, 0, 0, 0) := by decide +kernel
theorem c_180_40 : zcode 180 40 = some (.invokevirtual 169, 3, 123, 0, 4219) := by decide +kernel
theorem c_180_43 : zcode 180 43 = some (.ifCond .ne 39, 3, 82, 0, 0) := by decide +kernel
theorem c_180_46 : zcode 180 46 = some (.aload_n 0, 1, 0, 0, 0) := by decide +kernel
theorem c_180_47 : zcode 180 47 = some (.aload_n 0, 1, 0, 0, 0) := by decide +kernel
theorem c_180_48 : zcode 180 48 = some (.getfield 47, 3, 8, 23, 4028) := by decide +kernel
theorem c_180_51 : zcode 180 51 = some (.iload 4, 2, 0, 0, 0) := by decide +kernel
theorem c_180_53 : zcode 180 53 = some (.iaload, 1, 0, 0, 0) := by decide +kernel
theorem c_180_54 : zcode 180 54 = some (.aload_n 0, 1, 0, 0, 0) := by decide +kernel
theorem c_180_55 : zcode 180 55 = some (.getfield 53, 3, 8, 25, 4030) := by decide +kernel
theorem c_180_58 : zcode 180 58 = some (.iload 4, 2, 0, 0, 0) := by decide +kernel
theorem c_180_60 : zcode 180 60 = some (.iaload, 1, 0, 0, 0) := by decide +kernel
theorem c_180_61 : zcode 180 61 = some (.iload_n 2, 1, 0, 0, 0) := by decide +kernel
theorem c_180_62 : zcode 180 62 = some (.aload_n 0, 1, 0, 0, 0) := by decide +kernel
theorem c_180_63 : zcode 180 63 = some (.getfield 50, 3, 8, 24, 4029) := by decide +kernel
theorem c_180_66 : zcode 180 66 = some (.iload 4, 2, 0, 0, 0) := by decide +kernel
theorem c_180_68 : zcode 180 68 = some (.iaload, 1, 0, 0, 0) := by decide +kernel
theorem c_180_69 : zcode 180 69 = some (.invokevirtual 133, 3, 136, 0, 4232) := by decide +kernel
theorem c_180_72 : zcode 180 72 = some (.aload_n 0, 1, 0, 0, 0) := by decide +kernel
theorem c_180_73 : zcode 180 73 = some (.getfield 56, 3, 8, 26, 4031) := by decide +kernel
theorem c_180_76 : zcode 180 76 = some (.iload 4, 2, 0, 0, 0) := by decide +kernel
theorem c_180_78 : zcode 180 78 = some (.iaload, 1, 0, 0, 0) := by decide +kernel
theorem c_180_79 : zcode 180 79 = some (.if_icmp .ne 7, 3, 86, 0, 0) := by decide +kernel
theorem c_180_82 : zcode 180 82 = some (.iconst 1, 1, 0, 0, 0) := by decide +kernel
theorem c_180_83 : zcode 180 83 = some (.goto 4, 3, 87, 0, 0) := by decide +kernel
theorem c_180_86 : zcode 180 86 = some (.iconst 0, 1, 0, 0, 0) := by decide +kernel
theorem c_180_87 : zcode 180 87 = some (.istore_n 3, 1, 0, 0, 0) := by decide +kernel
theorem c_180_88 : zcode 180 88 = some (.iinc 4 1, 3, 0, 0, 0) := by decide +kernel
theorem c_180_91 : zcode 180 91 = some (.goto (-72), 3, 19, 0, 0) := by decide +kernel
theorem c_180_94 : zcode 180 94 = some (.iload_n 1, 1, 0, 0, 0) := by decide +kernel
theorem c_180_95 : zcode 180 95 = some (.iload_n 3, 1, 0, 0, 0) := by decide +kernel
theorem c_180_96 : zcode 180 96 = some (.ifCond .eq 9, 3, 105, 0, 0) := by decide +kernel
theorem c_180_99 : zcode 180 99 = some (.iconst 1, 1, 0, 0, 0) := by decide +kernel
theorem c_180_100 : zcode 180 100 = some (.iload_n 2, 1, 0, 0, 0) := by decide +kernel
theorem c_180_101 : zcode 180 101 = some (.ishl, 1, 0, 0, 0) := by decide +kernel
theorem c_180_102 : zcode 180 102 = some (.goto 4, 3, 106, 0, 0) := by decide +kernel
theorem c_180_105 : zcode 180 105 = some (.iconst 0, 1, 0, 0, 0) := by decide +kernel
theorem c_180_106 : zcode 180 106 = some (.ior, 1, 0, 0, 0) := by decide +kernel
theorem c_180_107 : zcode 180 107 = some (.istore_n 1, 1, 0, 0, 0) := by decide +kernel
theorem c_180_108 : zcode 180 108 = some (.iinc 2 1, 3, 0, 0, 0) := by decide +kernel
theorem c_180_111 : zcode 180 111 = some (.goto (-102), 3, 9, 0, 0) := by decide +kernel
theorem c_180_114 : zcode 180 114 = some (.iload_n 1, 1, 0, 0, 0) := by decide +kernel
theorem c_180_115 : zcode 180 115 = some (.ireturn, 1, 0, 0, 0) := by decide +kernel
theorem c_181_0 : zcode 181 0 = some (.aload_n 0, 1, 0, 0, 0) := by decide +kernel
theorem c_181_1 : zcode 181 1 = some (.getfield 31, 3, 8, 16, 4021) := by decide +kernel
theorem c_181_4 : zcode 181 4 = some (.iconst 0, 1, 0, 0, 0) := by decide +kernel
theorem c_181_5 : zcode 181 5 = some (.iaload, 1, 0, 0, 0) := by decide +kernel
theorem c_181_6 : zcode 181 6 = some (.istore_n 3, 1, 0, 0, 0) := by decide +kernel
theorem c_181_7 : zcode 181 7 = some (.aload_n 0, 1, 0, 0, 0) := by decide +kernel
theorem c_181_8 : zcode 181 8 = some (.getfield 31, 3, 8, 16, 4021) := by decide +kernel
theorem c_181_11 : zcode 181 11 = some (.iconst 2, 1, 0, 0, 0) := by decide +kernel
theorem c_181_12 : zcode 181 12 = some (.iaload, 1, 0, 0, 0) := by decide +kernel
theorem c_181_13 : zcode 181 13 = some (.istore 4, 2, 0, 0, 0) := by decide +kernel
theorem c_181_15 : zcode 181 15 = some (.iconst 0, 1, 0, 0, 0) := by decide +kernel
theorem c_181_16 : zcode 181 16 = some (.istore 5, 2, 0, 0, 0) := by decide +kernel
theorem c_181_18 : zcode 181 18 = some (.iload 5, 2, 0, 0, 0) := by decide +kernel
theorem c_181_20 : zcode 181 20 = some (.iconst 4, 1, 0, 0, 0) := by decide +kernel
theorem c_181_21 : zcode 181 21 = some (.if_icmp .ge 87, 3, 108, 0, 0) := by decide +kernel
theorem c_181_24 : zcode 181 24 = some (.iload 5, 2, 0, 0, 0) := by decide +kernel
theorem c_181_26 : zcode 181 26 = some (.iconst 3, 1, 0, 0, 0) := by decide +kernel
theorem c_181_27 : zcode 181 27 = some (.if_icmp .ne 10, 3, 37, 0, 0) := by decide +kernel
theorem c_181_30 : zcode 181 30 = some (.iload 4, 2, 0, 0, 0) := by decide +kernel
theorem c_181_32 : zcode 181 32 = some (.iconst 2, 1, 0, 0, 0) := by decide +kernel
theorem c_181_33 : zcode 181 33 = some (.idiv, 1, 0, 0, 0) := by decide +kernel
theorem c_181_34 : zcode 181 34 = some (.goto 5, 3, 39, 0, 0) := by decide +kernel
theorem c_181_37 : zcode 181 37 = some (.iload 4, 2, 0, 0, 0) := by decide +kernel
theorem c_181_39 : zcode 181 39 = some (.istore 6, 2, 0, 0, 0) := by decide +kernel
theorem c_181_41 : zcode 181 41 = some (.aload_n 0, 1, 0, 0, 0) := by decide +kernel
theorem c_181_42 : zcode 181 42 = some (.getfield 65, 3, 8, 39, 4044) := by decide +kernel
theorem c_181_45 : zcode 181 45 = some (.iconst 2, 1, 0, 0, 0) := by decide +kernel
theorem c_181_46 : zcode 181 46 = some (.iload 5, 2, 0, 0, 0) := by decide +kernel
theorem c_181_48 : zcode 181 48 = some (.imul, 1, 0, 0, 0) := by decide +kernel
theorem c_181_49 : zcode 181 49 = some (.iload 5, 2, 0, 0, 0) := by decide +kernel
theorem c_181_51 : zcode 181 51 = some (.iconst 2, 1, 0, 0, 0) := by decide +kernel
theorem c_181_52 : zcode 181 52 = some (.if_icmp .ge 7, 3, 59, 0, 0) := by decide +kernel
theorem c_181_55 : zcode 181 55 = some (.iconst 2, 1, 0, 0, 0) := by decide +kernel
theorem c_181_56 : zcode 181 56 = some (.goto 13, 3, 69, 0, 0) := by decide +kernel
theorem c_181_59 : zcode 181 59 = some (.aload_n 0, 1, 0, 0, 0) := by decide +kernel
theorem c_181_60 : zcode 181 60 = some (.iload_n 3, 1, 0, 0, 0) := by decide +kernel
theorem c_181_61 : zcode 181 61 = some (.iload_n 1, 1, 0, 0, 0) := by decide +kernel
theorem c_181_62 : zcode 181 62 = some (.iload 6, 2, 0, 0, 0) := by decide +kernel
theorem c_181_64 : zcode 181 64 = some (.bipush 63, 2, 0, 0, 0) := by decide +kernel
theorem c_181_66 : zcode 181 66 = some (.invokevirtual 258, 3, 176, 0, 5112) := by decide +kernel
theorem c_181_69 : zcode 181 69 = some (.iastore, 1, 0, 0, 0) := by decide +kernel
theorem c_181_70 : zcode 181 70 = some (.aload_n 0, 1, 0, 0, 0) := by decide +kernel
theorem c_181_71 : zcode 181 71 = some (.getfield 65, 3, 8, 39, 4044) := by decide +kernel
theorem c_181_74 : zcode 181 74 = some (.iconst 2, 1, 0, 0, 0) := by decide +kernel
theorem c_181_75 : zcode 181 75 = some (.iload 5, 2, 0, 0, 0) := by decide +kernel
theorem c_181_77 : zcode 181 77 = some (.imul, 1, 0, 0, 0) := by decide +kernel
theorem c_181_78 : zcode 181 78 = some (.iconst 1, 1, 0, 0, 0) := by decide +kernel
theorem c_181_79 : zcode 181 79 = some (.iadd, 1, 0, 0, 0) := by decide +kernel
theorem c_181_80 : zcode 181 80 = some (.iload 5, 2, 0, 0, 0) := by decide +kernel
theorem c_181_82 : zcode 181 82 = some (.iconst 2, 1, 0, 0, 0) := by decide +kernel
theorem c_181_83 : zcode 181 83 = some (.irem, 1, 0, 0, 0) := by decide +kernel
theorem c_181_84 : zcode 181 84 = some (.ifCond .ne 7, 3, 91, 0, 0) := by decide +kernel
theorem c_181_87 : zcode 181 87 = some (.iconst 2, 1, 0, 0, 0) := by decide +kernel
theorem c_181_88 : zcode 181 88 = some (.goto 13, 3, 101, 0, 0) := by decide +kernel
theorem c_181_91 : zcode 181 91 = some (.aload_n 0, 1, 0, 0, 0) := by decide +kernel
theorem c_181_92 : zcode 181 92 = some (.iload_n 3, 1, 0, 0, 0) := by decide +kernel
theorem c_181_93 : zcode 181 93 = some (.iload_n 2, 1, 0, 0, 0) := by decide +kernel
theorem c_181_94 : zcode 181 94 = some (.iload 6, 2, 0, 0, 0) := by decide +kernel
theorem c_181_96 : zcode 181 96 = some (.bipush 63, 2, 0, 0, 0) := by decide +kernel
theorem c_181_98 : zcode 181 98 = some (.invokevirtual 258, 3, 176, 0, 5112) := by decide +kernel
theorem c_181_101 : zcode 181 101 = some (.iastore, 1, 0, 0, 0) := by decide +kernel
theorem c_181_102 : zcode 181 102 = some (.iinc 5 1, 3, 0, 0, 0) := by decide +kernel
theorem c_181_105 : zcode 181 105 = some (.goto (-87), 3, 18, 0, 0) := by decide +kernel
theorem c_181_108 : zcode 181 108 = some (.return_, 1, 0, 0, 0) := by decide +kernel
theorem c_182_0 : zcode 182 0 = some (.aload_n 0, 1, 0, 0, 0) := by decide +kernel
theorem c_182_1 : zcode 182 1 = some (.iconst 0, 1, 0, 0, 0) := by decide +kernel
theorem c_182_2 : zcode 182 2 = some (.putfield 71, 3, 8, 0, 4005) := by decide +kernel
theorem c_182_5 : zcode 182 5 = some (.aload_n 0, 1, 0, 0, 0) := by decide +kernel
theorem c_182_6 : zcode 182 6 = some (.iload_n 1, 1, 0, 0, 0) := by decide +kernel
theorem c_182_7 : zcode 182 7 = some (.invokevirtual 163, 3, 122, 0, 4211) := by decide +kernel
theorem c_182_10 : zcode 182 10 = some (.ifCond .ne 11, 3, 21, 0, 0) := by decide +kernel
theorem c_182_13 : zcode 182 13 = some (.aload_n 0, 1, 0, 0, 0) := by decide +kernel
theorem c_182_14 : zcode 182 14 = some (.iload_n 2, 1, 0, 0, 0) := by decide +kernel
theorem c_182_15 : zcode 182 15 = some (.invokevirtual 163, 3, 122, 0, 4211) := by decide +kernel
theorem c_182_18 : zcode 182 18 = some (.ifCond .eq 5, 3, 23, 0, 0) := by decide +kernel
theorem c_182_21 : zcode 182 21 = some (.iconst (-1), 1, 0, 0, 0) := by decide +kernel
theorem c_182_22 : zcode 182 22 = some (.ireturn, 1, 0, 0, 0) := by decide +kernel
theorem c_182_23 : zcode 182 23 = some (.iload_n 1, 1, 0, 0, 0) := by decide +kernel
theorem c_182_24 : zcode 182 24 = some (.iload_n 2, 1, 0, 0, 0) := by decide +kernel
theorem c_182_25 : zcode 182 25 = some (.if_icmp .eq 13, 3, 38, 0, 0) := by decide +kernel
theorem c_182_28 : zcode 182 28 = some (.iload_n 3, 1, 0, 0, 0) := by decide +kernel
theorem c_182_29 : zcode 182 29 = some (.i2l, 1, 0, 0, 0) := by decide +kernel
theorem c_182_30 : zcode 182 30 = some (.lconst 0, 1, 0, 0, 0) := by decide +kernel
theorem c_182_31 : zcode 182 31 = some (.lconst 1, 1, 0, 0, 0) := by decide +kernel
theorem c_182_32 : zcode 182 32 = some (.invokestatic 78, 3, 117, 0, 4135) := by decide +kernel
theorem c_182_35 : zcode 182 35 = some (.ifCond .ne 6, 3, 41, 0, 0) := by decide +kernel
theorem c_182_38 : zcode 182 38 = some (.bipush (-2), 2, 0, 0, 0) := by decide +kernel
theorem c_182_40 : zcode 182 40 = some (.ireturn, 1, 0, 0, 0) := by decide +kernel
theorem c_182_41 : zcode 182 41 = some (.aload_n 0, 1, 0, 0, 0) := by decide +kernel
theorem c_182_42 : zcode 182 42 = some (.getfield 31, 3, 8, 16, 4021) := by decide +kernel
theorem c_182_45 : zcode 182 45 = some (.iconst 0, 1, 0, 0, 0) := by decide +kernel
theorem c_182_46 : zcode 182 46 = some (.iaload, 1, 0, 0, 0) := by decide +kernel
theorem c_182_47 : zcode 182 47 = some (.bipush (-9), 2, 0, 0, 0) := by decide +kernel
theorem c_182_49 : zcode 182 49 = some (.if_icmp .ne 6, 3, 55, 0, 0) := by decide +kernel
theorem c_182_52 : zcode 182 52 = some (.bipush (-3), 2, 0, 0, 0) := by decide +kernel
theorem c_182_54 : zcode 182 54 = some (.ireturn, 1, 0, 0, 0) := by decide +kernel
theorem c_182_55 : zcode 182 55 = some (.aload_n 0, 1, 0, 0, 0) := by decide +kernel
theorem c_182_56 : zcode 182 56 = some (.iload_n 1, 1, 0, 0, 0) := by decide +kernel
theorem c_182_57 : zcode 182 57 = some (.iload_n 2, 1, 0, 0, 0) := by decide +kernel
theorem c_182_58 : zcode 182 58 = some (.invokevirtual 273, 3, 181, 0, 5145) := by decide +kernel
theorem c_182_61 : zcode 182 61 = some (.aload_n 0, 1, 0, 0, 0) := by decide +kernel
theorem c_182_62 : zcode 182 62 = some (.iconst 0, 1, 0, 0, 0) := by decide +kernel
theorem c_182_63 : zcode 182 63 = some (.putfield 276, 3, 8, 37, 4042) := by decide +kernel
theorem c_182_66 : zcode 182 66 = some (.aload_n 0, 1, 0, 0, 0) := by decide +kernel
theorem c_182_67 : zcode 182 67 = some (.bipush (-9), 2, 0, 0, 0) := by decide +kernel
theorem c_182_69 : zcode 182 69 = some (.putfield 279, 3, 8, 38, 4043) := by decide +kernel
theorem c_182_72 : zcode 182 72 = some (.iconst 0, 1, 0, 0, 0) := by decide +kernel
theorem c_182_73 : zcode 182 73 = some (.istore 4, 2, 0, 0, 0) := by decide +kernel
theorem c_182_75 : zcode 182 75 = some (.iload 4, 2, 0, 0, 0) := by decide +kernel
theorem c_182_77 : zcode 182 77 = some (.iconst 4, 1, 0, 0, 0) := by decide +kernel
theorem c_182_78 : zcode 182 78 = some (.if_icmp .ge 120, 3, 198, 0, 0) := by decide +kernel
theorem c_182_81 : zcode 182 81 = some (.aload_n 0, 1, 0, 0, 0) := by decide +kernel
theorem c_182_82 : zcode 182 82 = some (.getfield 65, 3, 8, 39, 4044) := by decide +kernel
theorem c_182_85 : zcode 182 85 = some (.iconst 2, 1, 0, 0, 0) := by decide +kernel
theorem c_182_86 : zcode 182 86 = some (.iload 4, 2, 0, 0, 0) := by decide +kernel
theorem c_182_88 : zcode 182 88 = some (.iconst 2, 1, 0, 0, 0) := by decide +kernel
theorem c_182_89 : zcode 182 89 = some (.ixor, 1, 0, 0, 0) := by decide +kernel
theorem c_182_90 : zcode 182 90 = some (.imul, 1, 0, 0, 0) := by decide +kernel
theorem c_182_91 : zcode 182 91 = some (.iaload, 1, 0, 0, 0) := by decide +kernel
theorem c_182_92 : zcode 182 92 = some (.aload_n 0, 1, 0, 0, 0) := by decide +kernel
theorem c_182_93 : zcode 182 93 = some (.getfield 65, 3, 8, 39, 4044) := by decide +kernel
theorem c_182_96 : zcode 182 96 = some (.iconst 2, 1, 0, 0, 0) := by decide +kernel
theorem c_182_97 : zcode 182 97 = some (.iload 4, 2, 0, 0, 0) := by decide +kernel
theorem c_182_99 : zcode 182 99 = some (.imul, 1, 0, 0, 0) := by decide +kernel
theorem c_182_100 : zcode 182 100 = some (.iaload, 1, 0, 0, 0) := by decide +kernel
theorem c_182_101 : zcode 182 101 = some (.if_icmp .gt 34, 3, 135, 0, 0) := by decide +kernel
theorem c_182_104 : zcode 182 104 = some (.aload_n 0, 1, 0, 0, 0) := by decide +kernel
theorem c_182_105 : zcode 182 105 = some (.getfield 65, 3, 8, 39, 4044) := by decide +kernel
theorem c_182_108 : zcode 182 108 = some (.iconst 2, 1, 0, 0, 0) := by decide +kernel
theorem c_182_109 : zcode 182 109 = some (.iload 4, 2, 0, 0, 0) := by decide +kernel
theorem c_182_111 : zcode 182 111 = some (.iconst 1, 1, 0, 0, 0) := by decide +kernel
theorem c_182_112 : zcode 182 112 = some (.ixor, 1, 0, 0, 0) := by decide +kernel
theorem c_182_113 : zcode 182 113 = some (.imul, 1, 0, 0, 0) := by decide +kernel
theorem c_182_114 : zcode 182 114 = some (.iconst 1, 1, 0, 0, 0) := by decide +kernel
theorem c_182_115 : zcode 182 115 = some (.iadd, 1, 0, 0, 0) := by decide +kernel
theorem c_182_116 : zcode 182 116 = some (.iaload, 1, 0, 0, 0) := by decide +kernel
theorem c_182_117 : zcode 182 117 = some (.aload_n 0, 1, 0, 0, 0) := by decide +kernel
theorem c_182_118 : zcode 182 118 = some (.getfield 65, 3, 8, 39, 4044) := by decide +kernel
theorem c_182_121 : zcode 182 121 = some (.iconst 2, 1, 0, 0, 0) := by decide +kernel
theorem c_182_122 : zcode 182 122 = some (.iload 4, 2, 0, 0, 0) := by decide +kernel
theorem c_182_124 : zcode 182 124 = some (.imul, 1, 0, 0, 0) := by decide +kernel
theorem c_182_125 : zcode 182 125 = some (.iconst 1, 1, 0, 0, 0) := by decide +kernel
theorem c_182_126 : zcode 182 126 = some (.iadd, 1, 0, 0, 0) := by decide +kernel
theorem c_182_127 : zcode 182 127 = some (.iaload, 1, 0, 0, 0) := by decide +kernel
theorem c_182_128 : zcode 182 128 = some (.if_icmp .gt 7, 3, 135, 0, 0) := by decide +kernel
theorem c_182_131 : zcode 182 131 = some (.iconst 1, 1, 0, 0, 0) := by decide +kernel
theorem c_182_132 : zcode 182 132 = some (.goto 4, 3, 136, 0, 0) := by decide +kernel
theorem c_182_135 : zcode 182 135 = some (.iconst 0, 1, 0, 0, 0) := by decide +kernel
theorem c_182_136 : zcode 182 136 = some (.istore 5, 2, 0, 0, 0) := by decide +kernel
theorem c_182_138 : zcode 182 138 = some (.aload_n 0, 1, 0, 0, 0) := by decide +kernel
theorem c_182_139 : zcode 182 139 = some (.iload 5, 2, 0, 0, 0) := by decide +kernel
theorem c_182_141 : zcode 182 141 = some (.ifCond .eq 25, 3, 166, 0, 0) := by decide +kernel
theorem c_182_144 : zcode 182 144 = some (.aload_n 0, 1, 0, 0, 0) := by decide +kernel
theorem c_182_145 : zcode 182 145 = some (.getfield 276, 3, 8, 37, 4042) := by decide +kernel
theorem c_182_148 : zcode 182 148 = some (.ifCond .ne 18, 3, 166, 0, 0) := by decide +kernel
theorem c_182_151 : zcode 182 151 = some (.bipush 10, 2, 0, 0, 0) := by decide +kernel
theorem c_182_153 : zcode 182 153 = some (.iload 4, 2, 0, 0, 0) := by decide +kernel
theorem c_182_155 : zcode 182 155 = some (.iconst 2, 1, 0, 0, 0) := by decide +kernel
theorem c_182_156 : zcode 182 156 = some (.idiv, 1, 0, 0, 0) := by decide +kernel
theorem c_182_157 : zcode 182 157 = some (.imul, 1, 0, 0, 0) := by decide +kernel
theorem c_182_158 : zcode 182 158 = some (.iload 4, 2, 0, 0, 0) := by decide +kernel
theorem c_182_160 : zcode 182 160 = some (.iconst 2, 1, 0, 0, 0) := by decide +kernel
theorem c_182_161 : zcode 182 161 = some (.irem, 1, 0, 0, 0) := by decide +kernel
theorem c_182_162 : zcode 182 162 = some (.iadd, 1, 0, 0, 0) := by decide +kernel
theorem c_182_163 : zcode 182 163 = some (.goto 7, 3, 170, 0, 0) := by decide +kernel
theorem c_182_166 : zcode 182 166 = some (.aload_n 0, 1, 0, 0, 0) := by decide +kernel
theorem c_182_167 : zcode 182 167 = some (.getfield 279, 3, 8, 38, 4043) := by decide +kernel
theorem c_182_170 : zcode 182 170 = some (.putfield 279, 3, 8, 38, 4043) := by decide +kernel
theorem c_182_173 : zcode 182 173 = some (.aload_n 0, 1, 0, 0, 0) := by decide +kernel
theorem c_182_174 : zcode 182 174 = some (.dup, 1, 0, 0, 0) := by decide +kernel
theorem c_182_175 : zcode 182 175 = some (.getfield 276, 3, 8, 37, 4042) := by decide +kernel
theorem c_182_178 : zcode 182 178 = some (.iload 5, 2, 0, 0, 0) := by decide +kernel
theorem c_182_180 : zcode 182 180 = some (.ifCond .eq 7, 3, 187, 0, 0) := by decide +kernel
theorem c_182_183 : zcode 182 183 = some (.iconst 1, 1, 0, 0, 0) := by decide +kernel
theorem c_182_184 : zcode 182 184 = some (.goto 4, 3, 188, 0, 0) := by decide +kernel
theorem c_182_187 : zcode 182 187 = some (.iconst 0, 1, 0, 0, 0) := by decide +kernel
theorem c_182_188 : zcode 182 188 = some (.iadd, 1, 0, 0, 0) := by decide +kernel
theorem c_182_189 : zcode 182 189 = some (.putfield 276, 3, 8, 37, 4042) := by decide +kernel
theorem c_182_192 : zcode 182 192 = some (.iinc 4 1, 3, 0, 0, 0) := by decide +kernel
theorem c_182_195 : zcode 182 195 = some (.goto (-120), 3, 75, 0, 0) := by decide +kernel
theorem c_182_198 : zcode 182 198 = some (.iload_n 3, 1, 0, 0, 0) := by decide +kernel
theorem c_182_199 : zcode 182 199 = some (.ifCond .ne 10, 3, 209, 0, 0) := by decide +kernel
theorem c_182_202 : zcode 182 202 = some (.aload_n 0, 1, 0, 0, 0) := by decide +kernel
theorem c_182_203 : zcode 182 203 = some (.getfield 276, 3, 8, 37, 4042) := by decide +kernel
theorem c_182_206 : zcode 182 206 = some (.goto 7, 3, 213, 0, 0) := by decide +kernel
theorem c_182_209 : zcode 182 209 = some (.aload_n 0, 1, 0, 0, 0) := by decide +kernel
theorem c_182_210 : zcode 182 210 = some (.getfield 279, 3, 8, 38, 4043) := by decide +kernel
theorem c_182_213 : zcode 182 213 = some (.ireturn, 1, 0, 0, 0) := by decide +kernel
theorem c_183_0 : zcode 183 0 = some (.aload_n 0, 1, 0, 0, 0) := by decide +kernel
theorem c_183_1 : zcode 183 1 = some (.iconst 0, 1, 0, 0, 0) := by decide +kernel
theorem c_183_2 : zcode 183 2 = some (.putfield 71, 3, 8, 0, 4005) := by decide +kernel
theorem c_183_5 : zcode 183 5 = some (.iload_n 1, 1, 0, 0, 0) := by decide +kernel
theorem c_183_6 : zcode 183 6 = some (.i2l, 1, 0, 0, 0) := by decide +kernel
theorem c_183_7 : zcode 183 7 = some (.lconst 0, 1, 0, 0, 0) := by decide +kernel
theorem c_183_8 : zcode 183 8 = some (.ldc2_w 282, 3, 10, 0, 5153) := by decide +kernel
theorem c_183_11 : zcode 183 11 = some (.invokestatic 78, 3, 117, 0, 4135) := by decide +kernel
theorem c_183_14 : zcode 183 14 = some (.ifCond .ne 6, 3, 20, 0, 0) := by decide +kernel
theorem c_183_17 : zcode 183 17 = some (.bipush (-2), 2, 0, 0, 0) := by decide +kernel
theorem c_183_19 : zcode 183 19 = some (.ireturn, 1, 0, 0, 0) := by decide +kernel
theorem c_183_20 : zcode 183 20 = some (.aload_n 0, 1, 0, 0, 0) := by decide +kernel
theorem c_183_21 : zcode 183 21 = some (.getfield 31, 3, 8, 16, 4021) := by decide +kernel
theorem c_183_24 : zcode 183 24 = some (.iconst 3, 1, 0, 0, 0) := by decide +kernel
theorem c_183_25 : zcode 183 25 = some (.iaload, 1, 0, 0, 0) := by decide +kernel
theorem c_183_26 : zcode 183 26 = some (.istore_n 3, 1, 0, 0, 0) := by decide +kernel
theorem c_183_27 : zcode 183 27 = some (.iconst 0, 1, 0, 0, 0) := by decide +kernel
theorem c_183_28 : zcode 183 28 = some (.istore 4, 2, 0, 0, 0) := by decide +kernel
theorem c_183_30 : zcode 183 30 = some (.iconst 0, 1, 0, 0, 0) := by decide +kernel
theorem c_183_31 : zcode 183 31 = some (.istore 5, 2, 0, 0, 0) := by decide +kernel
theorem c_183_33 : zcode 183 33 = some (.iload 5, 2, 0, 0, 0) := by decide +kernel
theorem c_183_35 : zcode 183 35 = some (.iconst 1, 1, 0, 0, 0) := by decide +kernel
theorem c_183_36 : zcode 183 36 = some (.iload_n 3, 1, 0, 0, 0) := by decide +kernel
theorem c_183_37 : zcode 183 37 = some (.ishl, 1, 0, 0, 0) := by decide +kernel
theorem c_183_38 : zcode 183 38 = some (.if_icmp .ge 56, 3, 94, 0, 0) := by decide +kernel
theorem c_183_41 : zcode 183 41 = some (.iload 5, 2, 0, 0, 0) := by decide +kernel
theorem c_183_43 : zcode 183 43 = some (.invokestatic 261, 3, 119, 0, 5116) := by decide +kernel
theorem c_183_46 : zcode 183 46 = some (.istore 6, 2, 0, 0, 0) := by decide +kernel
theorem c_183_48 : zcode 183 48 = some (.iload 4, 2, 0, 0, 0) := by decide +kernel
theorem c_183_50 : zcode 183 50 = some (.aload_n 0, 1, 0, 0, 0) := by decide +kernel
theorem c_183_51 : zcode 183 51 = some (.aload_n 0, 1, 0, 0, 0) := by decide +kernel
theorem c_183_52 : zcode 183 52 = some (.getfield 31, 3, 8, 16, 4021) := by decide +kernel
theorem c_183_55 : zcode 183 55 = some (.iload 5, 2, 0, 0, 0) := by decide +kernel
theorem c_183_57 : zcode 183 57 = some (.invokevirtual 148, 3, 140, 0, 4188) := by decide +kernel
theorem c_183_60 : zcode 183 60 = some (.ifCond .eq 24, 3, 84, 0, 0) := by decide +kernel
theorem c_183_63 : zcode 183 63 = some (.iload_n 1, 1, 0, 0, 0) := by decide +kernel
theorem c_183_64 : zcode 183 64 = some (.iload 6, 2, 0, 0, 0) := by decide +kernel
theorem c_183_66 : zcode 183 66 = some (.invokestatic 244, 3, 120, 0, 5096) := by decide +kernel
theorem c_183_69 : zcode 183 69 = some (.bipush 10, 2, 0, 0, 0) := by decide +kernel
theorem c_183_71 : zcode 183 71 = some (.iload_n 1, 1, 0, 0, 0) := by decide +kernel
theorem c_183_72 : zcode 183 72 = some (.isub, 1, 0, 0, 0) := by decide +kernel
theorem c_183_73 : zcode 183 73 = some (.iload_n 3, 1, 0, 0, 0) := by decide +kernel
theorem c_183_74 : zcode 183 74 = some (.iload 6, 2, 0, 0, 0) := by decide +kernel
theorem c_183_76 : zcode 183 76 = some (.isub, 1, 0, 0, 0) := by decide +kernel
theorem c_183_77 : zcode 183 77 = some (.invokestatic 244, 3, 120, 0, 5096) := by decide +kernel
theorem c_183_80 : zcode 183 80 = some (.imul, 1, 0, 0, 0) := by decide +kernel
theorem c_183_81 : zcode 183 81 = some (.goto 4, 3, 85, 0, 0) := by decide +kernel
theorem c_183_84 : zcode 183 84 = some (.iconst 0, 1, 0, 0, 0) := by decide +kernel
theorem c_183_85 : zcode 183 85 = some (.iadd, 1, 0, 0, 0) := by decide +kernel
theorem c_183_86 : zcode 183 86 = some (.istore 4, 2, 0, 0, 0) := by decide +kernel
theorem c_183_88 : zcode 183 88 = some (.iinc 5 1, 3, 0, 0, 0) := by decide +kernel
theorem c_183_91 : zcode 183 91 = some (.goto (-58), 3, 33, 0, 0) := by decide +kernel
theorem c_183_94 : zcode 183 94 = some (.iload 4, 2, 0, 0, 0) := by decide +kernel
theorem c_183_96 : zcode 183 96 = some (.bipush 10, 2, 0, 0, 0) := by decide +kernel
theorem c_183_98 : zcode 183 98 = some (.iload_n 3, 1, 0, 0, 0) := by decide +kernel
theorem c_183_99 : zcode 183 99 = some (.invokestatic 244, 3, 120, 0, 5096) := by decide +kernel
theorem c_183_102 : zcode 183 102 = some (.iload_n 2, 1, 0, 0, 0) := by decide +kernel
theorem c_183_103 : zcode 183 103 = some (.invokestatic 267, 3, 175, 0, 5122) := by decide +kernel
theorem c_183_106 : zcode 183 106 = some (.ireturn, 1, 0, 0, 0) := by decide +kernel
theorem c_184_0 : zcode 184 0 = some (.aload_n 0, 1, 0, 0, 0) := by decide +kernel
theorem c_184_1 : zcode 184 1 = some (.iconst 0, 1, 0, 0, 0) := by decide +kernel
theorem c_184_2 : zcode 184 2 = some (.putfield 71, 3, 8, 0, 4005) := by decide +kernel
theorem c_184_5 : zcode 184 5 = some (.aload_n 0, 1, 0, 0, 0) := by decide +kernel
theorem c_184_6 : zcode 184 6 = some (.getfield 284, 3, 8, 27, 4032) := by decide +kernel
theorem c_184_9 : zcode 184 9 = some (.lstore_n 3, 1, 0, 0, 0) := by decide +kernel
theorem c_184_10 : zcode 184 10 = some (.aload_n 0, 1, 0, 0, 0) := by decide +kernel
theorem c_184_11 : zcode 184 11 = some (.lload_n 1, 1, 0, 0, 0) := by decide +kernel
theorem c_184_12 : zcode 184 12 = some (.putfield 284, 3, 8, 27, 4032) := by decide +kernel
theorem c_184_15 : zcode 184 15 = some (.lload_n 3, 1, 0, 0, 0) := by decide +kernel
theorem c_184_16 : zcode 184 16 = some (.lreturn, 1, 0, 0, 0) := by decide +kernel
theorem c_185_0 : zcode 185 0 = some (.aload_n 0, 1, 0, 0, 0) := by decide +kernel
theorem c_185_1 : zcode 185 1 = some (.iconst 0, 1, 0, 0, 0) := by decide +kernel
theorem c_185_2 : zcode 185 2 = some (.putfield 71, 3, 8, 0, 4005) := by decide +kernel
theorem c_185_5 : zcode 185 5 = some (.iload_n 1, 1, 0, 0, 0) := by decide +kernel
theorem c_185_6 : zcode 185 6 = some (.i2l, 1, 0, 0, 0) := by decide +kernel
theorem c_185_7 : zcode 185 7 = some (.lconst 1, 1, 0, 0, 0) := by decide +kernel
theorem c_185_8 : zcode 185 8 = some (.ldc2_w 288, 3, 30, 0, 5162) := by decide +kernel
theorem c_185_11 : zcode 185 11 = some (.invokestatic 78, 3, 117, 0, 4135) := by decide +kernel
theorem c_185_14 : zcode 185 14 = some (.ifCond .ne 6, 3, 20, 0, 0) := by decide +kernel
theorem c_185_17 : zcode 185 17 = some (.bipush (-2), 2, 0, 0, 0) := by decide +kernel
theorem c_185_19 : zcode 185 19 = some (.ireturn, 1, 0, 0, 0) := by decide +kernel
theorem c_185_20 : zcode 185 20 = some (.aload_n 0, 1, 0, 0, 0) := by decide +kernel
theorem c_185_21 : zcode 185 21 = some (.invokevirtual 225, 3, 160, 0, 5060) := by decide +kernel
theorem c_185_24 : zcode 185 24 = some (.iconst 0, 1, 0, 0, 0) := by decide +kernel
theorem c_185_25 : zcode 185 25 = some (.istore_n 2, 1, 0, 0, 0) := by decide +kernel
theorem c_185_26 : zcode 185 26 = some (.iconst 0, 1, 0, 0, 0) := by decide +kernel
theorem c_185_27 : zcode 185 27 = some (.istore_n 3, 1, 0, 0, 0) := by decide +kernel
theorem c_185_28 : zcode 185 28 = some (.iload_n 3, 1, 0, 0, 0) := by decide +kernel
theorem c_185_29 : zcode 185 29 = some (.iload_n 1, 1, 0, 0, 0) := by decide +kernel
theorem c_185_30 : zcode 185 30 = some (.if_icmp .ge 141, 3, 171, 0, 0) := by decide +kernel
theorem c_185_33 : zcode 185 33 = some (.aload_n 0, 1, 0, 0, 0) := by decide +kernel
theorem c_185_34 : zcode 185 34 = some (.aload_n 0, 1, 0, 0, 0) := by decide +kernel
theorem c_185_35 : zcode 185 35 = some (.getfield 284, 3, 8, 27, 4032) := by decide +kernel
theorem c_185_38 : zcode 185 38 = some (.ldc2_w 290, 3, 6364136223846793005, 0, 5163) := by decide +kernel
theorem c_185_41 : zcode 185 41 = some (.lmul, 1, 0, 0, 0) := by decide +kernel
theorem c_185_42 : zcode 185 42 = some (.ldc2_w 292, 3, 1442695040888963407, 0, 5164) := by decide +kernel
theorem c_185_45 : zcode 185 45 = some (.ladd, 1, 0, 0, 0) := by decide +kernel
theorem c_185_46 : zcode 185 46 = some (.putfield 284, 3, 8, 27, 4032) := by decide +kernel
theorem c_185_49 : zcode 185 49 = some (.aload_n 0, 1, 0, 0, 0) := by decide +kernel
theorem c_185_50 : zcode 185 50 = some (.getfield 284, 3, 8, 27, 4032) := by decide +kernel
theorem c_185_53 : zcode 185 53 = some (.bipush 33, 2, 0, 0, 0) := by decide +kernel
theorem c_185_55 : zcode 185 55 = some (.lushr, 1, 0, 0, 0) := by decide +kernel
theorem c_185_56 : zcode 185 56 = some (.ldc2_w 294, 3, 28, 0, 5165) := by decide +kernel
theorem c_185_59 : zcode 185 59 = some (.lrem, 1, 0, 0, 0) := by decide +kernel
theorem c_185_60 : zcode 185 60 = some (.l2i, 1, 0, 0, 0) := by decide +kernel
theorem c_185_61 : zcode 185 61 = some (.istore 4, 2, 0, 0, 0) := by decide +kernel
theorem c_185_63 : zcode 185 63 = some (.iload 4, 2, 0, 0, 0) := by decide +kernel
theorem c_185_65 : zcode 185 65 = some (.bipush 16, 2, 0, 0, 0) := by decide +kernel
theorem c_185_67 : zcode 185 67 = some (.if_icmp .ge 44, 3, 111, 0, 0) := by decide +kernel
theorem c_185_70 : zcode 185 70 = some (.aload_n 0, 1, 0, 0, 0) := by decide +kernel
theorem c_185_71 : zcode 185 71 = some (.iload 4, 2, 0, 0, 0) := by decide +kernel
theorem c_185_73 : zcode 185 73 = some (.iconst 4, 1, 0, 0, 0) := by decide +kernel
theorem c_185_74 : zcode 185 74 = some (.idiv, 1, 0, 0, 0) := by decide +kernel
theorem c_185_75 : zcode 185 75 = some (.invokevirtual 155, 3, 121, 0, 4199) := by decide +kernel
theorem c_185_78 : zcode 185 78 = some (.ifCond .ne 87, 3, 165, 0, 0) := by decide +kernel
theorem c_185_81 : zcode 185 81 = some (.aload_n 0, 1, 0, 0, 0) := by decide +kernel
theorem c_185_82 : zcode 185 82 = some (.iload 4, 2, 0, 0, 0) := by decide +kernel
theorem c_185_84 : zcode 185 84 = some (.iconst 4, 1, 0, 0, 0) := by decide +kernel
theorem c_185_85 : zcode 185 85 = some (.irem, 1, 0, 0, 0) := by decide +kernel
theorem c_185_86 : zcode 185 86 = some (.invokevirtual 163, 3, 122, 0, 4211) := by decide +kernel
theorem c_185_89 : zcode 185 89 = some (.ifCond .ne 76, 3, 165, 0, 0) := by decide +kernel
theorem c_185_92 : zcode 185 92 = some (.aload_n 0, 1, 0, 0, 0) := by decide +kernel
theorem c_185_93 : zcode 185 93 = some (.aload_n 0, 1, 0, 0, 0) := by decide +kernel
theorem c_185_94 : zcode 185 94 = some (.getfield 34, 3, 8, 17, 4022) := by decide +kernel
theorem c_185_97 : zcode 185 97 = some (.iload 4, 2, 0, 0, 0) := by decide +kernel
theorem c_185_99 : zcode 185 99 = some (.iconst 4, 1, 0, 0, 0) := by decide +kernel
theorem c_185_100 : zcode 185 100 = some (.idiv, 1, 0, 0, 0) := by decide +kernel
theorem c_185_101 : zcode 185 101 = some (.iload 4, 2, 0, 0, 0) := by decide +kernel
theorem c_185_103 : zcode 185 103 = some (.iconst 4, 1, 0, 0, 0) := by decide +kernel
theorem c_185_104 : zcode 185 104 = some (.irem, 1, 0, 0, 0) := by decide +kernel
theorem c_185_105 : zcode 185 105 = some (.invokevirtual 183, 3, 149, 0, 5013) := by decide +kernel
theorem c_185_108 : zcode 185 108 = some (.goto 57, 3, 165, 0, 0) := by decide +kernel
theorem c_185_111 : zcode 185 111 = some (.iload 4, 2, 0, 0, 0) := by decide +kernel
theorem c_185_113 : zcode 185 113 = some (.bipush 22, 2, 0, 0, 0) := by decide +kernel
theorem c_185_115 : zcode 185 115 = some (.if_icmp .ge 39, 3, 154, 0, 0) := by decide +kernel
theorem c_185_118 : zcode 185 118 = some (.iload_n 2, 1, 0, 0, 0) := by decide +kernel
theorem c_185_119 : zcode 185 119 = some (.aload_n 0, 1, 0, 0, 0) := by decide +kernel
theorem c_185_120 : zcode 185 120 = some (.iconst 0, 1, 0, 0, 0) := by decide +kernel
theorem c_185_121 : zcode 185 121 = some (.iload 4, 2, 0, 0, 0) := by decide +kernel
theorem c_185_123 : zcode 185 123 = some (.bipush 16, 2, 0, 0, 0) := by decide +kernel
theorem c_185_125 : zcode 185 125 = some (.isub, 1, 0, 0, 0) := by decide +kernel
theorem c_185_126 : zcode 185 126 = some (.invokevirtual 252, 3, 171, 0, 5104) := by decide +kernel
theorem c_185_129 : zcode 185 129 = some (.ifCond .eq 19, 3, 148, 0, 0) := by decide +kernel
theorem c_185_132 : zcode 185 132 = some (.aload_n 0, 1, 0, 0, 0) := by decide +kernel
theorem c_185_133 : zcode 185 133 = some (.aload_n 0, 1, 0, 0, 0) := by decide +kernel
theorem c_185_134 : zcode 185 134 = some (.getfield 34, 3, 8, 17, 4022) := by decide +kernel
theorem c_185_137 : zcode 185 137 = some (.iconst 0, 1, 0, 0, 0) := by decide +kernel
theorem c_185_138 : zcode 185 138 = some (.invokevirtual 148, 3, 140, 0, 4188) := by decide +kernel
theorem c_185_141 : zcode 185 141 = some (.ifCond .eq 7, 3, 148, 0, 0) := by decide +kernel
theorem c_185_144 : zcode 185 144 = some (.iconst 1, 1, 0, 0, 0) := by decide +kernel
theorem c_185_145 : zcode 185 145 = some (.goto 4, 3, 149, 0, 0) := by decide +kernel
theorem c_185_148 : zcode 185 148 = some (.iconst 0, 1, 0, 0, 0) := by decide +kernel
theorem c_185_149 : zcode 185 149 = some (.iadd, 1, 0, 0, 0) := by decide +kernel
theorem c_185_150 : zcode 185 150 = some (.istore_n 2, 1, 0, 0, 0) := by decide +kernel
theorem c_185_151 : zcode 185 151 = some (.goto 14, 3, 165, 0, 0) := by decide +kernel
theorem c_185_154 : zcode 185 154 = some (.aload_n 0, 1, 0, 0, 0) := by decide +kernel
theorem c_185_155 : zcode 185 155 = some (.iconst 2, 1, 0, 0, 0) := by decide +kernel
theorem c_185_156 : zcode 185 156 = some (.iload 4, 2, 0, 0, 0) := by decide +kernel
theorem c_185_158 : zcode 185 158 = some (.bipush 21, 2, 0, 0, 0) := by decide +kernel
theorem c_185_160 : zcode 185 160 = some (.isub, 1, 0, 0, 0) := by decide +kernel
theorem c_185_161 : zcode 185 161 = some (.invokevirtual 252, 3, 171, 0, 5104) := by decide +kernel
theorem c_185_164 : zcode 185 164 = some (.pop, 1, 0, 0, 0) := by decide +kernel
theorem c_185_165 : zcode 185 165 = some (.iinc 3 1, 3, 0, 0, 0) := by decide +kernel
theorem c_185_168 : zcode 185 168 = some (.goto (-140), 3, 28, 0, 0) := by decide +kernel
theorem c_185_171 : zcode 185 171 = some (.iload_n 2, 1, 0, 0, 0) := by decide +kernel
theorem c_185_172 : zcode 185 172 = some (.ireturn, 1, 0, 0, 0) := by decide +kernel
theorem c_186_0 : zcode 186 0 = some (.aload_n 0, 1, 0, 0, 0) := by decide +kernel
theorem c_186_1 : zcode 186 1 = some (.iconst 0, 1, 0, 0, 0) := by decide +kernel
theorem c_186_2 : zcode 186 2 = some (.putfield 71, 3, 8, 0, 4005) := by decide +kernel
theorem c_186_5 : zcode 186 5 = some (.iload_n 1, 1, 0, 0, 0) := by decide +kernel
theorem c_186_6 : zcode 186 6 = some (.i2l, 1, 0, 0, 0) := by decide +kernel
theorem c_186_7 : zcode 186 7 = some (.lconst 0, 1, 0, 0, 0) := by decide +kernel
theorem c_186_8 : zcode 186 8 = some (.lconst 1, 1, 0, 0, 0) := by decide +kernel
theorem c_186_9 : zcode 186 9 = some (.invokestatic 78, 3, 117, 0, 4135) := by decide +kernel
theorem c_186_12 : zcode 186 12 = some (.ifCond .ne 5, 3, 17, 0, 0) := by decide +kernel
theorem c_186_15 : zcode 186 15 = some (.iconst (-1), 1, 0, 0, 0) := by decide +kernel
theorem c_186_16 : zcode 186 16 = some (.ireturn, 1, 0, 0, 0) := by decide +kernel
theorem c_186_17 : zcode 186 17 = some (.aload_n 0, 1, 0, 0, 0) := by decide +kernel
theorem c_186_18 : zcode 186 18 = some (.getfield 43, 3, 8, 21, 4026) := by decide +kernel
theorem c_186_21 : zcode 186 21 = some (.iload_n 1, 1, 0, 0, 0) := by decide +kernel
theorem c_186_22 : zcode 186 22 = some (.iconst 1, 1, 0, 0, 0) := by decide +kernel
theorem c_186_23 : zcode 186 23 = some (.bastore, 1, 0, 0, 0) := by decide +kernel
theorem c_186_24 : zcode 186 24 = some (.iconst 0, 1, 0, 0, 0) := by decide +kernel
theorem c_186_25 : zcode 186 25 = some (.istore_n 2, 1, 0, 0, 0) := by decide +kernel
theorem c_186_26 : zcode 186 26 = some (.iload_n 2, 1, 0, 0, 0) := by decide +kernel
theorem c_186_27 : zcode 186 27 = some (.bipush 10, 2, 0, 0, 0) := by decide +kernel
theorem c_186_29 : zcode 186 29 = some (.if_icmp .ge 26, 3, 55, 0, 0) := by decide +kernel
theorem c_186_32 : zcode 186 32 = some (.aload_n 0, 1, 0, 0, 0) := by decide +kernel
theorem c_186_33 : zcode 186 33 = some (.getfield 40, 3, 8, 20, 4025) := by decide +kernel
theorem c_186_36 : zcode 186 36 = some (.bipush 10, 2, 0, 0, 0) := by decide +kernel
theorem c_186_38 : zcode 186 38 = some (.iload_n 1, 1, 0, 0, 0) := by decide +kernel
theorem c_186_39 : zcode 186 39 = some (.imul, 1, 0, 0, 0) := by decide +kernel
theorem c_186_40 : zcode 186 40 = some (.iload_n 2, 1, 0, 0, 0) := by decide +kernel
theorem c_186_41 : zcode 186 41 = some (.iadd, 1, 0, 0, 0) := by decide +kernel
theorem c_186_42 : zcode 186 42 = some (.aload_n 0, 1, 0, 0, 0) := by decide +kernel
theorem c_186_43 : zcode 186 43 = some (.getfield 31, 3, 8, 16, 4021) := by decide +kernel
theorem c_186_46 : zcode 186 46 = some (.iload_n 2, 1, 0, 0, 0) := by decide +kernel
theorem c_186_47 : zcode 186 47 = some (.iaload, 1, 0, 0, 0) := by decide +kernel
theorem c_186_48 : zcode 186 48 = some (.iastore, 1, 0, 0, 0) := by decide +kernel
theorem c_186_49 : zcode 186 49 = some (.iinc 2 1, 3, 0, 0, 0) := by decide +kernel
theorem c_186_52 : zcode 186 52 = some (.goto (-26), 3, 26, 0, 0) := by decide +kernel
theorem c_186_55 : zcode 186 55 = some (.aload_n 0, 1, 0, 0, 0) := by decide +kernel
theorem c_186_56 : zcode 186 56 = some (.getfield 31, 3, 8, 16, 4021) := by decide +kernel
theorem c_186_59 : zcode 186 59 = some (.iconst 2, 1, 0, 0, 0) := by decide +kernel
theorem c_186_60 : zcode 186 60 = some (.iaload, 1, 0, 0, 0) := by decide +kernel
theorem c_186_61 : zcode 186 61 = some (.ireturn, 1, 0, 0, 0) := by decide +kernel
theorem c_187_0 : zcode 187 0 = some (.aload_n 0, 1, 0, 0, 0) := by decide +kernel
theorem c_187_1 : zcode 187 1 = some (.iconst 0, 1, 0, 0, 0) := by decide +kernel
theorem c_187_2 : zcode 187 2 = some (.putfield 71, 3, 8, 0, 4005) := by decide +kernel
theorem c_187_5 : zcode 187 5 = some (.iload_n 1, 1, 0, 0, 0) := by decide +kernel
theorem c_187_6 : zcode 187 6 = some (.i2l, 1, 0, 0, 0) := by decide +kernel
theorem c_187_7 : zcode 187 7 = some (.lconst 0, 1, 0, 0, 0) := by decide +kernel
theorem c_187_8 : zcode 187 8 = some (.lconst 1, 1, 0, 0, 0) := by decide +kernel
theorem c_187_9 : zcode 187 9 = some (.invokestatic 78, 3, 117, 0, 4135) := by decide +kernel
theorem c_187_12 : zcode 187 12 = some (.ifCond .ne 5, 3, 17, 0, 0) := by decide +kernel
theorem c_187_15 : zcode 187 15 = some (.iconst (-1), 1, 0, 0, 0) := by decide +kernel
theorem c_187_16 : zcode 187 16 = some (.ireturn, 1, 0, 0, 0) := by decide +kernel
theorem c_187_17 : zcode 187 17 = some (.aload_n 0, 1, 0, 0, 0) := by decide +kernel
theorem c_187_18 : zcode 187 18 = some (.getfield 43, 3, 8, 21, 4026) := by decide +kernel
theorem c_187_21 : zcode 187 21 = some (.iload_n 1, 1, 0, 0, 0) := by decide +kernel
theorem c_187_22 : zcode 187 22 = some (.baload, 1, 0, 0, 0) := by decide +kernel
theorem c_187_23 : zcode 187 23 = some (.ifCond .ne 6, 3, 29, 0, 0) := by decide +kernel
theorem c_187_26 : zcode 187 26 = some (.bipush (-3), 2, 0, 0, 0) := by decide +kernel
theorem c_187_28 : zcode 187 28 = some (.ireturn, 1, 0, 0, 0) := by decide +kernel
theorem c_187_29 : zcode 187 29 = some (.iconst 0, 1, 0, 0, 0) := by decide +kernel
theorem c_187_30 : zcode 187 30 = some (.istore_n 2, 1, 0, 0, 0) := by decide +kernel
theorem c_187_31 : zcode 187 31 = some (.iload_n 2, 1, 0, 0, 0) := by decide +kernel
theorem c_187_32 : zcode 187 32 = some (.bipush 10, 2, 0, 0, 0) := by decide +kernel
theorem c_187_34 : zcode 187 34 = some (.if_icmp .ge 26, 3, 60, 0, 0) := by decide +kernel
theorem c_187_37 : zcode 187 37 = some (.aload_n 0, 1, 0, 0, 0) := by decide +kernel
theorem c_187_38 : zcode 187 38 = some (.getfield 31, 3, 8, 16, 4021) := by decide +kernel
theorem c_187_41 : zcode 187 41 = some (.iload_n 2, 1, 0, 0, 0) := by decide +kernel
theorem c_187_42 : zcode 187 42 = some (.aload_n 0, 1, 0, 0, 0) := by decide +kernel
theorem c_187_43 : zcode 187 43 = some (.getfield 40, 3, 8, 20, 4025) := by decide +kernel
theorem c_187_46 : zcode 187 46 = some (.bipush 10, 2, 0, 0, 0) := by decide +kernel
theorem c_187_48 : zcode 187 48 = some (.iload_n 1, 1, 0, 0, 0) := by decide +kernel
theorem c_187_49 : zcode 187 49 = some (.imul, 1, 0, 0, 0) := by decide +kernel
theorem c_187_50 : zcode 187 50 = some (.iload_n 2, 1, 0, 0, 0) := by decide +kernel
theorem c_187_51 : zcode 187 51 = some (.iadd, 1, 0, 0, 0) := by decide +kernel
theorem c_187_52 : zcode 187 52 = some (.iaload, 1, 0, 0, 0) := by decide +kernel
theorem c_187_53 : zcode 187 53 = some (.iastore, 1, 0, 0, 0) := by decide +kernel
theorem c_187_54 : zcode 187 54 = some (.iinc 2 1, 3, 0, 0, 0) := by decide +kernel
theorem c_187_57 : zcode 187 57 = some (.goto (-26), 3, 31, 0, 0) := by decide +kernel
theorem c_187_60 : zcode 187 60 = some (.aload_n 0, 1, 0, 0, 0) := by decide +kernel
theorem c_187_61 : zcode 187 61 = some (.iconst 0, 1, 0, 0, 0) := by decide +kernel
theorem c_187_62 : zcode 187 62 = some (.putfield 130, 3, 8, 19, 4024) := by decide +kernel
theorem c_187_65 : zcode 187 65 = some (.aload_n 0, 1, 0, 0, 0) := by decide +kernel
theorem c_187_66 : zcode 187 66 = some (.getfield 31, 3, 8, 16, 4021) := by decide +kernel
theorem c_187_69 : zcode 187 69 = some (.iconst 2, 1, 0, 0, 0) := by decide +kernel
theorem c_187_70 : zcode 187 70 = some (.iaload, 1, 0, 0, 0) := by decide +kernel
theorem c_187_71 : zcode 187 71 = some (.ireturn, 1, 0, 0, 0) := by decide +kernel
theorem c_188_0 : zcode 188 0 = some (.iload_n 0, 1, 0, 0, 0) := by decide +kernel
theorem c_188_1 : zcode 188 1 = some (.iload_n 0, 1, 0, 0, 0) := by decide +kernel
theorem c_188_2 : zcode 188 2 = some (.iconst 1, 1, 0, 0, 0) := by decide +kernel
theorem c_188_3 : zcode 188 3 = some (.iushr, 1, 0, 0, 0) := by decide +kernel
theorem c_188_4 : zcode 188 4 = some (.ldc_w 265, 3, 1431655765, 0, 3049) := by decide +kernel
theorem c_188_7 : zcode 188 7 = some (.iand, 1, 0, 0, 0) := by decide +kernel
theorem c_188_8 : zcode 188 8 = some (.isub, 1, 0, 0, 0) := by decide +kernel
theorem c_188_9 : zcode 188 9 = some (.istore_n 0, 1, 0, 0, 0) := by decide +kernel
theorem c_188_10 : zcode 188 10 = some (.iload_n 0, 1, 0, 0, 0) := by decide +kernel
theorem c_188_11 : zcode 188 11 = some (.ldc_w 266, 3, 858993459, 0, 3050) := by decide +kernel
theorem c_188_14 : zcode 188 14 = some (.iand, 1, 0, 0, 0) := by decide +kernel
theorem c_188_15 : zcode 188 15 = some (.iload_n 0, 1, 0, 0, 0) := by decide +kernel
theorem c_188_16 : zcode 188 16 = some (.iconst 2, 1, 0, 0, 0) := by decide +kernel
theorem c_188_17 : zcode 188 17 = some (.iushr, 1, 0, 0, 0) := by decide +kernel
theorem c_188_18 : zcode 188 18 = some (.ldc_w 266, 3, 858993459, 0, 3050) := by decide +kernel
theorem c_188_21 : zcode 188 21 = some (.iand, 1, 0, 0, 0) := by decide +kernel
theorem c_188_22 : zcode 188 22 = some (.iadd, 1, 0, 0, 0) := by decide +kernel
theorem c_188_23 : zcode 188 23 = some (.istore_n 0, 1, 0, 0, 0) := by decide +kernel
theorem c_188_24 : zcode 188 24 = some (.iload_n 0, 1, 0, 0, 0) := by decide +kernel
theorem c_188_25 : zcode 188 25 = some (.iload_n 0, 1, 0, 0, 0) := by decide +kernel
theorem c_188_26 : zcode 188 26 = some (.iconst 4, 1, 0, 0, 0) := by decide +kernel
theorem c_188_27 : zcode 188 27 = some (.iushr, 1, 0, 0, 0) := by decide +kernel
theorem c_188_28 : zcode 188 28 = some (.iadd, 1, 0, 0, 0) := by decide +kernel
theorem c_188_29 : zcode 188 29 = some (.ldc_w 267, 3, 252645135, 0, 3051) := by decide +kernel
theorem c_188_32 : zcode 188 32 = some (.iand, 1, 0, 0, 0) := by decide +kernel
theorem c_188_33 : zcode 188 33 = some (.istore_n 0, 1, 0, 0, 0) := by decide +kernel
theorem c_188_34 : zcode 188 34 = some (.iload_n 0, 1, 0, 0, 0) := by decide +kernel
theorem c_188_35 : zcode 188 35 = some (.iload_n 0, 1, 0, 0, 0) := by decide +kernel
theorem c_188_36 : zcode 188 36 = some (.bipush 8, 2, 0, 0, 0) := by decide +kernel
theorem c_188_38 : zcode 188 38 = some (.iushr, 1, 0, 0, 0) := by decide +kernel
theorem c_188_39 : zcode 188 39 = some (.iadd, 1, 0, 0, 0) := by decide +kernel
theorem c_188_40 : zcode 188 40 = some (.istore_n 0, 1, 0, 0, 0) := by decide +kernel
theorem c_188_41 : zcode 188 41 = some (.iload_n 0, 1, 0, 0, 0) := by decide +kernel
theorem c_188_42 : zcode 188 42 = some (.iload_n 0, 1, 0, 0, 0) := by decide +kernel
theorem c_188_43 : zcode 188 43 = some (.bipush 16, 2, 0, 0, 0) := by decide +kernel
theorem c_188_45 : zcode 188 45 = some (.iushr, 1, 0, 0, 0) := by decide +kernel
theorem c_188_46 : zcode 188 46 = some (.iadd, 1, 0, 0, 0) := by decide +kernel
theorem c_188_47 : zcode 188 47 = some (.istore_n 0, 1, 0, 0, 0) := by decide +kernel
theorem c_188_48 : zcode 188 48 = some (.iload_n 0, 1, 0, 0, 0) := by decide +kernel
theorem c_188_49 : zcode 188 49 = some (.bipush 63, 2, 0, 0, 0) := by decide +kernel
theorem c_188_51 : zcode 188 51 = some (.iand, 1, 0, 0, 0) := by decide +kernel
theorem c_188_52 : zcode 188 52 = some (.ireturn, 1, 0, 0, 0) := by decide +kernel
theorem c_189_0 : zcode 189 0 = some (.iconst 0, 1, 0, 0, 0) := by decide +kernel
theorem c_189_1 : zcode 189 1 = some (.istore_n 2, 1, 0, 0, 0) := by decide +kernel
theorem c_189_2 : zcode 189 2 = some (.aload_n 0, 1, 0, 0, 0) := by decide +kernel
theorem c_189_3 : zcode 189 3 = some (.arraylength, 1, 0, 0, 0) := by decide +kernel
theorem c_189_4 : zcode 189 4 = some (.istore_n 3, 1, 0, 0, 0) := by decide +kernel
theorem c_189_5 : zcode 189 5 = some (.iload_n 2, 1, 0, 0, 0) := by decide +kernel
theorem c_189_6 : zcode 189 6 = some (.iload_n 3, 1, 0, 0, 0) := by decide +kernel
theorem c_189_7 : zcode 189 7 = some (.if_icmp .ge 13, 3, 20, 0, 0) := by decide +kernel
theorem c_189_10 : zcode 189 10 = some (.aload_n 0, 1, 0, 0, 0) := by decide +kernel
theorem c_189_11 : zcode 189 11 = some (.iload_n 2, 1, 0, 0, 0) := by decide +kernel
theorem c_189_12 : zcode 189 12 = some (.iload_n 1, 1, 0, 0, 0) := by decide +kernel
theorem c_189_13 : zcode 189 13 = some (.iastore, 1, 0, 0, 0) := by decide +kernel
theorem c_189_14 : zcode 189 14 = some (.iinc 2 1, 3, 0, 0, 0) := by decide +kernel
theorem c_189_17 : zcode 189 17 = some (.goto (-12), 3, 5, 0, 0) := by decide +kernel
theorem c_189_20 : zcode 189 20 = some (.return_, 1, 0, 0, 0) := by decide +kernel
theorem c_190_0 : zcode 190 0 = some (.iload_n 1, 1, 0, 0, 0) := by decide +kernel
theorem c_190_1 : zcode 190 1 = some (.ifCond .lt 21, 3, 22, 0, 0) := by decide +kernel
theorem c_190_4 : zcode 190 4 = some (.iload_n 1, 1, 0, 0, 0) := by decide +kernel
theorem c_190_5 : zcode 190 5 = some (.aload_n 0, 1, 0, 0, 0) := by decide +kernel
theorem c_190_6 : zcode 190 6 = some (.getfield 68, 3, 7, 11, 1204) := by decide +kernel
theorem c_190_9 : zcode 190 9 = some (.arraylength, 1, 0, 0, 0) := by decide +kernel
theorem c_190_10 : zcode 190 10 = some (.if_icmp .ge 12, 3, 22, 0, 0) := by decide +kernel
theorem c_190_13 : zcode 190 13 = some (.aload_n 0, 1, 0, 0, 0) := by decide +kernel
theorem c_190_14 : zcode 190 14 = some (.getfield 68, 3, 7, 11, 1204) := by decide +kernel
theorem c_190_17 : zcode 190 17 = some (.iload_n 1, 1, 0, 0, 0) := by decide +kernel
theorem c_190_18 : zcode 190 18 = some (.iaload, 1, 0, 0, 0) := by decide +kernel
theorem c_190_19 : zcode 190 19 = some (.goto 4, 3, 23, 0, 0) := by decide +kernel
theorem c_190_22 : zcode 190 22 = some (.iconst 0, 1, 0, 0, 0) := by decide +kernel
theorem c_190_23 : zcode 190 23 = some (.ireturn, 1, 0, 0, 0) := by decide +kernel
