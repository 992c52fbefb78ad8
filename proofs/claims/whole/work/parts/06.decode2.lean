theorem dX8_init_0 : decode cX8_init 0 = .ok (.aload_n 0, 1) := by decide +kernel
theorem dX8_init_1 : decode cX8_init 1 = .ok (.invokespecial 1, 3) := by decide +kernel
theorem dX8_init_4 : decode cX8_init 4 = .ok (.return_, 1) := by decide +kernel
theorem dX8_left_0 : decode cX8_left 0 = .ok (.dconst 1, 1) := by decide +kernel
theorem dX8_left_1 : decode cX8_left 1 = .ok (.aload_n 0, 1) := by decide +kernel
theorem dX8_left_2 : decode cX8_left 2 = .ok (.getfield 7, 3) := by decide +kernel
theorem dX8_left_5 : decode cX8_left 5 = .ok (.f2d, 1) := by decide +kernel
theorem dX8_left_6 : decode cX8_left 6 = .ok (.dsub, 1) := by decide +kernel
theorem dX8_left_7 : decode cX8_left 7 = .ok (.dreturn, 1) := by decide +kernel
theorem dX9_init_0 : decode cX9_init 0 = .ok (.aload_n 0, 1) := by decide +kernel
theorem dX9_init_1 : decode cX9_init 1 = .ok (.invokespecial 1, 3) := by decide +kernel
theorem dX9_init_4 : decode cX9_init 4 = .ok (.aload_n 0, 1) := by decide +kernel
theorem dX9_init_5 : decode cX9_init 5 = .ok (.iconst 1, 1) := by decide +kernel
theorem dX9_init_6 : decode cX9_init 6 = .ok (.putfield 7, 3) := by decide +kernel
theorem dX9_init_9 : decode cX9_init 9 = .ok (.aload_n 0, 1) := by decide +kernel
theorem dX9_init_10 : decode cX9_init 10 = .ok (.iconst 4, 1) := by decide +kernel
theorem dX9_init_11 : decode cX9_init 11 = .ok (.newarray .double, 2) := by decide +kernel
theorem dX9_init_13 : decode cX9_init 13 = .ok (.putfield 13, 3) := by decide +kernel
theorem dX9_init_16 : decode cX9_init 16 = .ok (.return_, 1) := by decide +kernel
theorem dX10_init_0 : decode cX10_init 0 = .ok (.aload_n 0, 1) := by decide +kernel
theorem dX10_init_1 : decode cX10_init 1 = .ok (.invokespecial 3, 3) := by decide +kernel
theorem dX10_init_4 : decode cX10_init 4 = .ok (.aload_n 0, 1) := by decide +kernel
theorem dX10_init_5 : decode cX10_init 5 = .ok (.iconst (-1), 1) := by decide +kernel
theorem dX10_init_6 : decode cX10_init 6 = .ok (.putfield 9, 3) := by decide +kernel
theorem dX10_init_9 : decode cX10_init 9 = .ok (.aload_n 0, 1) := by decide +kernel
theorem dX10_init_10 : decode cX10_init 10 = .ok (.iconst (-1), 1) := by decide +kernel
theorem dX10_init_11 : decode cX10_init 11 = .ok (.putfield 15, 3) := by decide +kernel
theorem dX10_init_14 : decode cX10_init 14 = .ok (.aload_n 0, 1) := by decide +kernel
theorem dX10_init_15 : decode cX10_init 15 = .ok (.iconst (-1), 1) := by decide +kernel
theorem dX10_init_16 : decode cX10_init 16 = .ok (.putfield 18, 3) := by decide +kernel
theorem dX10_init_19 : decode cX10_init 19 = .ok (.aload_n 0, 1) := by decide +kernel
theorem dX10_init_20 : decode cX10_init 20 = .ok (.ldc2_w 21, 3) := by decide +kernel
theorem dX10_init_23 : decode cX10_init 23 = .ok (.putfield 23, 3) := by decide +kernel
theorem dX10_init_26 : decode cX10_init 26 = .ok (.aload_n 0, 1) := by decide +kernel
theorem dX10_init_27 : decode cX10_init 27 = .ok (.iconst 0, 1) := by decide +kernel
theorem dX10_init_28 : decode cX10_init 28 = .ok (.newarray .double, 2) := by decide +kernel
theorem dX10_init_30 : decode cX10_init 30 = .ok (.putfield 27, 3) := by decide +kernel
theorem dX10_init_33 : decode cX10_init 33 = .ok (.return_, 1) := by decide +kernel
theorem dX11_init_0 : decode cX11_init 0 = .ok (.aload_n 0, 1) := by decide +kernel
theorem dX11_init_1 : decode cX11_init 1 = .ok (.invokespecial 1, 3) := by decide +kernel
theorem dX11_init_4 : decode cX11_init 4 = .ok (.aload_n 0, 1) := by decide +kernel
theorem dX11_init_5 : decode cX11_init 5 = .ok (.new 7, 3) := by decide +kernel
theorem dX11_init_8 : decode cX11_init 8 = .ok (.dup, 1) := by decide +kernel
theorem dX11_init_9 : decode cX11_init 9 = .ok (.invokespecial 9, 3) := by decide +kernel
theorem dX11_init_12 : decode cX11_init 12 = .ok (.putfield 10, 3) := by decide +kernel
theorem dX11_init_15 : decode cX11_init 15 = .ok (.aload_n 0, 1) := by decide +kernel
theorem dX11_init_16 : decode cX11_init 16 = .ok (.new 7, 3) := by decide +kernel
theorem dX11_init_19 : decode cX11_init 19 = .ok (.dup, 1) := by decide +kernel
theorem dX11_init_20 : decode cX11_init 20 = .ok (.invokespecial 9, 3) := by decide +kernel
theorem dX11_init_23 : decode cX11_init 23 = .ok (.putfield 16, 3) := by decide +kernel
theorem dX11_init_26 : decode cX11_init 26 = .ok (.aload_n 0, 1) := by decide +kernel
theorem dX11_init_27 : decode cX11_init 27 = .ok (.new 7, 3) := by decide +kernel
theorem dX11_init_30 : decode cX11_init 30 = .ok (.dup, 1) := by decide +kernel
theorem dX11_init_31 : decode cX11_init 31 = .ok (.invokespecial 9, 3) := by decide +kernel
theorem dX11_init_34 : decode cX11_init 34 = .ok (.putfield 19, 3) := by decide +kernel
theorem dX11_init_37 : decode cX11_init 37 = .ok (.aload_n 0, 1) := by decide +kernel
theorem dX11_init_38 : decode cX11_init 38 = .ok (.new 7, 3) := by decide +kernel
theorem dX11_init_41 : decode cX11_init 41 = .ok (.dup, 1) := by decide +kernel
theorem dX11_init_42 : decode cX11_init 42 = .ok (.invokespecial 9, 3) := by decide +kernel
theorem dX11_init_45 : decode cX11_init 45 = .ok (.putfield 22, 3) := by decide +kernel
theorem dX11_init_48 : decode cX11_init 48 = .ok (.aload_n 0, 1) := by decide +kernel
theorem dX11_init_49 : decode cX11_init 49 = .ok (.iconst 3, 1) := by decide +kernel
theorem dX11_init_50 : decode cX11_init 50 = .ok (.newarray .double, 2) := by decide +kernel
theorem dX11_init_52 : decode cX11_init 52 = .ok (.putfield 25, 3) := by decide +kernel
theorem dX11_init_55 : decode cX11_init 55 = .ok (.aload_n 0, 1) := by decide +kernel
theorem dX11_init_56 : decode cX11_init 56 = .ok (.iconst 3, 1) := by decide +kernel
theorem dX11_init_57 : decode cX11_init 57 = .ok (.newarray .float, 2) := by decide +kernel
theorem dX11_init_59 : decode cX11_init 59 = .ok (.putfield 29, 3) := by decide +kernel
theorem dX11_init_62 : decode cX11_init 62 = .ok (.return_, 1) := by decide +kernel
theorem dX11_thrown_0 : decode cX11_thrown 0 = .ok (.aload_n 0, 1) := by decide +kernel
theorem dX11_thrown_1 : decode cX11_thrown 1 = .ok (.getfield 33, 3) := by decide +kernel
theorem dX11_thrown_4 : decode cX11_thrown 4 = .ok (.ireturn, 1) := by decide +kernel
theorem dX11_refuse_0 : decode cX11_refuse 0 = .ok (.aload_n 0, 1) := by decide +kernel
theorem dX11_refuse_1 : decode cX11_refuse 1 = .ok (.iload_n 1, 1) := by decide +kernel
theorem dX11_refuse_2 : decode cX11_refuse 2 = .ok (.putfield 33, 3) := by decide +kernel
theorem dX11_refuse_5 : decode cX11_refuse 5 = .ok (.iconst 0, 1) := by decide +kernel
theorem dX11_refuse_6 : decode cX11_refuse 6 = .ok (.ireturn, 1) := by decide +kernel
theorem dX11_is_0 : decode cX11_is 0 = .ok (.iload_n 0, 1) := by decide +kernel
theorem dX11_is_1 : decode cX11_is 1 = .ok (.iload_n 1, 1) := by decide +kernel
theorem dX11_is_2 : decode cX11_is 2 = .ok (.if_icmp .lt 12, 3) := by decide +kernel
theorem dX11_is_5 : decode cX11_is 5 = .ok (.iload_n 0, 1) := by decide +kernel
theorem dX11_is_6 : decode cX11_is 6 = .ok (.iload_n 2, 1) := by decide +kernel
theorem dX11_is_7 : decode cX11_is 7 = .ok (.if_icmp .gt 7, 3) := by decide +kernel
theorem dX11_is_10 : decode cX11_is 10 = .ok (.iconst 1, 1) := by decide +kernel
theorem dX11_is_11 : decode cX11_is 11 = .ok (.goto 4, 3) := by decide +kernel
theorem dX11_is_14 : decode cX11_is 14 = .ok (.iconst 0, 1) := by decide +kernel
theorem dX11_is_15 : decode cX11_is 15 = .ok (.ireturn, 1) := by decide +kernel
theorem dX11_go_0 : decode cX11_go 0 = .ok (.aload_n 0, 1) := by decide +kernel
theorem dX11_go_1 : decode cX11_go 1 = .ok (.aload_n 0, 1) := by decide +kernel
theorem dX11_go_2 : decode cX11_go 2 = .ok (.getfield 37, 3) := by decide +kernel
theorem dX11_go_5 : decode cX11_go 5 = .ok (.dload_n 1, 1) := by decide +kernel
theorem dX11_go_6 : decode cX11_go 6 = .ok (.dadd, 1) := by decide +kernel
theorem dX11_go_7 : decode cX11_go 7 = .ok (.putfield 37, 3) := by decide +kernel
theorem dX11_go_10 : decode cX11_go 10 = .ok (.aload_n 0, 1) := by decide +kernel
theorem dX11_go_11 : decode cX11_go 11 = .ok (.getfield 37, 3) := by decide +kernel
theorem dX11_go_14 : decode cX11_go 14 = .ok (.ldc2_w 41, 3) := by decide +kernel
theorem dX11_go_17 : decode cX11_go 17 = .ok (.dcmp .l, 1) := by decide +kernel
theorem dX11_go_18 : decode cX11_go 18 = .ok (.ifCond .le 10, 3) := by decide +kernel
theorem dX11_go_21 : decode cX11_go 21 = .ok (.aload_n 0, 1) := by decide +kernel
theorem dX11_go_22 : decode cX11_go 22 = .ok (.ldc2_w 41, 3) := by decide +kernel
theorem dX11_go_25 : decode cX11_go 25 = .ok (.putfield 37, 3) := by decide +kernel
theorem dX11_go_28 : decode cX11_go 28 = .ok (.return_, 1) := by decide +kernel
theorem dX11_cloth_0 : decode cX11_cloth 0 = .ok (.aload_n 0, 1) := by decide +kernel
theorem dX11_cloth_1 : decode cX11_cloth 1 = .ok (.iconst 0, 1) := by decide +kernel
theorem dX11_cloth_2 : decode cX11_cloth 2 = .ok (.putfield 33, 3) := by decide +kernel
theorem dX11_cloth_5 : decode cX11_cloth 5 = .ok (.iload_n 1, 1) := by decide +kernel
theorem dX11_cloth_6 : decode cX11_cloth 6 = .ok (.bipush 60, 2) := by decide +kernel
theorem dX11_cloth_8 : decode cX11_cloth 8 = .ok (.sipush 160, 3) := by decide +kernel
theorem dX11_cloth_11 : decode cX11_cloth 11 = .ok (.invokestatic 43, 3) := by decide +kernel
theorem dX11_cloth_14 : decode cX11_cloth 14 = .ok (.ifCond .eq 46, 3) := by decide +kernel
theorem dX11_cloth_17 : decode cX11_cloth 17 = .ok (.iload_n 2, 1) := by decide +kernel
theorem dX11_cloth_18 : decode cX11_cloth 18 = .ok (.iconst 0, 1) := by decide +kernel
theorem dX11_cloth_19 : decode cX11_cloth 19 = .ok (.sipush 3000, 3) := by decide +kernel
theorem dX11_cloth_22 : decode cX11_cloth 22 = .ok (.invokestatic 43, 3) := by decide +kernel
theorem dX11_cloth_25 : decode cX11_cloth 25 = .ok (.ifCond .eq 35, 3) := by decide +kernel
theorem dX11_cloth_28 : decode cX11_cloth 28 = .ok (.iload_n 3, 1) := by decide +kernel
theorem dX11_cloth_29 : decode cX11_cloth 29 = .ok (.iconst 0, 1) := by decide +kernel
theorem dX11_cloth_30 : decode cX11_cloth 30 = .ok (.bipush 8, 2) := by decide +kernel
theorem dX11_cloth_32 : decode cX11_cloth 32 = .ok (.invokestatic 43, 3) := by decide +kernel
theorem dX11_cloth_35 : decode cX11_cloth 35 = .ok (.ifCond .eq 25, 3) := by decide +kernel
theorem dX11_cloth_38 : decode cX11_cloth 38 = .ok (.iload 4, 2) := by decide +kernel
theorem dX11_cloth_40 : decode cX11_cloth 40 = .ok (.iconst 0, 1) := by decide +kernel
theorem dX11_cloth_41 : decode cX11_cloth 41 = .ok (.bipush 20, 2) := by decide +kernel
theorem dX11_cloth_43 : decode cX11_cloth 43 = .ok (.invokestatic 43, 3) := by decide +kernel
theorem dX11_cloth_46 : decode cX11_cloth 46 = .ok (.ifCond .eq 14, 3) := by decide +kernel
theorem dX11_cloth_49 : decode cX11_cloth 49 = .ok (.iload 6, 2) := by decide +kernel
theorem dX11_cloth_51 : decode cX11_cloth 51 = .ok (.iconst 1, 1) := by decide +kernel
theorem dX11_cloth_52 : decode cX11_cloth 52 = .ok (.bipush 9, 2) := by decide +kernel
theorem dX11_cloth_54 : decode cX11_cloth 54 = .ok (.invokestatic 43, 3) := by decide +kernel
theorem dX11_cloth_57 : decode cX11_cloth 57 = .ok (.ifCond .ne 9, 3) := by decide +kernel
theorem dX11_cloth_60 : decode cX11_cloth 60 = .ok (.aload_n 0, 1) := by decide +kernel
theorem dX11_cloth_61 : decode cX11_cloth 61 = .ok (.iconst 1, 1) := by decide +kernel
theorem dX11_cloth_62 : decode cX11_cloth 62 = .ok (.invokevirtual 47, 3) := by decide +kernel
theorem dX11_cloth_65 : decode cX11_cloth 65 = .ok (.ireturn, 1) := by decide +kernel
theorem dX11_cloth_66 : decode cX11_cloth 66 = .ok (.aload_n 0, 1) := by decide +kernel
theorem dX11_cloth_67 : decode cX11_cloth 67 = .ok (.getfield 10, 3) := by decide +kernel
theorem dX11_cloth_70 : decode cX11_cloth 70 = .ok (.invokevirtual 51, 3) := by decide +kernel
theorem dX11_cloth_73 : decode cX11_cloth 73 = .ok (.iconst 4, 1) := by decide +kernel
theorem dX11_cloth_74 : decode cX11_cloth 74 = .ok (.if_icmp .ne 9, 3) := by decide +kernel
theorem dX11_cloth_77 : decode cX11_cloth 77 = .ok (.aload_n 0, 1) := by decide +kernel
theorem dX11_cloth_78 : decode cX11_cloth 78 = .ok (.iconst 2, 1) := by decide +kernel
theorem dX11_cloth_79 : decode cX11_cloth 79 = .ok (.invokevirtual 47, 3) := by decide +kernel
theorem dX11_cloth_82 : decode cX11_cloth 82 = .ok (.ireturn, 1) := by decide +kernel
theorem dX11_cloth_83 : decode cX11_cloth 83 = .ok (.new 55, 3) := by decide +kernel
theorem dX11_cloth_86 : decode cX11_cloth 86 = .ok (.dup, 1) := by decide +kernel
theorem dX11_cloth_87 : decode cX11_cloth 87 = .ok (.invokespecial 57, 3) := by decide +kernel
theorem dX11_cloth_90 : decode cX11_cloth 90 = .ok (.astore 7, 2) := by decide +kernel
theorem dX11_cloth_92 : decode cX11_cloth 92 = .ok (.aload 7, 2) := by decide +kernel
theorem dX11_cloth_94 : decode cX11_cloth 94 = .ok (.iload_n 1, 1) := by decide +kernel
theorem dX11_cloth_95 : decode cX11_cloth 95 = .ok (.i2d, 1) := by decide +kernel
theorem dX11_cloth_96 : decode cX11_cloth 96 = .ok (.putfield 58, 3) := by decide +kernel
theorem dX11_cloth_99 : decode cX11_cloth 99 = .ok (.aload 7, 2) := by decide +kernel
theorem dX11_cloth_101 : decode cX11_cloth 101 = .ok (.iload_n 2, 1) := by decide +kernel
theorem dX11_cloth_102 : decode cX11_cloth 102 = .ok (.i2d, 1) := by decide +kernel
theorem dX11_cloth_103 : decode cX11_cloth 103 = .ok (.putfield 61, 3) := by decide +kernel
theorem dX11_cloth_106 : decode cX11_cloth 106 = .ok (.aload 7, 2) := by decide +kernel
theorem dX11_cloth_108 : decode cX11_cloth 108 = .ok (.iload_n 3, 1) := by decide +kernel
theorem dX11_cloth_109 : decode cX11_cloth 109 = .ok (.i2f, 1) := by decide +kernel
theorem dX11_cloth_110 : decode cX11_cloth 110 = .ok (.ldc 64, 2) := by decide +kernel
theorem dX11_cloth_112 : decode cX11_cloth 112 = .ok (.fdiv, 1) := by decide +kernel
theorem dX11_cloth_113 : decode cX11_cloth 113 = .ok (.putfield 65, 3) := by decide +kernel
theorem dX11_cloth_116 : decode cX11_cloth 116 = .ok (.aload 7, 2) := by decide +kernel
theorem dX11_cloth_118 : decode cX11_cloth 118 = .ok (.iload 4, 2) := by decide +kernel
theorem dX11_cloth_120 : decode cX11_cloth 120 = .ok (.putfield 69, 3) := by decide +kernel
theorem dX11_cloth_123 : decode cX11_cloth 123 = .ok (.aload 7, 2) := by decide +kernel
theorem dX11_cloth_125 : decode cX11_cloth 125 = .ok (.iload 5, 2) := by decide +kernel
theorem dX11_cloth_127 : decode cX11_cloth 127 = .ok (.putfield 72, 3) := by decide +kernel
theorem dX11_cloth_130 : decode cX11_cloth 130 = .ok (.aload 7, 2) := by decide +kernel
theorem dX11_cloth_132 : decode cX11_cloth 132 = .ok (.iload 6, 2) := by decide +kernel
theorem dX11_cloth_134 : decode cX11_cloth 134 = .ok (.putfield 76, 3) := by decide +kernel
theorem dX11_cloth_137 : decode cX11_cloth 137 = .ok (.aload_n 0, 1) := by decide +kernel
theorem dX11_cloth_138 : decode cX11_cloth 138 = .ok (.getfield 10, 3) := by decide +kernel
theorem dX11_cloth_141 : decode cX11_cloth 141 = .ok (.aload 7, 2) := by decide +kernel
theorem dX11_cloth_143 : decode cX11_cloth 143 = .ok (.invokevirtual 79, 3) := by decide +kernel
theorem dX11_cloth_146 : decode cX11_cloth 146 = .ok (.pop, 1) := by decide +kernel
theorem dX11_cloth_147 : decode cX11_cloth 147 = .ok (.aload_n 0, 1) := by decide +kernel
theorem dX11_cloth_148 : decode cX11_cloth 148 = .ok (.getfield 10, 3) := by decide +kernel
theorem dX11_cloth_151 : decode cX11_cloth 151 = .ok (.invokevirtual 51, 3) := by decide +kernel
theorem dX11_cloth_154 : decode cX11_cloth 154 = .ok (.iconst 1, 1) := by decide +kernel
theorem dX11_cloth_155 : decode cX11_cloth 155 = .ok (.isub, 1) := by decide +kernel
theorem dX11_cloth_156 : decode cX11_cloth 156 = .ok (.ireturn, 1) := by decide +kernel
theorem dX11_isCloth_0 : decode cX11_isCloth 0 = .ok (.iload_n 1, 1) := by decide +kernel
theorem dX11_isCloth_1 : decode cX11_isCloth 1 = .ok (.iconst 0, 1) := by decide +kernel
theorem dX11_isCloth_2 : decode cX11_isCloth 2 = .ok (.aload_n 0, 1) := by decide +kernel
theorem dX11_isCloth_3 : decode cX11_isCloth 3 = .ok (.getfield 10, 3) := by decide +kernel
theorem dX11_isCloth_6 : decode cX11_isCloth 6 = .ok (.invokevirtual 51, 3) := by decide +kernel
theorem dX11_isCloth_9 : decode cX11_isCloth 9 = .ok (.iconst 1, 1) := by decide +kernel
theorem dX11_isCloth_10 : decode cX11_isCloth 10 = .ok (.isub, 1) := by decide +kernel
theorem dX11_isCloth_11 : decode cX11_isCloth 11 = .ok (.invokestatic 43, 3) := by decide +kernel
theorem dX11_isCloth_14 : decode cX11_isCloth 14 = .ok (.ireturn, 1) := by decide +kernel
theorem dX11_wash_0 : decode cX11_wash 0 = .ok (.aload_n 0, 1) := by decide +kernel
theorem dX11_wash_1 : decode cX11_wash 1 = .ok (.aload_n 0, 1) := by decide +kernel
theorem dX11_wash_2 : decode cX11_wash 2 = .ok (.iload_n 1, 1) := by decide +kernel
theorem dX11_wash_3 : decode cX11_wash 3 = .ok (.invokevirtual 83, 3) := by decide +kernel
theorem dX11_wash_6 : decode cX11_wash 6 = .ok (.ifCond .eq 7, 3) := by decide +kernel
theorem dX11_wash_9 : decode cX11_wash 9 = .ok (.iconst 0, 1) := by decide +kernel
theorem dX11_wash_10 : decode cX11_wash 10 = .ok (.goto 4, 3) := by decide +kernel
theorem dX11_wash_13 : decode cX11_wash 13 = .ok (.iconst 1, 1) := by decide +kernel
theorem dX11_wash_14 : decode cX11_wash 14 = .ok (.putfield 33, 3) := by decide +kernel
theorem dX11_wash_17 : decode cX11_wash 17 = .ok (.aload_n 0, 1) := by decide +kernel
theorem dX11_wash_18 : decode cX11_wash 18 = .ok (.getfield 33, 3) := by decide +kernel
theorem dX11_wash_21 : decode cX11_wash 21 = .ok (.ifCond .le 5, 3) := by decide +kernel
theorem dX11_wash_24 : decode cX11_wash 24 = .ok (.dconst 0, 1) := by decide +kernel
theorem dX11_wash_25 : decode cX11_wash 25 = .ok (.dreturn, 1) := by decide +kernel
theorem dX11_wash_26 : decode cX11_wash 26 = .ok (.aload_n 0, 1) := by decide +kernel
theorem dX11_wash_27 : decode cX11_wash 27 = .ok (.getfield 10, 3) := by decide +kernel
theorem dX11_wash_30 : decode cX11_wash 30 = .ok (.iload_n 1, 1) := by decide +kernel
theorem dX11_wash_31 : decode cX11_wash 31 = .ok (.invokevirtual 87, 3) := by decide +kernel
theorem dX11_wash_34 : decode cX11_wash 34 = .ok (.checkcast 55, 3) := by decide +kernel
theorem dX11_wash_37 : decode cX11_wash 37 = .ok (.astore_n 2, 1) := by decide +kernel
theorem dX11_wash_38 : decode cX11_wash 38 = .ok (.aload_n 2, 1) := by decide +kernel
theorem dX11_wash_39 : decode cX11_wash 39 = .ok (.aload_n 2, 1) := by decide +kernel
theorem dX11_wash_40 : decode cX11_wash 40 = .ok (.getfield 58, 3) := by decide +kernel
theorem dX11_wash_43 : decode cX11_wash 43 = .ok (.aload_n 2, 1) := by decide +kernel
theorem dX11_wash_44 : decode cX11_wash 44 = .ok (.invokevirtual 91, 3) := by decide +kernel
theorem dX11_wash_47 : decode cX11_wash 47 = .ok (.dmul, 1) := by decide +kernel
theorem dX11_wash_48 : decode cX11_wash 48 = .ok (.putfield 58, 3) := by decide +kernel
theorem dX11_wash_51 : decode cX11_wash 51 = .ok (.aload_n 2, 1) := by decide +kernel
theorem dX11_wash_52 : decode cX11_wash 52 = .ok (.aload_n 2, 1) := by decide +kernel
theorem dX11_wash_53 : decode cX11_wash 53 = .ok (.getfield 61, 3) := by decide +kernel
theorem dX11_wash_56 : decode cX11_wash 56 = .ok (.aload_n 2, 1) := by decide +kernel
theorem dX11_wash_57 : decode cX11_wash 57 = .ok (.invokevirtual 91, 3) := by decide +kernel
theorem dX11_wash_60 : decode cX11_wash 60 = .ok (.dmul, 1) := by decide +kernel
theorem dX11_wash_61 : decode cX11_wash 61 = .ok (.putfield 61, 3) := by decide +kernel
theorem dX11_wash_64 : decode cX11_wash 64 = .ok (.aload_n 2, 1) := by decide +kernel
theorem dX11_wash_65 : decode cX11_wash 65 = .ok (.fconst 0, 1) := by decide +kernel
theorem dX11_wash_66 : decode cX11_wash 66 = .ok (.putfield 65, 3) := by decide +kernel
theorem dX11_wash_69 : decode cX11_wash 69 = .ok (.aload_n 2, 1) := by decide +kernel
theorem dX11_wash_70 : decode cX11_wash 70 = .ok (.getfield 61, 3) := by decide +kernel
theorem dX11_wash_73 : decode cX11_wash 73 = .ok (.dreturn, 1) := by decide +kernel
theorem dX11_person_0 : decode cX11_person 0 = .ok (.aload_n 0, 1) := by decide +kernel
theorem dX11_person_1 : decode cX11_person 1 = .ok (.iconst 0, 1) := by decide +kernel
theorem dX11_person_2 : decode cX11_person 2 = .ok (.putfield 33, 3) := by decide +kernel
theorem dX11_person_5 : decode cX11_person 5 = .ok (.iconst 4, 1) := by decide +kernel
theorem dX11_person_6 : decode cX11_person 6 = .ok (.newarray .int, 2) := by decide +kernel
theorem dX11_person_8 : decode cX11_person 8 = .ok (.dup, 1) := by decide +kernel
theorem dX11_person_9 : decode cX11_person 9 = .ok (.iconst 0, 1) := by decide +kernel
theorem dX11_person_10 : decode cX11_person 10 = .ok (.iload_n 1, 1) := by decide +kernel
theorem dX11_person_11 : decode cX11_person 11 = .ok (.iastore, 1) := by decide +kernel
theorem dX11_person_12 : decode cX11_person 12 = .ok (.dup, 1) := by decide +kernel
theorem dX11_person_13 : decode cX11_person 13 = .ok (.iconst 1, 1) := by decide +kernel
theorem dX11_person_14 : decode cX11_person 14 = .ok (.iload_n 2, 1) := by decide +kernel
theorem dX11_person_15 : decode cX11_person 15 = .ok (.iastore, 1) := by decide +kernel
theorem dX11_person_16 : decode cX11_person 16 = .ok (.dup, 1) := by decide +kernel
theorem dX11_person_17 : decode cX11_person 17 = .ok (.iconst 2, 1) := by decide +kernel
theorem dX11_person_18 : decode cX11_person 18 = .ok (.iload_n 3, 1) := by decide +kernel
theorem dX11_person_19 : decode cX11_person 19 = .ok (.iastore, 1) := by decide +kernel
theorem dX11_person_20 : decode cX11_person 20 = .ok (.dup, 1) := by decide +kernel
theorem dX11_person_21 : decode cX11_person 21 = .ok (.iconst 3, 1) := by decide +kernel
theorem dX11_person_22 : decode cX11_person 22 = .ok (.iload 4, 2) := by decide +kernel
theorem dX11_person_24 : decode cX11_person 24 = .ok (.iastore, 1) := by decide +kernel
theorem dX11_person_25 : decode cX11_person 25 = .ok (.astore 5, 2) := by decide +kernel
theorem dX11_person_27 : decode cX11_person 27 = .ok (.aload 5, 2) := by decide +kernel
theorem dX11_person_29 : decode cX11_person 29 = .ok (.astore 6, 2) := by decide +kernel
theorem dX11_person_31 : decode cX11_person 31 = .ok (.aload 6, 2) := by decide +kernel
theorem dX11_person_33 : decode cX11_person 33 = .ok (.arraylength, 1) := by decide +kernel
theorem dX11_person_34 : decode cX11_person 34 = .ok (.istore 7, 2) := by decide +kernel
theorem dX11_person_36 : decode cX11_person 36 = .ok (.iconst 0, 1) := by decide +kernel
theorem dX11_person_37 : decode cX11_person 37 = .ok (.istore 8, 2) := by decide +kernel
theorem dX11_person_39 : decode cX11_person 39 = .ok (.iload 8, 2) := by decide +kernel
theorem dX11_person_41 : decode cX11_person 41 = .ok (.iload 7, 2) := by decide +kernel
theorem dX11_person_43 : decode cX11_person 43 = .ok (.if_icmp .ge 35, 3) := by decide +kernel
theorem dX11_person_46 : decode cX11_person 46 = .ok (.aload 6, 2) := by decide +kernel
theorem dX11_person_48 : decode cX11_person 48 = .ok (.iload 8, 2) := by decide +kernel
theorem dX11_person_50 : decode cX11_person 50 = .ok (.iaload, 1) := by decide +kernel
theorem dX11_person_51 : decode cX11_person 51 = .ok (.istore 9, 2) := by decide +kernel
theorem dX11_person_53 : decode cX11_person 53 = .ok (.iload 9, 2) := by decide +kernel
theorem dX11_person_55 : decode cX11_person 55 = .ok (.bipush 50, 2) := by decide +kernel
theorem dX11_person_57 : decode cX11_person 57 = .ok (.sipush 200, 3) := by decide +kernel
theorem dX11_person_60 : decode cX11_person 60 = .ok (.invokestatic 43, 3) := by decide +kernel
theorem dX11_person_63 : decode cX11_person 63 = .ok (.ifCond .ne 9, 3) := by decide +kernel
theorem dX11_person_66 : decode cX11_person 66 = .ok (.aload_n 0, 1) := by decide +kernel
theorem dX11_person_67 : decode cX11_person 67 = .ok (.iconst 1, 1) := by decide +kernel
theorem dX11_person_68 : decode cX11_person 68 = .ok (.invokevirtual 47, 3) := by decide +kernel
theorem dX11_person_71 : decode cX11_person 71 = .ok (.ireturn, 1) := by decide +kernel
theorem dX11_person_72 : decode cX11_person 72 = .ok (.iinc 8 1, 3) := by decide +kernel
theorem dX11_person_75 : decode cX11_person 75 = .ok (.goto (-36), 3) := by decide +kernel
theorem dX11_person_78 : decode cX11_person 78 = .ok (.aload_n 0, 1) := by decide +kernel
theorem dX11_person_79 : decode cX11_person 79 = .ok (.getfield 16, 3) := by decide +kernel
theorem dX11_person_82 : decode cX11_person 82 = .ok (.invokevirtual 51, 3) := by decide +kernel
theorem dX11_person_85 : decode cX11_person 85 = .ok (.bipush 6, 2) := by decide +kernel
theorem dX11_person_87 : decode cX11_person 87 = .ok (.if_icmp .ne 9, 3) := by decide +kernel
theorem dX11_person_90 : decode cX11_person 90 = .ok (.aload_n 0, 1) := by decide +kernel
theorem dX11_person_91 : decode cX11_person 91 = .ok (.iconst 2, 1) := by decide +kernel
theorem dX11_person_92 : decode cX11_person 92 = .ok (.invokevirtual 47, 3) := by decide +kernel
theorem dX11_person_95 : decode cX11_person 95 = .ok (.ireturn, 1) := by decide +kernel
theorem dX11_person_96 : decode cX11_person 96 = .ok (.aload_n 0, 1) := by decide +kernel
theorem dX11_person_97 : decode cX11_person 97 = .ok (.getfield 16, 3) := by decide +kernel
theorem dX11_person_100 : decode cX11_person 100 = .ok (.aload 5, 2) := by decide +kernel
theorem dX11_person_102 : decode cX11_person 102 = .ok (.invokevirtual 79, 3) := by decide +kernel
theorem dX11_person_105 : decode cX11_person 105 = .ok (.pop, 1) := by decide +kernel
theorem dX11_person_106 : decode cX11_person 106 = .ok (.aload_n 0, 1) := by decide +kernel
theorem dX11_person_107 : decode cX11_person 107 = .ok (.getfield 16, 3) := by decide +kernel
theorem dX11_person_110 : decode cX11_person 110 = .ok (.invokevirtual 51, 3) := by decide +kernel
theorem dX11_person_113 : decode cX11_person 113 = .ok (.iconst 1, 1) := by decide +kernel
theorem dX11_person_114 : decode cX11_person 114 = .ok (.isub, 1) := by decide +kernel
theorem dX11_person_115 : decode cX11_person 115 = .ok (.ireturn, 1) := by decide +kernel
theorem dX11_isPerson_0 : decode cX11_isPerson 0 = .ok (.iload_n 1, 1) := by decide +kernel
theorem dX11_isPerson_1 : decode cX11_isPerson 1 = .ok (.iconst 0, 1) := by decide +kernel
theorem dX11_isPerson_2 : decode cX11_isPerson 2 = .ok (.aload_n 0, 1) := by decide +kernel
theorem dX11_isPerson_3 : decode cX11_isPerson 3 = .ok (.getfield 16, 3) := by decide +kernel
theorem dX11_isPerson_6 : decode cX11_isPerson 6 = .ok (.invokevirtual 51, 3) := by decide +kernel
theorem dX11_isPerson_9 : decode cX11_isPerson 9 = .ok (.iconst 1, 1) := by decide +kernel
theorem dX11_isPerson_10 : decode cX11_isPerson 10 = .ok (.isub, 1) := by decide +kernel
theorem dX11_isPerson_11 : decode cX11_isPerson 11 = .ok (.invokestatic 43, 3) := by decide +kernel
theorem dX11_isPerson_14 : decode cX11_isPerson 14 = .ok (.ireturn, 1) := by decide +kernel
theorem dX11_measure_0 : decode cX11_measure 0 = .ok (.aload_n 0, 1) := by decide +kernel
theorem dX11_measure_1 : decode cX11_measure 1 = .ok (.iconst 0, 1) := by decide +kernel
theorem dX11_measure_2 : decode cX11_measure 2 = .ok (.putfield 33, 3) := by decide +kernel
theorem dX11_measure_5 : decode cX11_measure 5 = .ok (.aload_n 0, 1) := by decide +kernel
theorem dX11_measure_6 : decode cX11_measure 6 = .ok (.iload_n 1, 1) := by decide +kernel
theorem dX11_measure_7 : decode cX11_measure 7 = .ok (.invokevirtual 95, 3) := by decide +kernel
theorem dX11_measure_10 : decode cX11_measure 10 = .ok (.ifCond .eq 12, 3) := by decide +kernel
theorem dX11_measure_13 : decode cX11_measure 13 = .ok (.iload_n 2, 1) := by decide +kernel
theorem dX11_measure_14 : decode cX11_measure 14 = .ok (.iconst 0, 1) := by decide +kernel
theorem dX11_measure_15 : decode cX11_measure 15 = .ok (.iconst 3, 1) := by decide +kernel
theorem dX11_measure_16 : decode cX11_measure 16 = .ok (.invokestatic 43, 3) := by decide +kernel
theorem dX11_measure_19 : decode cX11_measure 19 = .ok (.ifCond .ne 9, 3) := by decide +kernel
theorem dX11_measure_22 : decode cX11_measure 22 = .ok (.aload_n 0, 1) := by decide +kernel
theorem dX11_measure_23 : decode cX11_measure 23 = .ok (.iconst 1, 1) := by decide +kernel
theorem dX11_measure_24 : decode cX11_measure 24 = .ok (.invokevirtual 47, 3) := by decide +kernel
theorem dX11_measure_27 : decode cX11_measure 27 = .ok (.ireturn, 1) := by decide +kernel
theorem dX11_measure_28 : decode cX11_measure 28 = .ok (.iload_n 3, 1) := by decide +kernel
theorem dX11_measure_29 : decode cX11_measure 29 = .ok (.bipush 50, 2) := by decide +kernel
theorem dX11_measure_31 : decode cX11_measure 31 = .ok (.sipush 200, 3) := by decide +kernel
theorem dX11_measure_34 : decode cX11_measure 34 = .ok (.invokestatic 43, 3) := by decide +kernel
theorem dX11_measure_37 : decode cX11_measure 37 = .ok (.ifCond .ne 9, 3) := by decide +kernel
theorem dX11_measure_40 : decode cX11_measure 40 = .ok (.aload_n 0, 1) := by decide +kernel
theorem dX11_measure_41 : decode cX11_measure 41 = .ok (.iconst 2, 1) := by decide +kernel
theorem dX11_measure_42 : decode cX11_measure 42 = .ok (.invokevirtual 47, 3) := by decide +kernel
theorem dX11_measure_45 : decode cX11_measure 45 = .ok (.ireturn, 1) := by decide +kernel
theorem dX11_measure_46 : decode cX11_measure 46 = .ok (.aload_n 0, 1) := by decide +kernel
theorem dX11_measure_47 : decode cX11_measure 47 = .ok (.getfield 16, 3) := by decide +kernel
theorem dX11_measure_50 : decode cX11_measure 50 = .ok (.iload_n 1, 1) := by decide +kernel
theorem dX11_measure_51 : decode cX11_measure 51 = .ok (.invokevirtual 87, 3) := by decide +kernel
theorem dX11_measure_54 : decode cX11_measure 54 = .ok (.checkcast 98, 3) := by decide +kernel
theorem dX11_measure_57 : decode cX11_measure 57 = .ok (.iload_n 2, 1) := by decide +kernel
theorem dX11_measure_58 : decode cX11_measure 58 = .ok (.iaload, 1) := by decide +kernel
theorem dX11_measure_59 : decode cX11_measure 59 = .ok (.istore 4, 2) := by decide +kernel
theorem dX11_measure_61 : decode cX11_measure 61 = .ok (.aload_n 0, 1) := by decide +kernel
theorem dX11_measure_62 : decode cX11_measure 62 = .ok (.getfield 16, 3) := by decide +kernel
theorem dX11_measure_65 : decode cX11_measure 65 = .ok (.iload_n 1, 1) := by decide +kernel
theorem dX11_measure_66 : decode cX11_measure 66 = .ok (.invokevirtual 87, 3) := by decide +kernel
theorem dX11_measure_69 : decode cX11_measure 69 = .ok (.checkcast 98, 3) := by decide +kernel
theorem dX11_measure_72 : decode cX11_measure 72 = .ok (.iload_n 2, 1) := by decide +kernel
theorem dX11_measure_73 : decode cX11_measure 73 = .ok (.iload_n 3, 1) := by decide +kernel
theorem dX11_measure_74 : decode cX11_measure 74 = .ok (.iastore, 1) := by decide +kernel
theorem dX11_measure_75 : decode cX11_measure 75 = .ok (.iload 4, 2) := by decide +kernel
theorem dX11_measure_77 : decode cX11_measure 77 = .ok (.ireturn, 1) := by decide +kernel
theorem dX11_style_0 : decode cX11_style 0 = .ok (.aload_n 0, 1) := by decide +kernel
theorem dX11_style_1 : decode cX11_style 1 = .ok (.iconst 0, 1) := by decide +kernel
theorem dX11_style_2 : decode cX11_style 2 = .ok (.putfield 33, 3) := by decide +kernel
theorem dX11_style_5 : decode cX11_style 5 = .ok (.aload_n 0, 1) := by decide +kernel
theorem dX11_style_6 : decode cX11_style 6 = .ok (.getfield 19, 3) := by decide +kernel
theorem dX11_style_9 : decode cX11_style 9 = .ok (.invokevirtual 51, 3) := by decide +kernel
theorem dX11_style_12 : decode cX11_style 12 = .ok (.iconst 3, 1) := by decide +kernel
theorem dX11_style_13 : decode cX11_style 13 = .ok (.if_icmp .ne 9, 3) := by decide +kernel
theorem dX11_style_16 : decode cX11_style 16 = .ok (.aload_n 0, 1) := by decide +kernel
theorem dX11_style_17 : decode cX11_style 17 = .ok (.iconst 1, 1) := by decide +kernel
theorem dX11_style_18 : decode cX11_style 18 = .ok (.invokevirtual 47, 3) := by decide +kernel
theorem dX11_style_21 : decode cX11_style 21 = .ok (.ireturn, 1) := by decide +kernel
theorem dX11_style_22 : decode cX11_style 22 = .ok (.aload_n 0, 1) := by decide +kernel
theorem dX11_style_23 : decode cX11_style 23 = .ok (.getfield 19, 3) := by decide +kernel
theorem dX11_style_26 : decode cX11_style 26 = .ok (.new 7, 3) := by decide +kernel
theorem dX11_style_29 : decode cX11_style 29 = .ok (.dup, 1) := by decide +kernel
theorem dX11_style_30 : decode cX11_style 30 = .ok (.invokespecial 9, 3) := by decide +kernel
theorem dX11_style_33 : decode cX11_style 33 = .ok (.invokevirtual 79, 3) := by decide +kernel
theorem dX11_style_36 : decode cX11_style 36 = .ok (.pop, 1) := by decide +kernel
theorem dX11_style_37 : decode cX11_style 37 = .ok (.aload_n 0, 1) := by decide +kernel
theorem dX11_style_38 : decode cX11_style 38 = .ok (.getfield 19, 3) := by decide +kernel
theorem dX11_style_41 : decode cX11_style 41 = .ok (.invokevirtual 51, 3) := by decide +kernel
theorem dX11_style_44 : decode cX11_style 44 = .ok (.iconst 1, 1) := by decide +kernel
theorem dX11_style_45 : decode cX11_style 45 = .ok (.isub, 1) := by decide +kernel
theorem dX11_style_46 : decode cX11_style 46 = .ok (.ireturn, 1) := by decide +kernel
theorem dX11_isStyle_0 : decode cX11_isStyle 0 = .ok (.iload_n 1, 1) := by decide +kernel
theorem dX11_isStyle_1 : decode cX11_isStyle 1 = .ok (.iconst 0, 1) := by decide +kernel
theorem dX11_isStyle_2 : decode cX11_isStyle 2 = .ok (.aload_n 0, 1) := by decide +kernel
theorem dX11_isStyle_3 : decode cX11_isStyle 3 = .ok (.getfield 19, 3) := by decide +kernel
theorem dX11_isStyle_6 : decode cX11_isStyle 6 = .ok (.invokevirtual 51, 3) := by decide +kernel
theorem dX11_isStyle_9 : decode cX11_isStyle 9 = .ok (.iconst 1, 1) := by decide +kernel
theorem dX11_isStyle_10 : decode cX11_isStyle 10 = .ok (.isub, 1) := by decide +kernel
theorem dX11_isStyle_11 : decode cX11_isStyle 11 = .ok (.invokestatic 43, 3) := by decide +kernel
theorem dX11_isStyle_14 : decode cX11_isStyle 14 = .ok (.ireturn, 1) := by decide +kernel
theorem dX11_isPart_0 : decode cX11_isPart 0 = .ok (.iload_n 0, 1) := by decide +kernel
theorem dX11_isPart_1 : decode cX11_isPart 1 = .ok (.ifCond .lt 32, 3) := by decide +kernel
theorem dX11_isPart_4 : decode cX11_isPart 4 = .ok (.iload_n 0, 1) := by decide +kernel
theorem dX11_isPart_5 : decode cX11_isPart 5 = .ok (.bipush 10, 2) := by decide +kernel
theorem dX11_isPart_7 : decode cX11_isPart 7 = .ok (.idiv, 1) := by decide +kernel
theorem dX11_isPart_8 : decode cX11_isPart 8 = .ok (.iconst 0, 1) := by decide +kernel
theorem dX11_isPart_9 : decode cX11_isPart 9 = .ok (.iconst 3, 1) := by decide +kernel
theorem dX11_isPart_10 : decode cX11_isPart 10 = .ok (.invokestatic 43, 3) := by decide +kernel
theorem dX11_isPart_13 : decode cX11_isPart 13 = .ok (.ifCond .eq 20, 3) := by decide +kernel
theorem dX11_isPart_16 : decode cX11_isPart 16 = .ok (.iload_n 0, 1) := by decide +kernel
theorem dX11_isPart_17 : decode cX11_isPart 17 = .ok (.bipush 10, 2) := by decide +kernel
theorem dX11_isPart_19 : decode cX11_isPart 19 = .ok (.irem, 1) := by decide +kernel
theorem dX11_isPart_20 : decode cX11_isPart 20 = .ok (.iconst 1, 1) := by decide +kernel
theorem dX11_isPart_21 : decode cX11_isPart 21 = .ok (.bipush 8, 2) := by decide +kernel
theorem dX11_isPart_23 : decode cX11_isPart 23 = .ok (.invokestatic 43, 3) := by decide +kernel
theorem dX11_isPart_26 : decode cX11_isPart 26 = .ok (.ifCond .eq 7, 3) := by decide +kernel
theorem dX11_isPart_29 : decode cX11_isPart 29 = .ok (.iconst 1, 1) := by decide +kernel
theorem dX11_isPart_30 : decode cX11_isPart 30 = .ok (.goto 4, 3) := by decide +kernel
theorem dX11_isPart_33 : decode cX11_isPart 33 = .ok (.iconst 0, 1) := by decide +kernel
theorem dX11_isPart_34 : decode cX11_isPart 34 = .ok (.ireturn, 1) := by decide +kernel
theorem dX11_piece_0 : decode cX11_piece 0 = .ok (.aload_n 0, 1) := by decide +kernel
theorem dX11_piece_1 : decode cX11_piece 1 = .ok (.iconst 0, 1) := by decide +kernel
theorem dX11_piece_2 : decode cX11_piece 2 = .ok (.putfield 33, 3) := by decide +kernel
theorem dX11_piece_5 : decode cX11_piece 5 = .ok (.aload_n 0, 1) := by decide +kernel
theorem dX11_piece_6 : decode cX11_piece 6 = .ok (.iload_n 1, 1) := by decide +kernel
theorem dX11_piece_7 : decode cX11_piece 7 = .ok (.invokevirtual 100, 3) := by decide +kernel
theorem dX11_piece_10 : decode cX11_piece 10 = .ok (.ifCond .ne 9, 3) := by decide +kernel
theorem dX11_piece_13 : decode cX11_piece 13 = .ok (.aload_n 0, 1) := by decide +kernel
theorem dX11_piece_14 : decode cX11_piece 14 = .ok (.iconst 1, 1) := by decide +kernel
theorem dX11_piece_15 : decode cX11_piece 15 = .ok (.invokevirtual 47, 3) := by decide +kernel
theorem dX11_piece_18 : decode cX11_piece 18 = .ok (.ireturn, 1) := by decide +kernel
theorem dX11_piece_19 : decode cX11_piece 19 = .ok (.iload_n 2, 1) := by decide +kernel
theorem dX11_piece_20 : decode cX11_piece 20 = .ok (.invokestatic 103, 3) := by decide +kernel
theorem dX11_piece_23 : decode cX11_piece 23 = .ok (.ifCond .eq 31, 3) := by decide +kernel
theorem dX11_piece_26 : decode cX11_piece 26 = .ok (.iload_n 3, 1) := by decide +kernel
theorem dX11_piece_27 : decode cX11_piece 27 = .ok (.invokestatic 103, 3) := by decide +kernel
theorem dX11_piece_30 : decode cX11_piece 30 = .ok (.ifCond .eq 24, 3) := by decide +kernel
theorem dX11_piece_33 : decode cX11_piece 33 = .ok (.iload 4, 2) := by decide +kernel
theorem dX11_piece_35 : decode cX11_piece 35 = .ok (.iconst 0, 1) := by decide +kernel
theorem dX11_piece_36 : decode cX11_piece 36 = .ok (.bipush 40, 2) := by decide +kernel
theorem dX11_piece_38 : decode cX11_piece 38 = .ok (.invokestatic 43, 3) := by decide +kernel
theorem dX11_piece_41 : decode cX11_piece 41 = .ok (.ifCond .eq 13, 3) := by decide +kernel
theorem dX11_piece_44 : decode cX11_piece 44 = .ok (.iload 5, 2) := by decide +kernel
theorem dX11_piece_46 : decode cX11_piece 46 = .ok (.iconst 1, 1) := by decide +kernel
theorem dX11_piece_47 : decode cX11_piece 47 = .ok (.iconst 4, 1) := by decide +kernel
theorem dX11_piece_48 : decode cX11_piece 48 = .ok (.invokestatic 43, 3) := by decide +kernel
theorem dX11_piece_51 : decode cX11_piece 51 = .ok (.ifCond .ne 9, 3) := by decide +kernel
theorem dX11_piece_54 : decode cX11_piece 54 = .ok (.aload_n 0, 1) := by decide +kernel
theorem dX11_piece_55 : decode cX11_piece 55 = .ok (.iconst 2, 1) := by decide +kernel
theorem dX11_piece_56 : decode cX11_piece 56 = .ok (.invokevirtual 47, 3) := by decide +kernel
theorem dX11_piece_59 : decode cX11_piece 59 = .ok (.ireturn, 1) := by decide +kernel
theorem dX11_piece_60 : decode cX11_piece 60 = .ok (.aload_n 0, 1) := by decide +kernel
theorem dX11_piece_61 : decode cX11_piece 61 = .ok (.getfield 19, 3) := by decide +kernel
theorem dX11_piece_64 : decode cX11_piece 64 = .ok (.iload_n 1, 1) := by decide +kernel
theorem dX11_piece_65 : decode cX11_piece 65 = .ok (.invokevirtual 87, 3) := by decide +kernel
theorem dX11_piece_68 : decode cX11_piece 68 = .ok (.checkcast 7, 3) := by decide +kernel
theorem dX11_piece_71 : decode cX11_piece 71 = .ok (.astore 6, 2) := by decide +kernel
theorem dX11_piece_73 : decode cX11_piece 73 = .ok (.iconst 0, 1) := by decide +kernel
theorem dX11_piece_74 : decode cX11_piece 74 = .ok (.istore 7, 2) := by decide +kernel
theorem dX11_piece_76 : decode cX11_piece 76 = .ok (.aload_n 0, 1) := by decide +kernel
theorem dX11_piece_77 : decode cX11_piece 77 = .ok (.getfield 22, 3) := by decide +kernel
theorem dX11_piece_80 : decode cX11_piece 80 = .ok (.invokevirtual 106, 3) := by decide +kernel
theorem dX11_piece_83 : decode cX11_piece 83 = .ok (.astore 8, 2) := by decide +kernel
theorem dX11_piece_85 : decode cX11_piece 85 = .ok (.aload 8, 2) := by decide +kernel
theorem dX11_piece_87 : decode cX11_piece 87 = .ok (.invokeinterface 110 1, 5) := by decide +kernel
theorem dX11_piece_92 : decode cX11_piece 92 = .ok (.ifCond .eq 37, 3) := by decide +kernel
theorem dX11_piece_95 : decode cX11_piece 95 = .ok (.aload 8, 2) := by decide +kernel
theorem dX11_piece_97 : decode cX11_piece 97 = .ok (.invokeinterface 116 1, 5) := by decide +kernel
theorem dX11_piece_102 : decode cX11_piece 102 = .ok (.checkcast 120, 3) := by decide +kernel
theorem dX11_piece_105 : decode cX11_piece 105 = .ok (.astore 9, 2) := by decide +kernel
theorem dX11_piece_107 : decode cX11_piece 107 = .ok (.iload 7, 2) := by decide +kernel
theorem dX11_piece_109 : decode cX11_piece 109 = .ok (.aload 9, 2) := by decide +kernel
theorem dX11_piece_111 : decode cX11_piece 111 = .ok (.getfield 122, 3) := by decide +kernel
theorem dX11_piece_114 : decode cX11_piece 114 = .ok (.iload_n 1, 1) := by decide +kernel
theorem dX11_piece_115 : decode cX11_piece 115 = .ok (.if_icmp .ne 7, 3) := by decide +kernel
theorem dX11_piece_118 : decode cX11_piece 118 = .ok (.iconst 1, 1) := by decide +kernel
theorem dX11_piece_119 : decode cX11_piece 119 = .ok (.goto 4, 3) := by decide +kernel
theorem dX11_piece_122 : decode cX11_piece 122 = .ok (.iconst 0, 1) := by decide +kernel
theorem dX11_piece_123 : decode cX11_piece 123 = .ok (.ior, 1) := by decide +kernel
theorem dX11_piece_124 : decode cX11_piece 124 = .ok (.istore 7, 2) := by decide +kernel
theorem dX11_piece_126 : decode cX11_piece 126 = .ok (.goto (-41), 3) := by decide +kernel
theorem dX11_piece_129 : decode cX11_piece 129 = .ok (.aload 6, 2) := by decide +kernel
theorem dX11_piece_131 : decode cX11_piece 131 = .ok (.invokevirtual 51, 3) := by decide +kernel
theorem dX11_piece_134 : decode cX11_piece 134 = .ok (.iconst 5, 1) := by decide +kernel
theorem dX11_piece_135 : decode cX11_piece 135 = .ok (.if_icmp .eq 8, 3) := by decide +kernel
theorem dX11_piece_138 : decode cX11_piece 138 = .ok (.iload 7, 2) := by decide +kernel
theorem dX11_piece_140 : decode cX11_piece 140 = .ok (.ifCond .eq 9, 3) := by decide +kernel
theorem dX11_piece_143 : decode cX11_piece 143 = .ok (.aload_n 0, 1) := by decide +kernel
theorem dX11_piece_144 : decode cX11_piece 144 = .ok (.iconst 3, 1) := by decide +kernel
theorem dX11_piece_145 : decode cX11_piece 145 = .ok (.invokevirtual 47, 3) := by decide +kernel
theorem dX11_piece_148 : decode cX11_piece 148 = .ok (.ireturn, 1) := by decide +kernel
theorem dX11_piece_149 : decode cX11_piece 149 = .ok (.iconst 4, 1) := by decide +kernel
theorem dX11_piece_150 : decode cX11_piece 150 = .ok (.newarray .int, 2) := by decide +kernel
theorem dX11_piece_152 : decode cX11_piece 152 = .ok (.dup, 1) := by decide +kernel
theorem dX11_piece_153 : decode cX11_piece 153 = .ok (.iconst 0, 1) := by decide +kernel
theorem dX11_piece_154 : decode cX11_piece 154 = .ok (.iload_n 2, 1) := by decide +kernel
theorem dX11_piece_155 : decode cX11_piece 155 = .ok (.iastore, 1) := by decide +kernel
theorem dX11_piece_156 : decode cX11_piece 156 = .ok (.dup, 1) := by decide +kernel
theorem dX11_piece_157 : decode cX11_piece 157 = .ok (.iconst 1, 1) := by decide +kernel
theorem dX11_piece_158 : decode cX11_piece 158 = .ok (.iload_n 3, 1) := by decide +kernel
theorem dX11_piece_159 : decode cX11_piece 159 = .ok (.iastore, 1) := by decide +kernel
theorem dX11_piece_160 : decode cX11_piece 160 = .ok (.dup, 1) := by decide +kernel
theorem dX11_piece_161 : decode cX11_piece 161 = .ok (.iconst 2, 1) := by decide +kernel
theorem dX11_piece_162 : decode cX11_piece 162 = .ok (.iload 4, 2) := by decide +kernel
theorem dX11_piece_164 : decode cX11_piece 164 = .ok (.iastore, 1) := by decide +kernel
theorem dX11_piece_165 : decode cX11_piece 165 = .ok (.dup, 1) := by decide +kernel
theorem dX11_piece_166 : decode cX11_piece 166 = .ok (.iconst 3, 1) := by decide +kernel
theorem dX11_piece_167 : decode cX11_piece 167 = .ok (.iload 5, 2) := by decide +kernel
theorem dX11_piece_169 : decode cX11_piece 169 = .ok (.iastore, 1) := by decide +kernel
theorem dX11_piece_170 : decode cX11_piece 170 = .ok (.astore 8, 2) := by decide +kernel
theorem dX11_piece_172 : decode cX11_piece 172 = .ok (.aload 6, 2) := by decide +kernel
theorem dX11_piece_174 : decode cX11_piece 174 = .ok (.aload 8, 2) := by decide +kernel
theorem dX11_piece_176 : decode cX11_piece 176 = .ok (.invokevirtual 79, 3) := by decide +kernel
theorem dX11_piece_179 : decode cX11_piece 179 = .ok (.pop, 1) := by decide +kernel
theorem dX11_piece_180 : decode cX11_piece 180 = .ok (.aload 6, 2) := by decide +kernel
theorem dX11_piece_182 : decode cX11_piece 182 = .ok (.invokevirtual 51, 3) := by decide +kernel
theorem dX11_piece_185 : decode cX11_piece 185 = .ok (.ireturn, 1) := by decide +kernel
theorem dX11_hand_0 : decode cX11_hand 0 = .ok (.aload_n 0, 1) := by decide +kernel
theorem dX11_hand_1 : decode cX11_hand 1 = .ok (.iconst 0, 1) := by decide +kernel
theorem dX11_hand_2 : decode cX11_hand 2 = .ok (.putfield 33, 3) := by decide +kernel
theorem dX11_hand_5 : decode cX11_hand 5 = .ok (.iload_n 1, 1) := by decide +kernel
theorem dX11_hand_6 : decode cX11_hand 6 = .ok (.iconst 1, 1) := by decide +kernel
theorem dX11_hand_7 : decode cX11_hand 7 = .ok (.bipush 16, 2) := by decide +kernel
theorem dX11_hand_9 : decode cX11_hand 9 = .ok (.invokestatic 43, 3) := by decide +kernel
theorem dX11_hand_12 : decode cX11_hand 12 = .ok (.ifCond .ne 9, 3) := by decide +kernel
theorem dX11_hand_15 : decode cX11_hand 15 = .ok (.aload_n 0, 1) := by decide +kernel
theorem dX11_hand_16 : decode cX11_hand 16 = .ok (.iconst 1, 1) := by decide +kernel
theorem dX11_hand_17 : decode cX11_hand 17 = .ok (.invokevirtual 47, 3) := by decide +kernel
theorem dX11_hand_20 : decode cX11_hand 20 = .ok (.ireturn, 1) := by decide +kernel
theorem dX11_hand_21 : decode cX11_hand 21 = .ok (.aload_n 0, 1) := by decide +kernel
theorem dX11_hand_22 : decode cX11_hand 22 = .ok (.getfield 125, 3) := by decide +kernel
theorem dX11_hand_25 : decode cX11_hand 25 = .ok (.iconst 3, 1) := by decide +kernel
theorem dX11_hand_26 : decode cX11_hand 26 = .ok (.if_icmp .ne 9, 3) := by decide +kernel
theorem dX11_hand_29 : decode cX11_hand 29 = .ok (.aload_n 0, 1) := by decide +kernel
theorem dX11_hand_30 : decode cX11_hand 30 = .ok (.iconst 2, 1) := by decide +kernel
theorem dX11_hand_31 : decode cX11_hand 31 = .ok (.invokevirtual 47, 3) := by decide +kernel
theorem dX11_hand_34 : decode cX11_hand 34 = .ok (.ireturn, 1) := by decide +kernel
theorem dX11_hand_35 : decode cX11_hand 35 = .ok (.aload_n 0, 1) := by decide +kernel
theorem dX11_hand_36 : decode cX11_hand 36 = .ok (.getfield 29, 3) := by decide +kernel
theorem dX11_hand_39 : decode cX11_hand 39 = .ok (.aload_n 0, 1) := by decide +kernel
theorem dX11_hand_40 : decode cX11_hand 40 = .ok (.getfield 125, 3) := by decide +kernel
theorem dX11_hand_43 : decode cX11_hand 43 = .ok (.iload_n 1, 1) := by decide +kernel
theorem dX11_hand_44 : decode cX11_hand 44 = .ok (.i2f, 1) := by decide +kernel
theorem dX11_hand_45 : decode cX11_hand 45 = .ok (.ldc 128, 2) := by decide +kernel
theorem dX11_hand_47 : decode cX11_hand 47 = .ok (.fdiv, 1) := by decide +kernel
theorem dX11_hand_48 : decode cX11_hand 48 = .ok (.fastore, 1) := by decide +kernel
theorem dX11_hand_49 : decode cX11_hand 49 = .ok (.aload_n 0, 1) := by decide +kernel
theorem dX11_hand_50 : decode cX11_hand 50 = .ok (.dup, 1) := by decide +kernel
theorem dX11_hand_51 : decode cX11_hand 51 = .ok (.getfield 125, 3) := by decide +kernel
theorem dX11_hand_54 : decode cX11_hand 54 = .ok (.iconst 1, 1) := by decide +kernel
theorem dX11_hand_55 : decode cX11_hand 55 = .ok (.iadd, 1) := by decide +kernel
theorem dX11_hand_56 : decode cX11_hand 56 = .ok (.putfield 125, 3) := by decide +kernel
theorem dX11_hand_59 : decode cX11_hand 59 = .ok (.aload_n 0, 1) := by decide +kernel
theorem dX11_hand_60 : decode cX11_hand 60 = .ok (.getfield 125, 3) := by decide +kernel
theorem dX11_hand_63 : decode cX11_hand 63 = .ok (.iconst 1, 1) := by decide +kernel
theorem dX11_hand_64 : decode cX11_hand 64 = .ok (.isub, 1) := by decide +kernel
theorem dX11_hand_65 : decode cX11_hand 65 = .ok (.ireturn, 1) := by decide +kernel
theorem dX11_part_0 : decode cX11_part 0 = .ok (.aload_n 0, 1) := by decide +kernel
theorem dX11_part_1 : decode cX11_part 1 = .ok (.getfield 16, 3) := by decide +kernel
theorem dX11_part_4 : decode cX11_part 4 = .ok (.iload_n 1, 1) := by decide +kernel
theorem dX11_part_5 : decode cX11_part 5 = .ok (.invokevirtual 87, 3) := by decide +kernel
theorem dX11_part_8 : decode cX11_part 8 = .ok (.checkcast 98, 3) := by decide +kernel
theorem dX11_part_11 : decode cX11_part 11 = .ok (.iload_n 2, 1) := by decide +kernel
theorem dX11_part_12 : decode cX11_part 12 = .ok (.bipush 10, 2) := by decide +kernel
theorem dX11_part_14 : decode cX11_part 14 = .ok (.idiv, 1) := by decide +kernel
theorem dX11_part_15 : decode cX11_part 15 = .ok (.iaload, 1) := by decide +kernel
theorem dX11_part_16 : decode cX11_part 16 = .ok (.iload_n 2, 1) := by decide +kernel
theorem dX11_part_17 : decode cX11_part 17 = .ok (.bipush 10, 2) := by decide +kernel
theorem dX11_part_19 : decode cX11_part 19 = .ok (.irem, 1) := by decide +kernel
theorem dX11_part_20 : decode cX11_part 20 = .ok (.imul, 1) := by decide +kernel
theorem dX11_part_21 : decode cX11_part 21 = .ok (.i2d, 1) := by decide +kernel
theorem dX11_part_22 : decode cX11_part 22 = .ok (.ldc2_w 129, 3) := by decide +kernel
theorem dX11_part_25 : decode cX11_part 25 = .ok (.ddiv, 1) := by decide +kernel
theorem dX11_part_26 : decode cX11_part 26 = .ok (.dreturn, 1) := by decide +kernel
theorem dX11_body_0 : decode cX11_body 0 = .ok (.aload_n 0, 1) := by decide +kernel
theorem dX11_body_1 : decode cX11_body 1 = .ok (.iload_n 1, 1) := by decide +kernel
theorem dX11_body_2 : decode cX11_body 2 = .ok (.aload_n 2, 1) := by decide +kernel
theorem dX11_body_3 : decode cX11_body 3 = .ok (.iconst 0, 1) := by decide +kernel
theorem dX11_body_4 : decode cX11_body 4 = .ok (.iaload, 1) := by decide +kernel
theorem dX11_body_5 : decode cX11_body 5 = .ok (.invokevirtual 131, 3) := by decide +kernel
theorem dX11_body_8 : decode cX11_body 8 = .ok (.aload_n 2, 1) := by decide +kernel
theorem dX11_body_9 : decode cX11_body 9 = .ok (.iconst 2, 1) := by decide +kernel
theorem dX11_body_10 : decode cX11_body 10 = .ok (.iaload, 1) := by decide +kernel
theorem dX11_body_11 : decode cX11_body 11 = .ok (.i2d, 1) := by decide +kernel
theorem dX11_body_12 : decode cX11_body 12 = .ok (.ldc2_w 135, 3) := by decide +kernel
theorem dX11_body_15 : decode cX11_body 15 = .ok (.ddiv, 1) := by decide +kernel
theorem dX11_body_16 : decode cX11_body 16 = .ok (.dadd, 1) := by decide +kernel
theorem dX11_body_17 : decode cX11_body 17 = .ok (.dreturn, 1) := by decide +kernel
theorem dX11_body__0 : decode cX11_body_ 0 = .ok (.aload_n 0, 1) := by decide +kernel
theorem dX11_body__1 : decode cX11_body_ 1 = .ok (.aload_n 1, 1) := by decide +kernel
theorem dX11_body__2 : decode cX11_body_ 2 = .ok (.getfield 137, 3) := by decide +kernel
theorem dX11_body__5 : decode cX11_body_ 5 = .ok (.aload_n 0, 1) := by decide +kernel
theorem dX11_body__6 : decode cX11_body_ 6 = .ok (.getfield 19, 3) := by decide +kernel
theorem dX11_body__9 : decode cX11_body_ 9 = .ok (.aload_n 1, 1) := by decide +kernel
theorem dX11_body__10 : decode cX11_body_ 10 = .ok (.getfield 122, 3) := by decide +kernel
theorem dX11_body__13 : decode cX11_body_ 13 = .ok (.invokevirtual 87, 3) := by decide +kernel
theorem dX11_body__16 : decode cX11_body_ 16 = .ok (.checkcast 7, 3) := by decide +kernel
theorem dX11_body__19 : decode cX11_body_ 19 = .ok (.iload_n 2, 1) := by decide +kernel
theorem dX11_body__20 : decode cX11_body_ 20 = .ok (.invokevirtual 87, 3) := by decide +kernel
theorem dX11_body__23 : decode cX11_body_ 23 = .ok (.checkcast 98, 3) := by decide +kernel
theorem dX11_body__26 : decode cX11_body_ 26 = .ok (.invokevirtual 140, 3) := by decide +kernel
theorem dX11_body__29 : decode cX11_body_ 29 = .ok (.dreturn, 1) := by decide +kernel
theorem dX11_pieces_0 : decode cX11_pieces 0 = .ok (.iconst 0, 1) := by decide +kernel
theorem dX11_pieces_1 : decode cX11_pieces 1 = .ok (.istore_n 2, 1) := by decide +kernel
theorem dX11_pieces_2 : decode cX11_pieces 2 = .ok (.aload_n 0, 1) := by decide +kernel
theorem dX11_pieces_3 : decode cX11_pieces 3 = .ok (.getfield 19, 3) := by decide +kernel
theorem dX11_pieces_6 : decode cX11_pieces 6 = .ok (.aload_n 1, 1) := by decide +kernel
theorem dX11_pieces_7 : decode cX11_pieces 7 = .ok (.getfield 122, 3) := by decide +kernel
theorem dX11_pieces_10 : decode cX11_pieces 10 = .ok (.invokevirtual 87, 3) := by decide +kernel
theorem dX11_pieces_13 : decode cX11_pieces 13 = .ok (.checkcast 7, 3) := by decide +kernel
theorem dX11_pieces_16 : decode cX11_pieces 16 = .ok (.invokevirtual 106, 3) := by decide +kernel
theorem dX11_pieces_19 : decode cX11_pieces 19 = .ok (.astore_n 3, 1) := by decide +kernel
theorem dX11_pieces_20 : decode cX11_pieces 20 = .ok (.aload_n 3, 1) := by decide +kernel
theorem dX11_pieces_21 : decode cX11_pieces 21 = .ok (.invokeinterface 110 1, 5) := by decide +kernel
theorem dX11_pieces_26 : decode cX11_pieces 26 = .ok (.ifCond .eq 24, 3) := by decide +kernel
theorem dX11_pieces_29 : decode cX11_pieces 29 = .ok (.aload_n 3, 1) := by decide +kernel
theorem dX11_pieces_30 : decode cX11_pieces 30 = .ok (.invokeinterface 116 1, 5) := by decide +kernel
theorem dX11_pieces_35 : decode cX11_pieces 35 = .ok (.checkcast 98, 3) := by decide +kernel
theorem dX11_pieces_38 : decode cX11_pieces 38 = .ok (.astore 4, 2) := by decide +kernel
theorem dX11_pieces_40 : decode cX11_pieces 40 = .ok (.iload_n 2, 1) := by decide +kernel
theorem dX11_pieces_41 : decode cX11_pieces 41 = .ok (.aload 4, 2) := by decide +kernel
theorem dX11_pieces_43 : decode cX11_pieces 43 = .ok (.iconst 3, 1) := by decide +kernel
theorem dX11_pieces_44 : decode cX11_pieces 44 = .ok (.iaload, 1) := by decide +kernel
theorem dX11_pieces_45 : decode cX11_pieces 45 = .ok (.iadd, 1) := by decide +kernel
theorem dX11_pieces_46 : decode cX11_pieces 46 = .ok (.istore_n 2, 1) := by decide +kernel
theorem dX11_pieces_47 : decode cX11_pieces 47 = .ok (.goto (-27), 3) := by decide +kernel
theorem dX11_pieces_50 : decode cX11_pieces 50 = .ok (.iload_n 2, 1) := by decide +kernel
theorem dX11_pieces_51 : decode cX11_pieces 51 = .ok (.ireturn, 1) := by decide +kernel
theorem dX11_lay_0 : decode cX11_lay 0 = .ok (.new 144, 3) := by decide +kernel
theorem dX11_lay_3 : decode cX11_lay 3 = .ok (.dup, 1) := by decide +kernel
theorem dX11_lay_4 : decode cX11_lay 4 = .ok (.invokespecial 146, 3) := by decide +kernel
theorem dX11_lay_7 : decode cX11_lay 7 = .ok (.astore 4, 2) := by decide +kernel
theorem dX11_lay_9 : decode cX11_lay 9 = .ok (.aload_n 0, 1) := by decide +kernel
theorem dX11_lay_10 : decode cX11_lay 10 = .ok (.aload_n 0, 1) := by decide +kernel
theorem dX11_lay_11 : decode cX11_lay 11 = .ok (.getfield 22, 3) := by decide +kernel
theorem dX11_lay_14 : decode cX11_lay 14 = .ok (.iload_n 1, 1) := by decide +kernel
theorem dX11_lay_15 : decode cX11_lay 15 = .ok (.invokevirtual 87, 3) := by decide +kernel
theorem dX11_lay_18 : decode cX11_lay 18 = .ok (.checkcast 120, 3) := by decide +kernel
theorem dX11_lay_21 : decode cX11_lay 21 = .ok (.invokevirtual 147, 3) := by decide +kernel
theorem dX11_lay_24 : decode cX11_lay 24 = .ok (.iload_n 2, 1) := by decide +kernel
theorem dX11_lay_25 : decode cX11_lay 25 = .ok (.iconst (-1), 1) := by decide +kernel
theorem dX11_lay_26 : decode cX11_lay 26 = .ok (.if_icmp .ne 7, 3) := by decide +kernel
theorem dX11_lay_29 : decode cX11_lay 29 = .ok (.iconst 0, 1) := by decide +kernel
theorem dX11_lay_30 : decode cX11_lay 30 = .ok (.goto 18, 3) := by decide +kernel
theorem dX11_lay_33 : decode cX11_lay 33 = .ok (.aload_n 0, 1) := by decide +kernel
theorem dX11_lay_34 : decode cX11_lay 34 = .ok (.aload_n 0, 1) := by decide +kernel
theorem dX11_lay_35 : decode cX11_lay 35 = .ok (.getfield 22, 3) := by decide +kernel
theorem dX11_lay_38 : decode cX11_lay 38 = .ok (.iload_n 2, 1) := by decide +kernel
theorem dX11_lay_39 : decode cX11_lay 39 = .ok (.invokevirtual 87, 3) := by decide +kernel
theorem dX11_lay_42 : decode cX11_lay 42 = .ok (.checkcast 120, 3) := by decide +kernel
theorem dX11_lay_45 : decode cX11_lay 45 = .ok (.invokevirtual 147, 3) := by decide +kernel
theorem dX11_lay_48 : decode cX11_lay 48 = .ok (.iadd, 1) := by decide +kernel
theorem dX11_lay_49 : decode cX11_lay 49 = .ok (.istore 5, 2) := by decide +kernel
theorem dX11_lay_51 : decode cX11_lay 51 = .ok (.iload 5, 2) := by decide +kernel
theorem dX11_lay_53 : decode cX11_lay 53 = .ok (.newarray .double, 2) := by decide +kernel
theorem dX11_lay_55 : decode cX11_lay 55 = .ok (.astore 6, 2) := by decide +kernel
theorem dX11_lay_57 : decode cX11_lay 57 = .ok (.iload 5, 2) := by decide +kernel
theorem dX11_lay_59 : decode cX11_lay 59 = .ok (.newarray .double, 2) := by decide +kernel
theorem dX11_lay_61 : decode cX11_lay 61 = .ok (.astore 7, 2) := by decide +kernel
theorem dX11_lay_63 : decode cX11_lay 63 = .ok (.iconst 0, 1) := by decide +kernel
theorem dX11_lay_64 : decode cX11_lay 64 = .ok (.istore 8, 2) := by decide +kernel
theorem dX11_lay_66 : decode cX11_lay 66 = .ok (.iload 8, 2) := by decide +kernel
theorem dX11_lay_68 : decode cX11_lay 68 = .ok (.iconst 2, 1) := by decide +kernel
theorem dX11_lay_69 : decode cX11_lay 69 = .ok (.if_icmp .ge 259, 3) := by decide +kernel
theorem dX11_lay_72 : decode cX11_lay 72 = .ok (.iload 8, 2) := by decide +kernel
theorem dX11_lay_74 : decode cX11_lay 74 = .ok (.ifCond .ne 7, 3) := by decide +kernel
theorem dX11_lay_77 : decode cX11_lay 77 = .ok (.iload_n 1, 1) := by decide +kernel
theorem dX11_lay_78 : decode cX11_lay 78 = .ok (.goto 4, 3) := by decide +kernel
theorem dX11_lay_81 : decode cX11_lay 81 = .ok (.iload_n 2, 1) := by decide +kernel
theorem dX11_lay_82 : decode cX11_lay 82 = .ok (.istore 9, 2) := by decide +kernel
theorem dX11_lay_84 : decode cX11_lay 84 = .ok (.iload 9, 2) := by decide +kernel
theorem dX11_lay_86 : decode cX11_lay 86 = .ok (.iconst (-1), 1) := by decide +kernel
theorem dX11_lay_87 : decode cX11_lay 87 = .ok (.if_icmp .ne 6, 3) := by decide +kernel
theorem dX11_lay_90 : decode cX11_lay 90 = .ok (.goto 232, 3) := by decide +kernel
theorem dX11_lay_93 : decode cX11_lay 93 = .ok (.aload_n 0, 1) := by decide +kernel
theorem dX11_lay_94 : decode cX11_lay 94 = .ok (.getfield 22, 3) := by decide +kernel
theorem dX11_lay_97 : decode cX11_lay 97 = .ok (.iload 9, 2) := by decide +kernel
theorem dX11_lay_99 : decode cX11_lay 99 = .ok (.invokevirtual 87, 3) := by decide +kernel
theorem dX11_lay_102 : decode cX11_lay 102 = .ok (.checkcast 120, 3) := by decide +kernel
theorem dX11_lay_105 : decode cX11_lay 105 = .ok (.astore 10, 2) := by decide +kernel
theorem dX11_lay_107 : decode cX11_lay 107 = .ok (.aload_n 0, 1) := by decide +kernel
theorem dX11_lay_108 : decode cX11_lay 108 = .ok (.getfield 19, 3) := by decide +kernel
theorem dX11_lay_111 : decode cX11_lay 111 = .ok (.aload 10, 2) := by decide +kernel
theorem dX11_lay_113 : decode cX11_lay 113 = .ok (.getfield 122, 3) := by decide +kernel
theorem dX11_lay_116 : decode cX11_lay 116 = .ok (.invokevirtual 87, 3) := by decide +kernel
theorem dX11_lay_119 : decode cX11_lay 119 = .ok (.checkcast 7, 3) := by decide +kernel
theorem dX11_lay_122 : decode cX11_lay 122 = .ok (.invokevirtual 106, 3) := by decide +kernel
theorem dX11_lay_125 : decode cX11_lay 125 = .ok (.astore 11, 2) := by decide +kernel
theorem dX11_lay_127 : decode cX11_lay 127 = .ok (.aload 11, 2) := by decide +kernel
theorem dX11_lay_129 : decode cX11_lay 129 = .ok (.invokeinterface 110 1, 5) := by decide +kernel
theorem dX11_lay_134 : decode cX11_lay 134 = .ok (.ifCond .eq 188, 3) := by decide +kernel
theorem dX11_lay_137 : decode cX11_lay 137 = .ok (.aload 11, 2) := by decide +kernel
theorem dX11_lay_139 : decode cX11_lay 139 = .ok (.invokeinterface 116 1, 5) := by decide +kernel
theorem dX11_lay_144 : decode cX11_lay 144 = .ok (.checkcast 98, 3) := by decide +kernel
theorem dX11_lay_147 : decode cX11_lay 147 = .ok (.astore 12, 2) := by decide +kernel
theorem dX11_lay_149 : decode cX11_lay 149 = .ok (.aload_n 0, 1) := by decide +kernel
theorem dX11_lay_150 : decode cX11_lay 150 = .ok (.aload 10, 2) := by decide +kernel
theorem dX11_lay_152 : decode cX11_lay 152 = .ok (.getfield 137, 3) := by decide +kernel
theorem dX11_lay_155 : decode cX11_lay 155 = .ok (.aload 12, 2) := by decide +kernel
theorem dX11_lay_157 : decode cX11_lay 157 = .ok (.invokevirtual 140, 3) := by decide +kernel
theorem dX11_lay_160 : decode cX11_lay 160 = .ok (.ldc2_w 151, 3) := by decide +kernel
theorem dX11_lay_163 : decode cX11_lay 163 = .ok (.dadd, 1) := by decide +kernel
theorem dX11_lay_164 : decode cX11_lay 164 = .ok (.aload_n 3, 1) := by decide +kernel
theorem dX11_lay_165 : decode cX11_lay 165 = .ok (.invokevirtual 91, 3) := by decide +kernel
theorem dX11_lay_168 : decode cX11_lay 168 = .ok (.ddiv, 1) := by decide +kernel
theorem dX11_lay_169 : decode cX11_lay 169 = .ok (.dstore 13, 2) := by decide +kernel
theorem dX11_lay_171 : decode cX11_lay 171 = .ok (.aload_n 0, 1) := by decide +kernel
theorem dX11_lay_172 : decode cX11_lay 172 = .ok (.aload 10, 2) := by decide +kernel
theorem dX11_lay_174 : decode cX11_lay 174 = .ok (.getfield 137, 3) := by decide +kernel
theorem dX11_lay_177 : decode cX11_lay 177 = .ok (.aload 12, 2) := by decide +kernel
theorem dX11_lay_179 : decode cX11_lay 179 = .ok (.iconst 1, 1) := by decide +kernel
theorem dX11_lay_180 : decode cX11_lay 180 = .ok (.iaload, 1) := by decide +kernel
theorem dX11_lay_181 : decode cX11_lay 181 = .ok (.invokevirtual 131, 3) := by decide +kernel
theorem dX11_lay_184 : decode cX11_lay 184 = .ok (.ldc2_w 151, 3) := by decide +kernel
theorem dX11_lay_187 : decode cX11_lay 187 = .ok (.dadd, 1) := by decide +kernel
theorem dX11_lay_188 : decode cX11_lay 188 = .ok (.aload_n 3, 1) := by decide +kernel
theorem dX11_lay_189 : decode cX11_lay 189 = .ok (.invokevirtual 91, 3) := by decide +kernel
theorem dX11_lay_192 : decode cX11_lay 192 = .ok (.ddiv, 1) := by decide +kernel
theorem dX11_lay_193 : decode cX11_lay 193 = .ok (.dstore 15, 2) := by decide +kernel
theorem dX11_lay_195 : decode cX11_lay 195 = .ok (.iconst 0, 1) := by decide +kernel
theorem dX11_lay_196 : decode cX11_lay 196 = .ok (.istore 17, 2) := by decide +kernel
theorem dX11_lay_198 : decode cX11_lay 198 = .ok (.iload 17, 2) := by decide +kernel
theorem dX11_lay_200 : decode cX11_lay 200 = .ok (.aload 12, 2) := by decide +kernel
theorem dX11_lay_202 : decode cX11_lay 202 = .ok (.iconst 3, 1) := by decide +kernel
theorem dX11_lay_203 : decode cX11_lay 203 = .ok (.iaload, 1) := by decide +kernel
theorem dX11_lay_204 : decode cX11_lay 204 = .ok (.if_icmp .ge 115, 3) := by decide +kernel
theorem dX11_lay_207 : decode cX11_lay 207 = .ok (.aload 4, 2) := by decide +kernel
theorem dX11_lay_209 : decode cX11_lay 209 = .ok (.getfield 153, 3) := by decide +kernel
theorem dX11_lay_212 : decode cX11_lay 212 = .ok (.istore 18, 2) := by decide +kernel
theorem dX11_lay_214 : decode cX11_lay 214 = .ok (.iload 18, 2) := by decide +kernel
theorem dX11_lay_216 : decode cX11_lay 216 = .ok (.ifCond .le 72, 3) := by decide +kernel
theorem dX11_lay_219 : decode cX11_lay 219 = .ok (.aload 7, 2) := by decide +kernel
theorem dX11_lay_221 : decode cX11_lay 221 = .ok (.iload 18, 2) := by decide +kernel
theorem dX11_lay_223 : decode cX11_lay 223 = .ok (.iconst 1, 1) := by decide +kernel
theorem dX11_lay_224 : decode cX11_lay 224 = .ok (.isub, 1) := by decide +kernel
theorem dX11_lay_225 : decode cX11_lay 225 = .ok (.daload, 1) := by decide +kernel
theorem dX11_lay_226 : decode cX11_lay 226 = .ok (.dload 15, 2) := by decide +kernel
theorem dX11_lay_228 : decode cX11_lay 228 = .ok (.dcmp .g, 1) := by decide +kernel
theorem dX11_lay_229 : decode cX11_lay 229 = .ok (.ifCond .lt 29, 3) := by decide +kernel
theorem dX11_lay_232 : decode cX11_lay 232 = .ok (.aload 7, 2) := by decide +kernel
theorem dX11_lay_234 : decode cX11_lay 234 = .ok (.iload 18, 2) := by decide +kernel
theorem dX11_lay_236 : decode cX11_lay 236 = .ok (.iconst 1, 1) := by decide +kernel
theorem dX11_lay_237 : decode cX11_lay 237 = .ok (.isub, 1) := by decide +kernel
theorem dX11_lay_238 : decode cX11_lay 238 = .ok (.daload, 1) := by decide +kernel
theorem dX11_lay_239 : decode cX11_lay 239 = .ok (.dload 15, 2) := by decide +kernel
theorem dX11_lay_241 : decode cX11_lay 241 = .ok (.dcmp .l, 1) := by decide +kernel
theorem dX11_lay_242 : decode cX11_lay 242 = .ok (.ifCond .ne 46, 3) := by decide +kernel
theorem dX11_lay_245 : decode cX11_lay 245 = .ok (.aload 6, 2) := by decide +kernel
theorem dX11_lay_247 : decode cX11_lay 247 = .ok (.iload 18, 2) := by decide +kernel
theorem dX11_lay_249 : decode cX11_lay 249 = .ok (.iconst 1, 1) := by decide +kernel
theorem dX11_lay_250 : decode cX11_lay 250 = .ok (.isub, 1) := by decide +kernel
theorem dX11_lay_251 : decode cX11_lay 251 = .ok (.daload, 1) := by decide +kernel
theorem dX11_lay_252 : decode cX11_lay 252 = .ok (.dload 13, 2) := by decide +kernel
theorem dX11_lay_254 : decode cX11_lay 254 = .ok (.dcmp .g, 1) := by decide +kernel
theorem dX11_lay_255 : decode cX11_lay 255 = .ok (.ifCond .ge 33, 3) := by decide +kernel
theorem dX11_lay_258 : decode cX11_lay 258 = .ok (.aload 7, 2) := by decide +kernel
theorem dX11_lay_260 : decode cX11_lay 260 = .ok (.iload 18, 2) := by decide +kernel
theorem dX11_lay_262 : decode cX11_lay 262 = .ok (.aload 7, 2) := by decide +kernel
theorem dX11_lay_264 : decode cX11_lay 264 = .ok (.iload 18, 2) := by decide +kernel
theorem dX11_lay_266 : decode cX11_lay 266 = .ok (.iconst 1, 1) := by decide +kernel
theorem dX11_lay_267 : decode cX11_lay 267 = .ok (.isub, 1) := by decide +kernel
theorem dX11_lay_268 : decode cX11_lay 268 = .ok (.daload, 1) := by decide +kernel
theorem dX11_lay_269 : decode cX11_lay 269 = .ok (.dastore, 1) := by decide +kernel
theorem dX11_lay_270 : decode cX11_lay 270 = .ok (.aload 6, 2) := by decide +kernel
theorem dX11_lay_272 : decode cX11_lay 272 = .ok (.iload 18, 2) := by decide +kernel
theorem dX11_lay_274 : decode cX11_lay 274 = .ok (.aload 6, 2) := by decide +kernel
theorem dX11_lay_276 : decode cX11_lay 276 = .ok (.iload 18, 2) := by decide +kernel
theorem dX11_lay_278 : decode cX11_lay 278 = .ok (.iconst 1, 1) := by decide +kernel
theorem dX11_lay_279 : decode cX11_lay 279 = .ok (.isub, 1) := by decide +kernel
theorem dX11_lay_280 : decode cX11_lay 280 = .ok (.daload, 1) := by decide +kernel
theorem dX11_lay_281 : decode cX11_lay 281 = .ok (.dastore, 1) := by decide +kernel
theorem dX11_lay_282 : decode cX11_lay 282 = .ok (.iinc 18 (-1), 3) := by decide +kernel
theorem dX11_lay_285 : decode cX11_lay 285 = .ok (.goto (-71), 3) := by decide +kernel
theorem dX11_lay_288 : decode cX11_lay 288 = .ok (.aload 7, 2) := by decide +kernel
theorem dX11_lay_290 : decode cX11_lay 290 = .ok (.iload 18, 2) := by decide +kernel
theorem dX11_lay_292 : decode cX11_lay 292 = .ok (.dload 15, 2) := by decide +kernel
theorem dX11_lay_294 : decode cX11_lay 294 = .ok (.dastore, 1) := by decide +kernel
theorem dX11_lay_295 : decode cX11_lay 295 = .ok (.aload 6, 2) := by decide +kernel
theorem dX11_lay_297 : decode cX11_lay 297 = .ok (.iload 18, 2) := by decide +kernel
theorem dX11_lay_299 : decode cX11_lay 299 = .ok (.dload 13, 2) := by decide +kernel
theorem dX11_lay_301 : decode cX11_lay 301 = .ok (.dastore, 1) := by decide +kernel
theorem dX11_lay_302 : decode cX11_lay 302 = .ok (.aload 4, 2) := by decide +kernel
theorem dX11_lay_304 : decode cX11_lay 304 = .ok (.dup, 1) := by decide +kernel
theorem dX11_lay_305 : decode cX11_lay 305 = .ok (.getfield 153, 3) := by decide +kernel
theorem dX11_lay_308 : decode cX11_lay 308 = .ok (.iconst 1, 1) := by decide +kernel
theorem dX11_lay_309 : decode cX11_lay 309 = .ok (.iadd, 1) := by decide +kernel
theorem dX11_lay_310 : decode cX11_lay 310 = .ok (.putfield 153, 3) := by decide +kernel
theorem dX11_lay_313 : decode cX11_lay 313 = .ok (.iinc 17 1, 3) := by decide +kernel
theorem dX11_lay_316 : decode cX11_lay 316 = .ok (.goto (-118), 3) := by decide +kernel
theorem dX11_lay_319 : decode cX11_lay 319 = .ok (.goto (-192), 3) := by decide +kernel
theorem dX11_lay_322 : decode cX11_lay 322 = .ok (.iinc 8 1, 3) := by decide +kernel
theorem dX11_lay_325 : decode cX11_lay 325 = .ok (.goto (-259), 3) := by decide +kernel
theorem dX11_lay_328 : decode cX11_lay 328 = .ok (.aload 4, 2) := by decide +kernel
theorem dX11_lay_330 : decode cX11_lay 330 = .ok (.aload 6, 2) := by decide +kernel
theorem dX11_lay_332 : decode cX11_lay 332 = .ok (.aload 7, 2) := by decide +kernel
theorem dX11_lay_334 : decode cX11_lay 334 = .ok (.aload_n 3, 1) := by decide +kernel
theorem dX11_lay_335 : decode cX11_lay 335 = .ok (.invokestatic 155, 3) := by decide +kernel
theorem dX11_lay_338 : decode cX11_lay 338 = .ok (.aload 4, 2) := by decide +kernel
theorem dX11_lay_340 : decode cX11_lay 340 = .ok (.areturn, 1) := by decide +kernel
theorem dX11_place_0 : decode cX11_place 0 = .ok (.aload_n 1, 1) := by decide +kernel
theorem dX11_place_1 : decode cX11_place 1 = .ok (.arraylength, 1) := by decide +kernel
theorem dX11_place_2 : decode cX11_place 2 = .ok (.newarray .double, 2) := by decide +kernel
theorem dX11_place_4 : decode cX11_place 4 = .ok (.astore 4, 2) := by decide +kernel
theorem dX11_place_6 : decode cX11_place 6 = .ok (.aload_n 1, 1) := by decide +kernel
theorem dX11_place_7 : decode cX11_place 7 = .ok (.arraylength, 1) := by decide +kernel
theorem dX11_place_8 : decode cX11_place 8 = .ok (.newarray .double, 2) := by decide +kernel
theorem dX11_place_10 : decode cX11_place 10 = .ok (.astore 5, 2) := by decide +kernel
theorem dX11_place_12 : decode cX11_place 12 = .ok (.iconst 0, 1) := by decide +kernel
theorem dX11_place_13 : decode cX11_place 13 = .ok (.istore 6, 2) := by decide +kernel
theorem dX11_place_15 : decode cX11_place 15 = .ok (.iconst 0, 1) := by decide +kernel
theorem dX11_place_16 : decode cX11_place 16 = .ok (.istore 7, 2) := by decide +kernel
theorem dX11_place_18 : decode cX11_place 18 = .ok (.dconst 0, 1) := by decide +kernel
theorem dX11_place_19 : decode cX11_place 19 = .ok (.dstore 8, 2) := by decide +kernel
theorem dX11_place_21 : decode cX11_place 21 = .ok (.iconst 0, 1) := by decide +kernel
theorem dX11_place_22 : decode cX11_place 22 = .ok (.istore 10, 2) := by decide +kernel
theorem dX11_place_24 : decode cX11_place 24 = .ok (.iload 10, 2) := by decide +kernel
theorem dX11_place_26 : decode cX11_place 26 = .ok (.aload_n 1, 1) := by decide +kernel
theorem dX11_place_27 : decode cX11_place 27 = .ok (.arraylength, 1) := by decide +kernel
theorem dX11_place_28 : decode cX11_place 28 = .ok (.if_icmp .ge 271, 3) := by decide +kernel
theorem dX11_place_31 : decode cX11_place 31 = .ok (.dload 8, 2) := by decide +kernel
theorem dX11_place_33 : decode cX11_place 33 = .ok (.aload_n 1, 1) := by decide +kernel
theorem dX11_place_34 : decode cX11_place 34 = .ok (.iload 10, 2) := by decide +kernel
theorem dX11_place_36 : decode cX11_place 36 = .ok (.daload, 1) := by decide +kernel
theorem dX11_place_37 : decode cX11_place 37 = .ok (.aload_n 2, 1) := by decide +kernel
theorem dX11_place_38 : decode cX11_place 38 = .ok (.iload 10, 2) := by decide +kernel
theorem dX11_place_40 : decode cX11_place 40 = .ok (.daload, 1) := by decide +kernel
theorem dX11_place_41 : decode cX11_place 41 = .ok (.dmul, 1) := by decide +kernel
theorem dX11_place_42 : decode cX11_place 42 = .ok (.dadd, 1) := by decide +kernel
theorem dX11_place_43 : decode cX11_place 43 = .ok (.dstore 8, 2) := by decide +kernel
theorem dX11_place_45 : decode cX11_place 45 = .ok (.aload 4, 2) := by decide +kernel
theorem dX11_place_47 : decode cX11_place 47 = .ok (.aload 5, 2) := by decide +kernel
theorem dX11_place_49 : decode cX11_place 49 = .ok (.iload 6, 2) := by decide +kernel
theorem dX11_place_51 : decode cX11_place 51 = .ok (.aload_n 1, 1) := by decide +kernel
theorem dX11_place_52 : decode cX11_place 52 = .ok (.iload 10, 2) := by decide +kernel
theorem dX11_place_54 : decode cX11_place 54 = .ok (.daload, 1) := by decide +kernel
theorem dX11_place_55 : decode cX11_place 55 = .ok (.aload_n 2, 1) := by decide +kernel
theorem dX11_place_56 : decode cX11_place 56 = .ok (.iload 10, 2) := by decide +kernel
theorem dX11_place_58 : decode cX11_place 58 = .ok (.daload, 1) := by decide +kernel
theorem dX11_place_59 : decode cX11_place 59 = .ok (.invokestatic 159, 3) := by decide +kernel
theorem dX11_place_62 : decode cX11_place 62 = .ok (.istore 11, 2) := by decide +kernel
theorem dX11_place_64 : decode cX11_place 64 = .ok (.iload 11, 2) := by decide +kernel
theorem dX11_place_66 : decode cX11_place 66 = .ok (.iload 6, 2) := by decide +kernel
theorem dX11_place_68 : decode cX11_place 68 = .ok (.if_icmp .ge 21, 3) := by decide +kernel
theorem dX11_place_71 : decode cX11_place 71 = .ok (.aload 5, 2) := by decide +kernel
theorem dX11_place_73 : decode cX11_place 73 = .ok (.iload 11, 2) := by decide +kernel
theorem dX11_place_75 : decode cX11_place 75 = .ok (.aload 5, 2) := by decide +kernel
theorem dX11_place_77 : decode cX11_place 77 = .ok (.iload 11, 2) := by decide +kernel
theorem dX11_place_79 : decode cX11_place 79 = .ok (.daload, 1) := by decide +kernel
theorem dX11_place_80 : decode cX11_place 80 = .ok (.aload_n 1, 1) := by decide +kernel
theorem dX11_place_81 : decode cX11_place 81 = .ok (.iload 10, 2) := by decide +kernel
theorem dX11_place_83 : decode cX11_place 83 = .ok (.daload, 1) := by decide +kernel
theorem dX11_place_84 : decode cX11_place 84 = .ok (.dsub, 1) := by decide +kernel
theorem dX11_place_85 : decode cX11_place 85 = .ok (.dastore, 1) := by decide +kernel
theorem dX11_place_86 : decode cX11_place 86 = .ok (.goto 207, 3) := by decide +kernel
theorem dX11_place_89 : decode cX11_place 89 = .ok (.aload_n 3, 1) := by decide +kernel
theorem dX11_place_90 : decode cX11_place 90 = .ok (.getfield 72, 3) := by decide +kernel
theorem dX11_place_93 : decode cX11_place 93 = .ok (.ifCond .eq 8, 3) := by decide +kernel
theorem dX11_place_96 : decode cX11_place 96 = .ok (.iload 6, 2) := by decide +kernel
theorem dX11_place_98 : decode cX11_place 98 = .ok (.goto 20, 3) := by decide +kernel
theorem dX11_place_101 : decode cX11_place 101 = .ok (.aload 4, 2) := by decide +kernel
theorem dX11_place_103 : decode cX11_place 103 = .ok (.aload 5, 2) := by decide +kernel
theorem dX11_place_105 : decode cX11_place 105 = .ok (.iload 6, 2) := by decide +kernel
theorem dX11_place_107 : decode cX11_place 107 = .ok (.aload_n 2, 1) := by decide +kernel
theorem dX11_place_108 : decode cX11_place 108 = .ok (.iload 10, 2) := by decide +kernel
theorem dX11_place_110 : decode cX11_place 110 = .ok (.daload, 1) := by decide +kernel
theorem dX11_place_111 : decode cX11_place 111 = .ok (.aload_n 1, 1) := by decide +kernel
theorem dX11_place_112 : decode cX11_place 112 = .ok (.iload 10, 2) := by decide +kernel
theorem dX11_place_114 : decode cX11_place 114 = .ok (.daload, 1) := by decide +kernel
theorem dX11_place_115 : decode cX11_place 115 = .ok (.invokestatic 159, 3) := by decide +kernel
theorem dX11_place_118 : decode cX11_place 118 = .ok (.istore 11, 2) := by decide +kernel
theorem dX11_place_120 : decode cX11_place 120 = .ok (.iload 11, 2) := by decide +kernel
theorem dX11_place_122 : decode cX11_place 122 = .ok (.iload 6, 2) := by decide +kernel
theorem dX11_place_124 : decode cX11_place 124 = .ok (.if_icmp .ge 24, 3) := by decide +kernel
theorem dX11_place_127 : decode cX11_place 127 = .ok (.aload 5, 2) := by decide +kernel
theorem dX11_place_129 : decode cX11_place 129 = .ok (.iload 11, 2) := by decide +kernel
theorem dX11_place_131 : decode cX11_place 131 = .ok (.aload 5, 2) := by decide +kernel
theorem dX11_place_133 : decode cX11_place 133 = .ok (.iload 11, 2) := by decide +kernel
theorem dX11_place_135 : decode cX11_place 135 = .ok (.daload, 1) := by decide +kernel
theorem dX11_place_136 : decode cX11_place 136 = .ok (.aload_n 2, 1) := by decide +kernel
theorem dX11_place_137 : decode cX11_place 137 = .ok (.iload 10, 2) := by decide +kernel
theorem dX11_place_139 : decode cX11_place 139 = .ok (.daload, 1) := by decide +kernel
theorem dX11_place_140 : decode cX11_place 140 = .ok (.dsub, 1) := by decide +kernel
theorem dX11_place_141 : decode cX11_place 141 = .ok (.dastore, 1) := by decide +kernel
theorem dX11_place_142 : decode cX11_place 142 = .ok (.iinc 7 1, 3) := by decide +kernel
theorem dX11_place_145 : decode cX11_place 145 = .ok (.goto 148, 3) := by decide +kernel
theorem dX11_place_148 : decode cX11_place 148 = .ok (.aload_n 1, 1) := by decide +kernel
theorem dX11_place_149 : decode cX11_place 149 = .ok (.iload 10, 2) := by decide +kernel
theorem dX11_place_151 : decode cX11_place 151 = .ok (.daload, 1) := by decide +kernel
theorem dX11_place_152 : decode cX11_place 152 = .ok (.aload_n 3, 1) := by decide +kernel
theorem dX11_place_153 : decode cX11_place 153 = .ok (.getfield 58, 3) := by decide +kernel
theorem dX11_place_156 : decode cX11_place 156 = .ok (.dcmp .l, 1) := by decide +kernel
theorem dX11_place_157 : decode cX11_place 157 = .ok (.ifCond .le 7, 3) := by decide +kernel
theorem dX11_place_160 : decode cX11_place 160 = .ok (.iconst 1, 1) := by decide +kernel
theorem dX11_place_161 : decode cX11_place 161 = .ok (.goto 4, 3) := by decide +kernel
theorem dX11_place_164 : decode cX11_place 164 = .ok (.iconst 0, 1) := by decide +kernel
theorem dX11_place_165 : decode cX11_place 165 = .ok (.istore 12, 2) := by decide +kernel
theorem dX11_place_167 : decode cX11_place 167 = .ok (.iload 12, 2) := by decide +kernel
theorem dX11_place_169 : decode cX11_place 169 = .ok (.ifCond .eq 28, 3) := by decide +kernel
theorem dX11_place_172 : decode cX11_place 172 = .ok (.aload_n 3, 1) := by decide +kernel
theorem dX11_place_173 : decode cX11_place 173 = .ok (.getfield 72, 3) := by decide +kernel
theorem dX11_place_176 : decode cX11_place 176 = .ok (.ifCond .ne 15, 3) := by decide +kernel
theorem dX11_place_179 : decode cX11_place 179 = .ok (.aload_n 2, 1) := by decide +kernel
theorem dX11_place_180 : decode cX11_place 180 = .ok (.iload 10, 2) := by decide +kernel
theorem dX11_place_182 : decode cX11_place 182 = .ok (.daload, 1) := by decide +kernel
theorem dX11_place_183 : decode cX11_place 183 = .ok (.aload_n 3, 1) := by decide +kernel
theorem dX11_place_184 : decode cX11_place 184 = .ok (.getfield 58, 3) := by decide +kernel
theorem dX11_place_187 : decode cX11_place 187 = .ok (.dcmp .l, 1) := by decide +kernel
theorem dX11_place_188 : decode cX11_place 188 = .ok (.ifCond .le 9, 3) := by decide +kernel
theorem dX11_place_191 : decode cX11_place 191 = .ok (.aload_n 0, 1) := by decide +kernel
theorem dX11_place_192 : decode cX11_place 192 = .ok (.iconst 0, 1) := by decide +kernel
theorem dX11_place_193 : decode cX11_place 193 = .ok (.putfield 163, 3) := by decide +kernel
theorem dX11_place_196 : decode cX11_place 196 = .ok (.return_, 1) := by decide +kernel
theorem dX11_place_197 : decode cX11_place 197 = .ok (.iload 12, 2) := by decide +kernel
theorem dX11_place_199 : decode cX11_place 199 = .ok (.ifCond .eq 10, 3) := by decide +kernel
theorem dX11_place_202 : decode cX11_place 202 = .ok (.aload_n 1, 1) := by decide +kernel
theorem dX11_place_203 : decode cX11_place 203 = .ok (.iload 10, 2) := by decide +kernel
theorem dX11_place_205 : decode cX11_place 205 = .ok (.daload, 1) := by decide +kernel
theorem dX11_place_206 : decode cX11_place 206 = .ok (.goto 7, 3) := by decide +kernel
theorem dX11_place_209 : decode cX11_place 209 = .ok (.aload_n 2, 1) := by decide +kernel
theorem dX11_place_210 : decode cX11_place 210 = .ok (.iload 10, 2) := by decide +kernel
theorem dX11_place_212 : decode cX11_place 212 = .ok (.daload, 1) := by decide +kernel
theorem dX11_place_213 : decode cX11_place 213 = .ok (.dstore 13, 2) := by decide +kernel
theorem dX11_place_215 : decode cX11_place 215 = .ok (.aload 4, 2) := by decide +kernel
theorem dX11_place_217 : decode cX11_place 217 = .ok (.iload 6, 2) := by decide +kernel
theorem dX11_place_219 : decode cX11_place 219 = .ok (.aload_n 3, 1) := by decide +kernel
theorem dX11_place_220 : decode cX11_place 220 = .ok (.getfield 69, 3) := by decide +kernel
theorem dX11_place_223 : decode cX11_place 223 = .ok (.ifCond .le 23, 3) := by decide +kernel
theorem dX11_place_226 : decode cX11_place 226 = .ok (.dload 13, 2) := by decide +kernel
theorem dX11_place_228 : decode cX11_place 228 = .ok (.aload_n 3, 1) := by decide +kernel
theorem dX11_place_229 : decode cX11_place 229 = .ok (.getfield 69, 3) := by decide +kernel
theorem dX11_place_232 : decode cX11_place 232 = .ok (.i2d, 1) := by decide +kernel
theorem dX11_place_233 : decode cX11_place 233 = .ok (.ddiv, 1) := by decide +kernel
theorem dX11_place_234 : decode cX11_place 234 = .ok (.invokestatic 165, 3) := by decide +kernel
theorem dX11_place_237 : decode cX11_place 237 = .ok (.aload_n 3, 1) := by decide +kernel
theorem dX11_place_238 : decode cX11_place 238 = .ok (.getfield 69, 3) := by decide +kernel
theorem dX11_place_241 : decode cX11_place 241 = .ok (.i2d, 1) := by decide +kernel
theorem dX11_place_242 : decode cX11_place 242 = .ok (.dmul, 1) := by decide +kernel
theorem dX11_place_243 : decode cX11_place 243 = .ok (.goto 5, 3) := by decide +kernel
theorem dX11_place_246 : decode cX11_place 246 = .ok (.dload 13, 2) := by decide +kernel
theorem dX11_place_248 : decode cX11_place 248 = .ok (.dastore, 1) := by decide +kernel
theorem dX11_place_249 : decode cX11_place 249 = .ok (.aload 5, 2) := by decide +kernel
theorem dX11_place_251 : decode cX11_place 251 = .ok (.iload 6, 2) := by decide +kernel
theorem dX11_place_253 : decode cX11_place 253 = .ok (.aload_n 3, 1) := by decide +kernel
theorem dX11_place_254 : decode cX11_place 254 = .ok (.getfield 58, 3) := by decide +kernel
theorem dX11_place_257 : decode cX11_place 257 = .ok (.iload 12, 2) := by decide +kernel
theorem dX11_place_259 : decode cX11_place 259 = .ok (.ifCond .eq 10, 3) := by decide +kernel
theorem dX11_place_262 : decode cX11_place 262 = .ok (.aload_n 2, 1) := by decide +kernel
theorem dX11_place_263 : decode cX11_place 263 = .ok (.iload 10, 2) := by decide +kernel
theorem dX11_place_265 : decode cX11_place 265 = .ok (.daload, 1) := by decide +kernel
theorem dX11_place_266 : decode cX11_place 266 = .ok (.goto 7, 3) := by decide +kernel
theorem dX11_place_269 : decode cX11_place 269 = .ok (.aload_n 1, 1) := by decide +kernel
theorem dX11_place_270 : decode cX11_place 270 = .ok (.iload 10, 2) := by decide +kernel
theorem dX11_place_272 : decode cX11_place 272 = .ok (.daload, 1) := by decide +kernel
theorem dX11_place_273 : decode cX11_place 273 = .ok (.dsub, 1) := by decide +kernel
theorem dX11_place_274 : decode cX11_place 274 = .ok (.dastore, 1) := by decide +kernel
theorem dX11_place_275 : decode cX11_place 275 = .ok (.iinc 6 1, 3) := by decide +kernel
theorem dX11_place_278 : decode cX11_place 278 = .ok (.iload 7, 2) := by decide +kernel
theorem dX11_place_280 : decode cX11_place 280 = .ok (.iload 12, 2) := by decide +kernel
theorem dX11_place_282 : decode cX11_place 282 = .ok (.ifCond .eq 7, 3) := by decide +kernel
theorem dX11_place_285 : decode cX11_place 285 = .ok (.iconst 1, 1) := by decide +kernel
theorem dX11_place_286 : decode cX11_place 286 = .ok (.goto 4, 3) := by decide +kernel
theorem dX11_place_289 : decode cX11_place 289 = .ok (.iconst 0, 1) := by decide +kernel
theorem dX11_place_290 : decode cX11_place 290 = .ok (.iadd, 1) := by decide +kernel
theorem dX11_place_291 : decode cX11_place 291 = .ok (.istore 7, 2) := by decide +kernel
theorem dX11_place_293 : decode cX11_place 293 = .ok (.iinc 10 1, 3) := by decide +kernel
theorem dX11_place_296 : decode cX11_place 296 = .ok (.goto (-272), 3) := by decide +kernel
theorem dX11_place_299 : decode cX11_place 299 = .ok (.dconst 0, 1) := by decide +kernel
theorem dX11_place_300 : decode cX11_place 300 = .ok (.dstore 10, 2) := by decide +kernel
theorem dX11_place_302 : decode cX11_place 302 = .ok (.iconst 0, 1) := by decide +kernel
theorem dX11_place_303 : decode cX11_place 303 = .ok (.istore 12, 2) := by decide +kernel
theorem dX11_place_305 : decode cX11_place 305 = .ok (.iload 12, 2) := by decide +kernel
theorem dX11_place_307 : decode cX11_place 307 = .ok (.iload 6, 2) := by decide +kernel
theorem dX11_place_309 : decode cX11_place 309 = .ok (.if_icmp .ge 19, 3) := by decide +kernel
theorem dX11_place_312 : decode cX11_place 312 = .ok (.dload 10, 2) := by decide +kernel
theorem dX11_place_314 : decode cX11_place 314 = .ok (.aload 4, 2) := by decide +kernel
theorem dX11_place_316 : decode cX11_place 316 = .ok (.iload 12, 2) := by decide +kernel
theorem dX11_place_318 : decode cX11_place 318 = .ok (.daload, 1) := by decide +kernel
theorem dX11_place_319 : decode cX11_place 319 = .ok (.dadd, 1) := by decide +kernel
theorem dX11_place_320 : decode cX11_place 320 = .ok (.dstore 10, 2) := by decide +kernel
theorem dX11_place_322 : decode cX11_place 322 = .ok (.iinc 12 1, 3) := by decide +kernel
theorem dX11_place_325 : decode cX11_place 325 = .ok (.goto (-20), 3) := by decide +kernel
theorem dX11_place_328 : decode cX11_place 328 = .ok (.aload_n 0, 1) := by decide +kernel
theorem dX11_place_329 : decode cX11_place 329 = .ok (.getfield 171, 3) := by decide +kernel
theorem dX11_place_332 : decode cX11_place 332 = .ok (.iconst 0, 1) := by decide +kernel
theorem dX11_place_333 : decode cX11_place 333 = .ok (.dload 10, 2) := by decide +kernel
theorem dX11_place_335 : decode cX11_place 335 = .ok (.dastore, 1) := by decide +kernel
theorem dX11_place_336 : decode cX11_place 336 = .ok (.aload_n 0, 1) := by decide +kernel
theorem dX11_place_337 : decode cX11_place 337 = .ok (.getfield 171, 3) := by decide +kernel
theorem dX11_place_340 : decode cX11_place 340 = .ok (.iconst 1, 1) := by decide +kernel
theorem dX11_place_341 : decode cX11_place 341 = .ok (.dconst 1, 1) := by decide +kernel
theorem dX11_place_342 : decode cX11_place 342 = .ok (.dload 8, 2) := by decide +kernel
theorem dX11_place_344 : decode cX11_place 344 = .ok (.dload 10, 2) := by decide +kernel
theorem dX11_place_346 : decode cX11_place 346 = .ok (.aload_n 3, 1) := by decide +kernel
theorem dX11_place_347 : decode cX11_place 347 = .ok (.getfield 58, 3) := by decide +kernel
theorem dX11_place_350 : decode cX11_place 350 = .ok (.dmul, 1) := by decide +kernel
theorem dX11_place_351 : decode cX11_place 351 = .ok (.ddiv, 1) := by decide +kernel
theorem dX11_place_352 : decode cX11_place 352 = .ok (.dsub, 1) := by decide +kernel
theorem dX11_place_353 : decode cX11_place 353 = .ok (.dastore, 1) := by decide +kernel
theorem dX11_place_354 : decode cX11_place 354 = .ok (.aload_n 0, 1) := by decide +kernel
theorem dX11_place_355 : decode cX11_place 355 = .ok (.getfield 171, 3) := by decide +kernel
theorem dX11_place_358 : decode cX11_place 358 = .ok (.iconst 2, 1) := by decide +kernel
theorem dX11_place_359 : decode cX11_place 359 = .ok (.iload 6, 2) := by decide +kernel
theorem dX11_place_361 : decode cX11_place 361 = .ok (.i2d, 1) := by decide +kernel
theorem dX11_place_362 : decode cX11_place 362 = .ok (.dastore, 1) := by decide +kernel
theorem dX11_place_363 : decode cX11_place 363 = .ok (.aload_n 0, 1) := by decide +kernel
theorem dX11_place_364 : decode cX11_place 364 = .ok (.getfield 171, 3) := by decide +kernel
theorem dX11_place_367 : decode cX11_place 367 = .ok (.iconst 3, 1) := by decide +kernel
theorem dX11_place_368 : decode cX11_place 368 = .ok (.iload 7, 2) := by decide +kernel
theorem dX11_place_370 : decode cX11_place 370 = .ok (.i2d, 1) := by decide +kernel
theorem dX11_place_371 : decode cX11_place 371 = .ok (.dastore, 1) := by decide +kernel
theorem dX11_place_372 : decode cX11_place 372 = .ok (.return_, 1) := by decide +kernel
theorem dX11_first_0 : decode cX11_first 0 = .ok (.iconst 0, 1) := by decide +kernel
theorem dX11_first_1 : decode cX11_first 1 = .ok (.istore 7, 2) := by decide +kernel
theorem dX11_first_3 : decode cX11_first 3 = .ok (.iload 7, 2) := by decide +kernel
theorem dX11_first_5 : decode cX11_first 5 = .ok (.iload_n 2, 1) := by decide +kernel
theorem dX11_first_6 : decode cX11_first 6 = .ok (.if_icmp .ge 28, 3) := by decide +kernel
theorem dX11_first_9 : decode cX11_first 9 = .ok (.aload_n 1, 1) := by decide +kernel
theorem dX11_first_10 : decode cX11_first 10 = .ok (.iload 7, 2) := by decide +kernel
theorem dX11_first_12 : decode cX11_first 12 = .ok (.daload, 1) := by decide +kernel
theorem dX11_first_13 : decode cX11_first 13 = .ok (.dload_n 3, 1) := by decide +kernel
theorem dX11_first_14 : decode cX11_first 14 = .ok (.dcmp .g, 1) := by decide +kernel
theorem dX11_first_15 : decode cX11_first 15 = .ok (.ifCond .lt 13, 3) := by decide +kernel
theorem dX11_first_18 : decode cX11_first 18 = .ok (.aload_n 0, 1) := by decide +kernel
theorem dX11_first_19 : decode cX11_first 19 = .ok (.iload 7, 2) := by decide +kernel
theorem dX11_first_21 : decode cX11_first 21 = .ok (.daload, 1) := by decide +kernel
theorem dX11_first_22 : decode cX11_first 22 = .ok (.dload 5, 2) := by decide +kernel
theorem dX11_first_24 : decode cX11_first 24 = .ok (.dcmp .g, 1) := by decide +kernel
theorem dX11_first_25 : decode cX11_first 25 = .ok (.ifCond .ge 9, 3) := by decide +kernel
theorem dX11_first_28 : decode cX11_first 28 = .ok (.iinc 7 1, 3) := by decide +kernel
theorem dX11_first_31 : decode cX11_first 31 = .ok (.goto (-28), 3) := by decide +kernel
theorem dX11_first_34 : decode cX11_first 34 = .ok (.iload 7, 2) := by decide +kernel
theorem dX11_first_36 : decode cX11_first 36 = .ok (.ireturn, 1) := by decide +kernel
theorem dX11_order_0 : decode cX11_order 0 = .ok (.aload_n 0, 1) := by decide +kernel
theorem dX11_order_1 : decode cX11_order 1 = .ok (.iconst 0, 1) := by decide +kernel
theorem dX11_order_2 : decode cX11_order 2 = .ok (.putfield 33, 3) := by decide +kernel
theorem dX11_order_5 : decode cX11_order 5 = .ok (.aload_n 0, 1) := by decide +kernel
theorem dX11_order_6 : decode cX11_order 6 = .ok (.iload_n 1, 1) := by decide +kernel
theorem dX11_order_7 : decode cX11_order 7 = .ok (.invokevirtual 95, 3) := by decide +kernel
theorem dX11_order_10 : decode cX11_order 10 = .ok (.ifCond .eq 11, 3) := by decide +kernel
theorem dX11_order_13 : decode cX11_order 13 = .ok (.aload_n 0, 1) := by decide +kernel
theorem dX11_order_14 : decode cX11_order 14 = .ok (.iload_n 2, 1) := by decide +kernel
theorem dX11_order_15 : decode cX11_order 15 = .ok (.invokevirtual 100, 3) := by decide +kernel
theorem dX11_order_18 : decode cX11_order 18 = .ok (.ifCond .ne 9, 3) := by decide +kernel
theorem dX11_order_21 : decode cX11_order 21 = .ok (.aload_n 0, 1) := by decide +kernel
theorem dX11_order_22 : decode cX11_order 22 = .ok (.iconst 1, 1) := by decide +kernel
theorem dX11_order_23 : decode cX11_order 23 = .ok (.invokevirtual 47, 3) := by decide +kernel
theorem dX11_order_26 : decode cX11_order 26 = .ok (.ireturn, 1) := by decide +kernel
theorem dX11_order_27 : decode cX11_order 27 = .ok (.iload_n 3, 1) := by decide +kernel
theorem dX11_order_28 : decode cX11_order 28 = .ok (.iconst 0, 1) := by decide +kernel
theorem dX11_order_29 : decode cX11_order 29 = .ok (.sipush 400, 3) := by decide +kernel
theorem dX11_order_32 : decode cX11_order 32 = .ok (.invokestatic 43, 3) := by decide +kernel
theorem dX11_order_35 : decode cX11_order 35 = .ok (.ifCond .ne 9, 3) := by decide +kernel
theorem dX11_order_38 : decode cX11_order 38 = .ok (.aload_n 0, 1) := by decide +kernel
theorem dX11_order_39 : decode cX11_order 39 = .ok (.iconst 2, 1) := by decide +kernel
theorem dX11_order_40 : decode cX11_order 40 = .ok (.invokevirtual 47, 3) := by decide +kernel
theorem dX11_order_43 : decode cX11_order 43 = .ok (.ireturn, 1) := by decide +kernel
theorem dX11_order_44 : decode cX11_order 44 = .ok (.aload_n 0, 1) := by decide +kernel
theorem dX11_order_45 : decode cX11_order 45 = .ok (.getfield 22, 3) := by decide +kernel
theorem dX11_order_48 : decode cX11_order 48 = .ok (.invokevirtual 51, 3) := by decide +kernel
theorem dX11_order_51 : decode cX11_order 51 = .ok (.bipush 8, 2) := by decide +kernel
theorem dX11_order_53 : decode cX11_order 53 = .ok (.if_icmp .eq 20, 3) := by decide +kernel
theorem dX11_order_56 : decode cX11_order 56 = .ok (.aload_n 0, 1) := by decide +kernel
theorem dX11_order_57 : decode cX11_order 57 = .ok (.getfield 19, 3) := by decide +kernel
theorem dX11_order_60 : decode cX11_order 60 = .ok (.iload_n 2, 1) := by decide +kernel
theorem dX11_order_61 : decode cX11_order 61 = .ok (.invokevirtual 87, 3) := by decide +kernel
theorem dX11_order_64 : decode cX11_order 64 = .ok (.checkcast 7, 3) := by decide +kernel
theorem dX11_order_67 : decode cX11_order 67 = .ok (.invokevirtual 174, 3) := by decide +kernel
theorem dX11_order_70 : decode cX11_order 70 = .ok (.ifCond .eq 9, 3) := by decide +kernel
theorem dX11_order_73 : decode cX11_order 73 = .ok (.aload_n 0, 1) := by decide +kernel
theorem dX11_order_74 : decode cX11_order 74 = .ok (.iconst 3, 1) := by decide +kernel
theorem dX11_order_75 : decode cX11_order 75 = .ok (.invokevirtual 47, 3) := by decide +kernel
theorem dX11_order_78 : decode cX11_order 78 = .ok (.ireturn, 1) := by decide +kernel
theorem dX11_order_79 : decode cX11_order 79 = .ok (.new 120, 3) := by decide +kernel
theorem dX11_order_82 : decode cX11_order 82 = .ok (.dup, 1) := by decide +kernel
theorem dX11_order_83 : decode cX11_order 83 = .ok (.invokespecial 177, 3) := by decide +kernel
theorem dX11_order_86 : decode cX11_order 86 = .ok (.astore 4, 2) := by decide +kernel
theorem dX11_order_88 : decode cX11_order 88 = .ok (.aload 4, 2) := by decide +kernel
theorem dX11_order_90 : decode cX11_order 90 = .ok (.iload_n 1, 1) := by decide +kernel
theorem dX11_order_91 : decode cX11_order 91 = .ok (.putfield 137, 3) := by decide +kernel
theorem dX11_order_94 : decode cX11_order 94 = .ok (.aload 4, 2) := by decide +kernel
theorem dX11_order_96 : decode cX11_order 96 = .ok (.iload_n 2, 1) := by decide +kernel
theorem dX11_order_97 : decode cX11_order 97 = .ok (.putfield 122, 3) := by decide +kernel
theorem dX11_order_100 : decode cX11_order 100 = .ok (.aload 4, 2) := by decide +kernel
theorem dX11_order_102 : decode cX11_order 102 = .ok (.aload_n 0, 1) := by decide +kernel
theorem dX11_order_103 : decode cX11_order 103 = .ok (.getfield 37, 3) := by decide +kernel
theorem dX11_order_106 : decode cX11_order 106 = .ok (.d2i, 1) := by decide +kernel
theorem dX11_order_107 : decode cX11_order 107 = .ok (.iload_n 3, 1) := by decide +kernel
theorem dX11_order_108 : decode cX11_order 108 = .ok (.iadd, 1) := by decide +kernel
theorem dX11_order_109 : decode cX11_order 109 = .ok (.putfield 178, 3) := by decide +kernel
theorem dX11_order_112 : decode cX11_order 112 = .ok (.aload_n 0, 1) := by decide +kernel
theorem dX11_order_113 : decode cX11_order 113 = .ok (.getfield 22, 3) := by decide +kernel
theorem dX11_order_116 : decode cX11_order 116 = .ok (.aload 4, 2) := by decide +kernel
theorem dX11_order_118 : decode cX11_order 118 = .ok (.invokevirtual 79, 3) := by decide +kernel
theorem dX11_order_121 : decode cX11_order 121 = .ok (.pop, 1) := by decide +kernel
theorem dX11_order_122 : decode cX11_order 122 = .ok (.aload_n 0, 1) := by decide +kernel
theorem dX11_order_123 : decode cX11_order 123 = .ok (.getfield 22, 3) := by decide +kernel
theorem dX11_order_126 : decode cX11_order 126 = .ok (.invokevirtual 51, 3) := by decide +kernel
theorem dX11_order_129 : decode cX11_order 129 = .ok (.iconst 1, 1) := by decide +kernel
theorem dX11_order_130 : decode cX11_order 130 = .ok (.isub, 1) := by decide +kernel
theorem dX11_order_131 : decode cX11_order 131 = .ok (.ireturn, 1) := by decide +kernel
theorem dX11_isOrder_0 : decode cX11_isOrder 0 = .ok (.iload_n 1, 1) := by decide +kernel
theorem dX11_isOrder_1 : decode cX11_isOrder 1 = .ok (.iconst 0, 1) := by decide +kernel
theorem dX11_isOrder_2 : decode cX11_isOrder 2 = .ok (.aload_n 0, 1) := by decide +kernel
theorem dX11_isOrder_3 : decode cX11_isOrder 3 = .ok (.getfield 22, 3) := by decide +kernel
theorem dX11_isOrder_6 : decode cX11_isOrder 6 = .ok (.invokevirtual 51, 3) := by decide +kernel
theorem dX11_isOrder_9 : decode cX11_isOrder 9 = .ok (.iconst 1, 1) := by decide +kernel
theorem dX11_isOrder_10 : decode cX11_isOrder 10 = .ok (.isub, 1) := by decide +kernel
theorem dX11_isOrder_11 : decode cX11_isOrder 11 = .ok (.invokestatic 43, 3) := by decide +kernel
theorem dX11_isOrder_14 : decode cX11_isOrder 14 = .ok (.ireturn, 1) := by decide +kernel
theorem dX11_isIn_0 : decode cX11_isIn 0 = .ok (.aload_n 0, 1) := by decide +kernel
theorem dX11_isIn_1 : decode cX11_isIn 1 = .ok (.getfield 22, 3) := by decide +kernel
theorem dX11_isIn_4 : decode cX11_isIn 4 = .ok (.iload_n 1, 1) := by decide +kernel
theorem dX11_isIn_5 : decode cX11_isIn 5 = .ok (.invokevirtual 87, 3) := by decide +kernel
theorem dX11_isIn_8 : decode cX11_isIn 8 = .ok (.checkcast 120, 3) := by decide +kernel
theorem dX11_isIn_11 : decode cX11_isIn 11 = .ok (.getfield 181, 3) := by decide +kernel
theorem dX11_isIn_14 : decode cX11_isIn 14 = .ok (.iload_n 2, 1) := by decide +kernel
theorem dX11_isIn_15 : decode cX11_isIn 15 = .ok (.if_icmp .ne 7, 3) := by decide +kernel
theorem dX11_isIn_18 : decode cX11_isIn 18 = .ok (.iconst 1, 1) := by decide +kernel
theorem dX11_isIn_19 : decode cX11_isIn 19 = .ok (.goto 4, 3) := by decide +kernel
theorem dX11_isIn_22 : decode cX11_isIn 22 = .ok (.iconst 0, 1) := by decide +kernel
theorem dX11_isIn_23 : decode cX11_isIn 23 = .ok (.ireturn, 1) := by decide +kernel
theorem dX11_keep_0 : decode cX11_keep 0 = .ok (.aload_n 0, 1) := by decide +kernel
theorem dX11_keep_1 : decode cX11_keep 1 = .ok (.getfield 22, 3) := by decide +kernel
theorem dX11_keep_4 : decode cX11_keep 4 = .ok (.iload_n 1, 1) := by decide +kernel
theorem dX11_keep_5 : decode cX11_keep 5 = .ok (.invokevirtual 87, 3) := by decide +kernel
theorem dX11_keep_8 : decode cX11_keep 8 = .ok (.checkcast 120, 3) := by decide +kernel
theorem dX11_keep_11 : decode cX11_keep 11 = .ok (.astore 5, 2) := by decide +kernel
theorem dX11_keep_13 : decode cX11_keep 13 = .ok (.aload 5, 2) := by decide +kernel
theorem dX11_keep_15 : decode cX11_keep 15 = .ok (.iconst 1, 1) := by decide +kernel
theorem dX11_keep_16 : decode cX11_keep 16 = .ok (.putfield 181, 3) := by decide +kernel
theorem dX11_keep_19 : decode cX11_keep 19 = .ok (.aload 5, 2) := by decide +kernel
theorem dX11_keep_21 : decode cX11_keep 21 = .ok (.iload_n 2, 1) := by decide +kernel
theorem dX11_keep_22 : decode cX11_keep 22 = .ok (.putfield 184, 3) := by decide +kernel
theorem dX11_keep_25 : decode cX11_keep 25 = .ok (.aload 5, 2) := by decide +kernel
theorem dX11_keep_27 : decode cX11_keep 27 = .ok (.dload_n 3, 1) := by decide +kernel
theorem dX11_keep_28 : decode cX11_keep 28 = .ok (.putfield 187, 3) := by decide +kernel
theorem dX11_keep_31 : decode cX11_keep 31 = .ok (.aload 5, 2) := by decide +kernel
theorem dX11_keep_33 : decode cX11_keep 33 = .ok (.aload_n 0, 1) := by decide +kernel
theorem dX11_keep_34 : decode cX11_keep 34 = .ok (.getfield 19, 3) := by decide +kernel
theorem dX11_keep_37 : decode cX11_keep 37 = .ok (.aload 5, 2) := by decide +kernel
theorem dX11_keep_39 : decode cX11_keep 39 = .ok (.getfield 122, 3) := by decide +kernel
theorem dX11_keep_42 : decode cX11_keep 42 = .ok (.invokevirtual 87, 3) := by decide +kernel
theorem dX11_keep_45 : decode cX11_keep 45 = .ok (.checkcast 7, 3) := by decide +kernel
theorem dX11_keep_48 : decode cX11_keep 48 = .ok (.invokevirtual 51, 3) := by decide +kernel
theorem dX11_keep_51 : decode cX11_keep 51 = .ok (.newarray .double, 2) := by decide +kernel
theorem dX11_keep_53 : decode cX11_keep 53 = .ok (.putfield 190, 3) := by decide +kernel
theorem dX11_keep_56 : decode cX11_keep 56 = .ok (.iconst 0, 1) := by decide +kernel
theorem dX11_keep_57 : decode cX11_keep 57 = .ok (.istore 6, 2) := by decide +kernel
theorem dX11_keep_59 : decode cX11_keep 59 = .ok (.iload 6, 2) := by decide +kernel
theorem dX11_keep_61 : decode cX11_keep 61 = .ok (.aload 5, 2) := by decide +kernel
theorem dX11_keep_63 : decode cX11_keep 63 = .ok (.getfield 190, 3) := by decide +kernel
theorem dX11_keep_66 : decode cX11_keep 66 = .ok (.arraylength, 1) := by decide +kernel
theorem dX11_keep_67 : decode cX11_keep 67 = .ok (.if_icmp .ge 25, 3) := by decide +kernel
theorem dX11_keep_70 : decode cX11_keep 70 = .ok (.aload 5, 2) := by decide +kernel
theorem dX11_keep_72 : decode cX11_keep 72 = .ok (.getfield 190, 3) := by decide +kernel
theorem dX11_keep_75 : decode cX11_keep 75 = .ok (.iload 6, 2) := by decide +kernel
theorem dX11_keep_77 : decode cX11_keep 77 = .ok (.aload_n 0, 1) := by decide +kernel
theorem dX11_keep_78 : decode cX11_keep 78 = .ok (.aload 5, 2) := by decide +kernel
theorem dX11_keep_80 : decode cX11_keep 80 = .ok (.iload 6, 2) := by decide +kernel
theorem dX11_keep_82 : decode cX11_keep 82 = .ok (.invokevirtual 193, 3) := by decide +kernel
theorem dX11_keep_85 : decode cX11_keep 85 = .ok (.dastore, 1) := by decide +kernel
theorem dX11_keep_86 : decode cX11_keep 86 = .ok (.iinc 6 1, 3) := by decide +kernel
theorem dX11_keep_89 : decode cX11_keep 89 = .ok (.goto (-30), 3) := by decide +kernel
theorem dX11_keep_92 : decode cX11_keep 92 = .ok (.return_, 1) := by decide +kernel
theorem dX11_cut_0 : decode cX11_cut 0 = .ok (.aload_n 0, 1) := by decide +kernel
theorem dX11_cut_1 : decode cX11_cut 1 = .ok (.aload_n 0, 1) := by decide +kernel
theorem dX11_cut_2 : decode cX11_cut 2 = .ok (.iload_n 1, 1) := by decide +kernel
theorem dX11_cut_3 : decode cX11_cut 3 = .ok (.invokevirtual 196, 3) := by decide +kernel
theorem dX11_cut_6 : decode cX11_cut 6 = .ok (.ifCond .eq 24, 3) := by decide +kernel
theorem dX11_cut_9 : decode cX11_cut 9 = .ok (.iload_n 2, 1) := by decide +kernel
theorem dX11_cut_10 : decode cX11_cut 10 = .ok (.iconst (-1), 1) := by decide +kernel
theorem dX11_cut_11 : decode cX11_cut 11 = .ok (.if_icmp .eq 11, 3) := by decide +kernel
theorem dX11_cut_14 : decode cX11_cut 14 = .ok (.aload_n 0, 1) := by decide +kernel
theorem dX11_cut_15 : decode cX11_cut 15 = .ok (.iload_n 2, 1) := by decide +kernel
theorem dX11_cut_16 : decode cX11_cut 16 = .ok (.invokevirtual 196, 3) := by decide +kernel
theorem dX11_cut_19 : decode cX11_cut 19 = .ok (.ifCond .eq 11, 3) := by decide +kernel
theorem dX11_cut_22 : decode cX11_cut 22 = .ok (.aload_n 0, 1) := by decide +kernel
theorem dX11_cut_23 : decode cX11_cut 23 = .ok (.iload_n 3, 1) := by decide +kernel
theorem dX11_cut_24 : decode cX11_cut 24 = .ok (.invokevirtual 83, 3) := by decide +kernel
theorem dX11_cut_27 : decode cX11_cut 27 = .ok (.ifCond .ne 7, 3) := by decide +kernel
theorem dX11_cut_30 : decode cX11_cut 30 = .ok (.iconst 1, 1) := by decide +kernel
theorem dX11_cut_31 : decode cX11_cut 31 = .ok (.goto 47, 3) := by decide +kernel
theorem dX11_cut_34 : decode cX11_cut 34 = .ok (.iload_n 1, 1) := by decide +kernel
theorem dX11_cut_35 : decode cX11_cut 35 = .ok (.iload_n 2, 1) := by decide +kernel
theorem dX11_cut_36 : decode cX11_cut 36 = .ok (.if_icmp .ne 7, 3) := by decide +kernel
theorem dX11_cut_39 : decode cX11_cut 39 = .ok (.iconst 2, 1) := by decide +kernel
theorem dX11_cut_40 : decode cX11_cut 40 = .ok (.goto 38, 3) := by decide +kernel
theorem dX11_cut_43 : decode cX11_cut 43 = .ok (.aload_n 0, 1) := by decide +kernel
theorem dX11_cut_44 : decode cX11_cut 44 = .ok (.getfield 199, 3) := by decide +kernel
theorem dX11_cut_47 : decode cX11_cut 47 = .ok (.ifCond .ne 26, 3) := by decide +kernel
theorem dX11_cut_50 : decode cX11_cut 50 = .ok (.aload_n 0, 1) := by decide +kernel
theorem dX11_cut_51 : decode cX11_cut 51 = .ok (.iload_n 1, 1) := by decide +kernel
theorem dX11_cut_52 : decode cX11_cut 52 = .ok (.iconst 0, 1) := by decide +kernel
theorem dX11_cut_53 : decode cX11_cut 53 = .ok (.invokevirtual 202, 3) := by decide +kernel
theorem dX11_cut_56 : decode cX11_cut 56 = .ok (.ifCond .eq 17, 3) := by decide +kernel
theorem dX11_cut_59 : decode cX11_cut 59 = .ok (.iload_n 2, 1) := by decide +kernel
theorem dX11_cut_60 : decode cX11_cut 60 = .ok (.iconst (-1), 1) := by decide +kernel
theorem dX11_cut_61 : decode cX11_cut 61 = .ok (.if_icmp .eq 16, 3) := by decide +kernel
theorem dX11_cut_64 : decode cX11_cut 64 = .ok (.aload_n 0, 1) := by decide +kernel
theorem dX11_cut_65 : decode cX11_cut 65 = .ok (.iload_n 2, 1) := by decide +kernel
theorem dX11_cut_66 : decode cX11_cut 66 = .ok (.iconst 0, 1) := by decide +kernel
theorem dX11_cut_67 : decode cX11_cut 67 = .ok (.invokevirtual 202, 3) := by decide +kernel
theorem dX11_cut_70 : decode cX11_cut 70 = .ok (.ifCond .ne 7, 3) := by decide +kernel
theorem dX11_cut_73 : decode cX11_cut 73 = .ok (.iconst 3, 1) := by decide +kernel
theorem dX11_cut_74 : decode cX11_cut 74 = .ok (.goto 4, 3) := by decide +kernel
theorem dX11_cut_77 : decode cX11_cut 77 = .ok (.iconst 0, 1) := by decide +kernel
theorem dX11_cut_78 : decode cX11_cut 78 = .ok (.putfield 33, 3) := by decide +kernel
theorem dX11_cut_81 : decode cX11_cut 81 = .ok (.aload_n 0, 1) := by decide +kernel
theorem dX11_cut_82 : decode cX11_cut 82 = .ok (.getfield 33, 3) := by decide +kernel
theorem dX11_cut_85 : decode cX11_cut 85 = .ok (.ifCond .le 5, 3) := by decide +kernel
theorem dX11_cut_88 : decode cX11_cut 88 = .ok (.dconst 0, 1) := by decide +kernel
theorem dX11_cut_89 : decode cX11_cut 89 = .ok (.dreturn, 1) := by decide +kernel
theorem dX11_cut_90 : decode cX11_cut 90 = .ok (.aload_n 0, 1) := by decide +kernel
theorem dX11_cut_91 : decode cX11_cut 91 = .ok (.getfield 10, 3) := by decide +kernel
theorem dX11_cut_94 : decode cX11_cut 94 = .ok (.iload_n 3, 1) := by decide +kernel
theorem dX11_cut_95 : decode cX11_cut 95 = .ok (.invokevirtual 87, 3) := by decide +kernel
theorem dX11_cut_98 : decode cX11_cut 98 = .ok (.checkcast 55, 3) := by decide +kernel
theorem dX11_cut_101 : decode cX11_cut 101 = .ok (.astore 4, 2) := by decide +kernel
theorem dX11_cut_103 : decode cX11_cut 103 = .ok (.aload_n 0, 1) := by decide +kernel
theorem dX11_cut_104 : decode cX11_cut 104 = .ok (.iload_n 1, 1) := by decide +kernel
theorem dX11_cut_105 : decode cX11_cut 105 = .ok (.iload_n 2, 1) := by decide +kernel
theorem dX11_cut_106 : decode cX11_cut 106 = .ok (.aload 4, 2) := by decide +kernel
theorem dX11_cut_108 : decode cX11_cut 108 = .ok (.invokevirtual 206, 3) := by decide +kernel
theorem dX11_cut_111 : decode cX11_cut 111 = .ok (.astore 5, 2) := by decide +kernel
theorem dX11_cut_113 : decode cX11_cut 113 = .ok (.aload 5, 2) := by decide +kernel
theorem dX11_cut_115 : decode cX11_cut 115 = .ok (.getfield 163, 3) := by decide +kernel
theorem dX11_cut_118 : decode cX11_cut 118 = .ok (.ifCond .ne 7, 3) := by decide +kernel
theorem dX11_cut_121 : decode cX11_cut 121 = .ok (.ldc2_w 210, 3) := by decide +kernel
theorem dX11_cut_124 : decode cX11_cut 124 = .ok (.dreturn, 1) := by decide +kernel
theorem dX11_cut_125 : decode cX11_cut 125 = .ok (.aload 4, 2) := by decide +kernel
theorem dX11_cut_127 : decode cX11_cut 127 = .ok (.getfield 61, 3) := by decide +kernel
theorem dX11_cut_130 : decode cX11_cut 130 = .ok (.aload 5, 2) := by decide +kernel
theorem dX11_cut_132 : decode cX11_cut 132 = .ok (.getfield 171, 3) := by decide +kernel
theorem dX11_cut_135 : decode cX11_cut 135 = .ok (.iconst 0, 1) := by decide +kernel
theorem dX11_cut_136 : decode cX11_cut 136 = .ok (.daload, 1) := by decide +kernel
theorem dX11_cut_137 : decode cX11_cut 137 = .ok (.dcmp .g, 1) := by decide +kernel
theorem dX11_cut_138 : decode cX11_cut 138 = .ok (.ifCond .ge 7, 3) := by decide +kernel
theorem dX11_cut_141 : decode cX11_cut 141 = .ok (.ldc2_w 212, 3) := by decide +kernel
theorem dX11_cut_144 : decode cX11_cut 144 = .ok (.dreturn, 1) := by decide +kernel
theorem dX11_cut_145 : decode cX11_cut 145 = .ok (.aload 4, 2) := by decide +kernel
theorem dX11_cut_147 : decode cX11_cut 147 = .ok (.aload 4, 2) := by decide +kernel
theorem dX11_cut_149 : decode cX11_cut 149 = .ok (.getfield 61, 3) := by decide +kernel
theorem dX11_cut_152 : decode cX11_cut 152 = .ok (.aload 5, 2) := by decide +kernel
theorem dX11_cut_154 : decode cX11_cut 154 = .ok (.getfield 171, 3) := by decide +kernel
theorem dX11_cut_157 : decode cX11_cut 157 = .ok (.iconst 0, 1) := by decide +kernel
theorem dX11_cut_158 : decode cX11_cut 158 = .ok (.daload, 1) := by decide +kernel
theorem dX11_cut_159 : decode cX11_cut 159 = .ok (.dsub, 1) := by decide +kernel
theorem dX11_cut_160 : decode cX11_cut 160 = .ok (.putfield 61, 3) := by decide +kernel
theorem dX11_cut_163 : decode cX11_cut 163 = .ok (.iload_n 2, 1) := by decide +kernel
theorem dX11_cut_164 : decode cX11_cut 164 = .ok (.iconst (-1), 1) := by decide +kernel
theorem dX11_cut_165 : decode cX11_cut 165 = .ok (.if_icmp .ne 13, 3) := by decide +kernel
theorem dX11_cut_168 : decode cX11_cut 168 = .ok (.aload 5, 2) := by decide +kernel
theorem dX11_cut_170 : decode cX11_cut 170 = .ok (.getfield 171, 3) := by decide +kernel
theorem dX11_cut_173 : decode cX11_cut 173 = .ok (.iconst 0, 1) := by decide +kernel
theorem dX11_cut_174 : decode cX11_cut 174 = .ok (.daload, 1) := by decide +kernel
theorem dX11_cut_175 : decode cX11_cut 175 = .ok (.goto 14, 3) := by decide +kernel
theorem dX11_cut_178 : decode cX11_cut 178 = .ok (.aload 5, 2) := by decide +kernel
theorem dX11_cut_180 : decode cX11_cut 180 = .ok (.getfield 171, 3) := by decide +kernel
theorem dX11_cut_183 : decode cX11_cut 183 = .ok (.iconst 0, 1) := by decide +kernel
theorem dX11_cut_184 : decode cX11_cut 184 = .ok (.daload, 1) := by decide +kernel
theorem dX11_cut_185 : decode cX11_cut 185 = .ok (.ldc2_w 214, 3) := by decide +kernel
theorem dX11_cut_188 : decode cX11_cut 188 = .ok (.ddiv, 1) := by decide +kernel
theorem dX11_cut_189 : decode cX11_cut 189 = .ok (.dstore 6, 2) := by decide +kernel
theorem dX11_cut_191 : decode cX11_cut 191 = .ok (.aload_n 0, 1) := by decide +kernel
theorem dX11_cut_192 : decode cX11_cut 192 = .ok (.iload_n 1, 1) := by decide +kernel
theorem dX11_cut_193 : decode cX11_cut 193 = .ok (.iload_n 3, 1) := by decide +kernel
theorem dX11_cut_194 : decode cX11_cut 194 = .ok (.dload 6, 2) := by decide +kernel
theorem dX11_cut_196 : decode cX11_cut 196 = .ok (.invokevirtual 216, 3) := by decide +kernel
theorem dX11_cut_199 : decode cX11_cut 199 = .ok (.iload_n 2, 1) := by decide +kernel
theorem dX11_cut_200 : decode cX11_cut 200 = .ok (.iconst (-1), 1) := by decide +kernel
theorem dX11_cut_201 : decode cX11_cut 201 = .ok (.if_icmp .eq 11, 3) := by decide +kernel
theorem dX11_cut_204 : decode cX11_cut 204 = .ok (.aload_n 0, 1) := by decide +kernel
theorem dX11_cut_205 : decode cX11_cut 205 = .ok (.iload_n 2, 1) := by decide +kernel
theorem dX11_cut_206 : decode cX11_cut 206 = .ok (.iload_n 3, 1) := by decide +kernel
theorem dX11_cut_207 : decode cX11_cut 207 = .ok (.dload 6, 2) := by decide +kernel
theorem dX11_cut_209 : decode cX11_cut 209 = .ok (.invokevirtual 216, 3) := by decide +kernel
theorem dX11_cut_212 : decode cX11_cut 212 = .ok (.aload_n 0, 1) := by decide +kernel
theorem dX11_cut_213 : decode cX11_cut 213 = .ok (.ldc2_w 220, 3) := by decide +kernel
theorem dX11_cut_216 : decode cX11_cut 216 = .ok (.aload 5, 2) := by decide +kernel
theorem dX11_cut_218 : decode cX11_cut 218 = .ok (.getfield 153, 3) := by decide +kernel
theorem dX11_cut_221 : decode cX11_cut 221 = .ok (.i2d, 1) := by decide +kernel
theorem dX11_cut_222 : decode cX11_cut 222 = .ok (.dmul, 1) := by decide +kernel
theorem dX11_cut_223 : decode cX11_cut 223 = .ok (.invokevirtual 222, 3) := by decide +kernel
theorem dX11_cut_226 : decode cX11_cut 226 = .ok (.aload 4, 2) := by decide +kernel
theorem dX11_cut_228 : decode cX11_cut 228 = .ok (.getfield 61, 3) := by decide +kernel
theorem dX11_cut_231 : decode cX11_cut 231 = .ok (.dreturn, 1) := by decide +kernel
theorem dX11_readyBy_0 : decode cX11_readyBy 0 = .ok (.aload_n 0, 1) := by decide +kernel
theorem dX11_readyBy_1 : decode cX11_readyBy 1 = .ok (.getfield 37, 3) := by decide +kernel
theorem dX11_readyBy_4 : decode cX11_readyBy 4 = .ok (.aload_n 0, 1) := by decide +kernel
theorem dX11_readyBy_5 : decode cX11_readyBy 5 = .ok (.getfield 25, 3) := by decide +kernel
theorem dX11_readyBy_8 : decode cX11_readyBy 8 = .ok (.iload_n 2, 1) := by decide +kernel
theorem dX11_readyBy_9 : decode cX11_readyBy 9 = .ok (.daload, 1) := by decide +kernel
theorem dX11_readyBy_10 : decode cX11_readyBy 10 = .ok (.invokestatic 226, 3) := by decide +kernel
theorem dX11_readyBy_13 : decode cX11_readyBy 13 = .ok (.aload_n 0, 1) := by decide +kernel
theorem dX11_readyBy_14 : decode cX11_readyBy 14 = .ok (.aload_n 0, 1) := by decide +kernel
theorem dX11_readyBy_15 : decode cX11_readyBy 15 = .ok (.getfield 22, 3) := by decide +kernel
theorem dX11_readyBy_18 : decode cX11_readyBy 18 = .ok (.iload_n 1, 1) := by decide +kernel
theorem dX11_readyBy_19 : decode cX11_readyBy 19 = .ok (.invokevirtual 87, 3) := by decide +kernel
theorem dX11_readyBy_22 : decode cX11_readyBy 22 = .ok (.checkcast 120, 3) := by decide +kernel
theorem dX11_readyBy_25 : decode cX11_readyBy 25 = .ok (.invokevirtual 147, 3) := by decide +kernel
theorem dX11_readyBy_28 : decode cX11_readyBy 28 = .ok (.i2d, 1) := by decide +kernel
theorem dX11_readyBy_29 : decode cX11_readyBy 29 = .ok (.ldc2_w 230, 3) := by decide +kernel
theorem dX11_readyBy_32 : decode cX11_readyBy 32 = .ok (.dmul, 1) := by decide +kernel
theorem dX11_readyBy_33 : decode cX11_readyBy 33 = .ok (.aload_n 0, 1) := by decide +kernel
theorem dX11_readyBy_34 : decode cX11_readyBy 34 = .ok (.getfield 29, 3) := by decide +kernel
theorem dX11_readyBy_37 : decode cX11_readyBy 37 = .ok (.iload_n 2, 1) := by decide +kernel
theorem dX11_readyBy_38 : decode cX11_readyBy 38 = .ok (.faload, 1) := by decide +kernel
theorem dX11_readyBy_39 : decode cX11_readyBy 39 = .ok (.f2d, 1) := by decide +kernel
theorem dX11_readyBy_40 : decode cX11_readyBy 40 = .ok (.ddiv, 1) := by decide +kernel
theorem dX11_readyBy_41 : decode cX11_readyBy 41 = .ok (.dadd, 1) := by decide +kernel
theorem dX11_readyBy_42 : decode cX11_readyBy 42 = .ok (.dreturn, 1) := by decide +kernel
theorem dX11_isHand_0 : decode cX11_isHand 0 = .ok (.iload_n 1, 1) := by decide +kernel
theorem dX11_isHand_1 : decode cX11_isHand 1 = .ok (.iconst 0, 1) := by decide +kernel
theorem dX11_isHand_2 : decode cX11_isHand 2 = .ok (.aload_n 0, 1) := by decide +kernel
theorem dX11_isHand_3 : decode cX11_isHand 3 = .ok (.getfield 125, 3) := by decide +kernel
theorem dX11_isHand_6 : decode cX11_isHand 6 = .ok (.iconst 1, 1) := by decide +kernel
theorem dX11_isHand_7 : decode cX11_isHand 7 = .ok (.isub, 1) := by decide +kernel
theorem dX11_isHand_8 : decode cX11_isHand 8 = .ok (.invokestatic 43, 3) := by decide +kernel
theorem dX11_isHand_11 : decode cX11_isHand 11 = .ok (.ireturn, 1) := by decide +kernel
theorem dX11_sew_0 : decode cX11_sew 0 = .ok (.aload_n 0, 1) := by decide +kernel
theorem dX11_sew_1 : decode cX11_sew 1 = .ok (.aload_n 0, 1) := by decide +kernel
theorem dX11_sew_2 : decode cX11_sew 2 = .ok (.iload_n 1, 1) := by decide +kernel
theorem dX11_sew_3 : decode cX11_sew 3 = .ok (.invokevirtual 196, 3) := by decide +kernel
theorem dX11_sew_6 : decode cX11_sew 6 = .ok (.ifCond .eq 11, 3) := by decide +kernel
theorem dX11_sew_9 : decode cX11_sew 9 = .ok (.aload_n 0, 1) := by decide +kernel
theorem dX11_sew_10 : decode cX11_sew 10 = .ok (.iload_n 2, 1) := by decide +kernel
theorem dX11_sew_11 : decode cX11_sew 11 = .ok (.invokevirtual 232, 3) := by decide +kernel
theorem dX11_sew_14 : decode cX11_sew 14 = .ok (.ifCond .ne 7, 3) := by decide +kernel
theorem dX11_sew_17 : decode cX11_sew 17 = .ok (.iconst 1, 1) := by decide +kernel
theorem dX11_sew_18 : decode cX11_sew 18 = .ok (.goto 24, 3) := by decide +kernel
theorem dX11_sew_21 : decode cX11_sew 21 = .ok (.aload_n 0, 1) := by decide +kernel
theorem dX11_sew_22 : decode cX11_sew 22 = .ok (.getfield 199, 3) := by decide +kernel
theorem dX11_sew_25 : decode cX11_sew 25 = .ok (.ifCond .ne 12, 3) := by decide +kernel
theorem dX11_sew_28 : decode cX11_sew 28 = .ok (.aload_n 0, 1) := by decide +kernel
theorem dX11_sew_29 : decode cX11_sew 29 = .ok (.iload_n 1, 1) := by decide +kernel
theorem dX11_sew_30 : decode cX11_sew 30 = .ok (.iconst 1, 1) := by decide +kernel
theorem dX11_sew_31 : decode cX11_sew 31 = .ok (.invokevirtual 202, 3) := by decide +kernel
theorem dX11_sew_34 : decode cX11_sew 34 = .ok (.ifCond .ne 7, 3) := by decide +kernel
theorem dX11_sew_37 : decode cX11_sew 37 = .ok (.iconst 2, 1) := by decide +kernel
theorem dX11_sew_38 : decode cX11_sew 38 = .ok (.goto 4, 3) := by decide +kernel
theorem dX11_sew_41 : decode cX11_sew 41 = .ok (.iconst 0, 1) := by decide +kernel
theorem dX11_sew_42 : decode cX11_sew 42 = .ok (.putfield 33, 3) := by decide +kernel
theorem dX11_sew_45 : decode cX11_sew 45 = .ok (.aload_n 0, 1) := by decide +kernel
theorem dX11_sew_46 : decode cX11_sew 46 = .ok (.getfield 33, 3) := by decide +kernel
theorem dX11_sew_49 : decode cX11_sew 49 = .ok (.ifCond .le 5, 3) := by decide +kernel
theorem dX11_sew_52 : decode cX11_sew 52 = .ok (.dconst 0, 1) := by decide +kernel
theorem dX11_sew_53 : decode cX11_sew 53 = .ok (.dreturn, 1) := by decide +kernel
theorem dX11_sew_54 : decode cX11_sew 54 = .ok (.aload_n 0, 1) := by decide +kernel
theorem dX11_sew_55 : decode cX11_sew 55 = .ok (.getfield 22, 3) := by decide +kernel
theorem dX11_sew_58 : decode cX11_sew 58 = .ok (.iload_n 1, 1) := by decide +kernel
theorem dX11_sew_59 : decode cX11_sew 59 = .ok (.invokevirtual 87, 3) := by decide +kernel
theorem dX11_sew_62 : decode cX11_sew 62 = .ok (.checkcast 120, 3) := by decide +kernel
theorem dX11_sew_65 : decode cX11_sew 65 = .ok (.astore_n 3, 1) := by decide +kernel
theorem dX11_sew_66 : decode cX11_sew 66 = .ok (.aload_n 3, 1) := by decide +kernel
theorem dX11_sew_67 : decode cX11_sew 67 = .ok (.aload_n 0, 1) := by decide +kernel
theorem dX11_sew_68 : decode cX11_sew 68 = .ok (.iload_n 1, 1) := by decide +kernel
theorem dX11_sew_69 : decode cX11_sew 69 = .ok (.iload_n 2, 1) := by decide +kernel
theorem dX11_sew_70 : decode cX11_sew 70 = .ok (.invokevirtual 235, 3) := by decide +kernel
theorem dX11_sew_73 : decode cX11_sew 73 = .ok (.putfield 238, 3) := by decide +kernel
theorem dX11_sew_76 : decode cX11_sew 76 = .ok (.aload_n 3, 1) := by decide +kernel
theorem dX11_sew_77 : decode cX11_sew 77 = .ok (.iload_n 2, 1) := by decide +kernel
theorem dX11_sew_78 : decode cX11_sew 78 = .ok (.putfield 241, 3) := by decide +kernel
theorem dX11_sew_81 : decode cX11_sew 81 = .ok (.aload_n 3, 1) := by decide +kernel
theorem dX11_sew_82 : decode cX11_sew 82 = .ok (.iconst 2, 1) := by decide +kernel
theorem dX11_sew_83 : decode cX11_sew 83 = .ok (.putfield 181, 3) := by decide +kernel
theorem dX11_sew_86 : decode cX11_sew 86 = .ok (.aload_n 0, 1) := by decide +kernel
theorem dX11_sew_87 : decode cX11_sew 87 = .ok (.getfield 25, 3) := by decide +kernel
theorem dX11_sew_90 : decode cX11_sew 90 = .ok (.iload_n 2, 1) := by decide +kernel
theorem dX11_sew_91 : decode cX11_sew 91 = .ok (.aload_n 3, 1) := by decide +kernel
theorem dX11_sew_92 : decode cX11_sew 92 = .ok (.getfield 238, 3) := by decide +kernel
theorem dX11_sew_95 : decode cX11_sew 95 = .ok (.dastore, 1) := by decide +kernel
theorem dX11_sew_96 : decode cX11_sew 96 = .ok (.aload_n 3, 1) := by decide +kernel
theorem dX11_sew_97 : decode cX11_sew 97 = .ok (.getfield 238, 3) := by decide +kernel
theorem dX11_sew_100 : decode cX11_sew 100 = .ok (.dreturn, 1) := by decide +kernel
theorem dX11_tightNow_0 : decode cX11_tightNow 0 = .ok (.aload_n 0, 1) := by decide +kernel
theorem dX11_tightNow_1 : decode cX11_tightNow 1 = .ok (.getfield 22, 3) := by decide +kernel
theorem dX11_tightNow_4 : decode cX11_tightNow 4 = .ok (.iload_n 1, 1) := by decide +kernel
theorem dX11_tightNow_5 : decode cX11_tightNow 5 = .ok (.invokevirtual 87, 3) := by decide +kernel
theorem dX11_tightNow_8 : decode cX11_tightNow 8 = .ok (.checkcast 120, 3) := by decide +kernel
theorem dX11_tightNow_11 : decode cX11_tightNow 11 = .ok (.astore_n 3, 1) := by decide +kernel
theorem dX11_tightNow_12 : decode cX11_tightNow 12 = .ok (.aload_n 3, 1) := by decide +kernel
theorem dX11_tightNow_13 : decode cX11_tightNow 13 = .ok (.getfield 181, 3) := by decide +kernel
theorem dX11_tightNow_16 : decode cX11_tightNow 16 = .ok (.ifCond .ne 5, 3) := by decide +kernel
theorem dX11_tightNow_19 : decode cX11_tightNow 19 = .ok (.dconst 0, 1) := by decide +kernel
theorem dX11_tightNow_20 : decode cX11_tightNow 20 = .ok (.dreturn, 1) := by decide +kernel
theorem dX11_tightNow_21 : decode cX11_tightNow 21 = .ok (.aload_n 0, 1) := by decide +kernel
theorem dX11_tightNow_22 : decode cX11_tightNow 22 = .ok (.aload_n 3, 1) := by decide +kernel
theorem dX11_tightNow_23 : decode cX11_tightNow 23 = .ok (.iconst 0, 1) := by decide +kernel
theorem dX11_tightNow_24 : decode cX11_tightNow 24 = .ok (.invokevirtual 193, 3) := by decide +kernel
theorem dX11_tightNow_27 : decode cX11_tightNow 27 = .ok (.aload_n 3, 1) := by decide +kernel
theorem dX11_tightNow_28 : decode cX11_tightNow 28 = .ok (.getfield 190, 3) := by decide +kernel
theorem dX11_tightNow_31 : decode cX11_tightNow 31 = .ok (.iconst 0, 1) := by decide +kernel
theorem dX11_tightNow_32 : decode cX11_tightNow 32 = .ok (.daload, 1) := by decide +kernel
theorem dX11_tightNow_33 : decode cX11_tightNow 33 = .ok (.dsub, 1) := by decide +kernel
theorem dX11_tightNow_34 : decode cX11_tightNow 34 = .ok (.dstore 4, 2) := by decide +kernel
theorem dX11_tightNow_36 : decode cX11_tightNow 36 = .ok (.iconst 1, 1) := by decide +kernel
theorem dX11_tightNow_37 : decode cX11_tightNow 37 = .ok (.istore 6, 2) := by decide +kernel
theorem dX11_tightNow_39 : decode cX11_tightNow 39 = .ok (.iload 6, 2) := by decide +kernel
theorem dX11_tightNow_41 : decode cX11_tightNow 41 = .ok (.aload_n 3, 1) := by decide +kernel
theorem dX11_tightNow_42 : decode cX11_tightNow 42 = .ok (.getfield 190, 3) := by decide +kernel
theorem dX11_tightNow_45 : decode cX11_tightNow 45 = .ok (.arraylength, 1) := by decide +kernel
theorem dX11_tightNow_46 : decode cX11_tightNow 46 = .ok (.if_icmp .ge 49, 3) := by decide +kernel
theorem dX11_tightNow_49 : decode cX11_tightNow 49 = .ok (.aload_n 0, 1) := by decide +kernel
theorem dX11_tightNow_50 : decode cX11_tightNow 50 = .ok (.aload_n 3, 1) := by decide +kernel
theorem dX11_tightNow_51 : decode cX11_tightNow 51 = .ok (.iload 6, 2) := by decide +kernel
theorem dX11_tightNow_53 : decode cX11_tightNow 53 = .ok (.invokevirtual 193, 3) := by decide +kernel
theorem dX11_tightNow_56 : decode cX11_tightNow 56 = .ok (.aload_n 3, 1) := by decide +kernel
theorem dX11_tightNow_57 : decode cX11_tightNow 57 = .ok (.getfield 190, 3) := by decide +kernel
theorem dX11_tightNow_60 : decode cX11_tightNow 60 = .ok (.iload 6, 2) := by decide +kernel
theorem dX11_tightNow_62 : decode cX11_tightNow 62 = .ok (.daload, 1) := by decide +kernel
theorem dX11_tightNow_63 : decode cX11_tightNow 63 = .ok (.dsub, 1) := by decide +kernel
theorem dX11_tightNow_64 : decode cX11_tightNow 64 = .ok (.dstore 7, 2) := by decide +kernel
theorem dX11_tightNow_66 : decode cX11_tightNow 66 = .ok (.iload_n 2, 1) := by decide +kernel
theorem dX11_tightNow_67 : decode cX11_tightNow 67 = .ok (.ifCond .eq 13, 3) := by decide +kernel
theorem dX11_tightNow_70 : decode cX11_tightNow 70 = .ok (.dload 4, 2) := by decide +kernel
theorem dX11_tightNow_72 : decode cX11_tightNow 72 = .ok (.dload 7, 2) := by decide +kernel
theorem dX11_tightNow_74 : decode cX11_tightNow 74 = .ok (.invokestatic 226, 3) := by decide +kernel
theorem dX11_tightNow_77 : decode cX11_tightNow 77 = .ok (.goto 10, 3) := by decide +kernel
theorem dX11_tightNow_80 : decode cX11_tightNow 80 = .ok (.dload 4, 2) := by decide +kernel
theorem dX11_tightNow_82 : decode cX11_tightNow 82 = .ok (.dload 7, 2) := by decide +kernel
theorem dX11_tightNow_84 : decode cX11_tightNow 84 = .ok (.invokestatic 244, 3) := by decide +kernel
theorem dX11_tightNow_87 : decode cX11_tightNow 87 = .ok (.dstore 4, 2) := by decide +kernel
theorem dX11_tightNow_89 : decode cX11_tightNow 89 = .ok (.iinc 6 1, 3) := by decide +kernel
theorem dX11_tightNow_92 : decode cX11_tightNow 92 = .ok (.goto (-53), 3) := by decide +kernel
theorem dX11_tightNow_95 : decode cX11_tightNow 95 = .ok (.dload 4, 2) := by decide +kernel
theorem dX11_tightNow_97 : decode cX11_tightNow 97 = .ok (.dconst 0, 1) := by decide +kernel
theorem dX11_tightNow_98 : decode cX11_tightNow 98 = .ok (.dcmp .l, 1) := by decide +kernel
theorem dX11_tightNow_99 : decode cX11_tightNow 99 = .ok (.ifCond .ne 7, 3) := by decide +kernel
theorem dX11_tightNow_102 : decode cX11_tightNow 102 = .ok (.dconst 0, 1) := by decide +kernel
theorem dX11_tightNow_103 : decode cX11_tightNow 103 = .ok (.goto 5, 3) := by decide +kernel
theorem dX11_tightNow_106 : decode cX11_tightNow 106 = .ok (.dload 4, 2) := by decide +kernel
theorem dX11_tightNow_108 : decode cX11_tightNow 108 = .ok (.dreturn, 1) := by decide +kernel
theorem dX11_fit_0 : decode cX11_fit 0 = .ok (.aload_n 0, 1) := by decide +kernel
theorem dX11_fit_1 : decode cX11_fit 1 = .ok (.iconst 0, 1) := by decide +kernel
theorem dX11_fit_2 : decode cX11_fit 2 = .ok (.putfield 33, 3) := by decide +kernel
theorem dX11_fit_5 : decode cX11_fit 5 = .ok (.aload_n 0, 1) := by decide +kernel
theorem dX11_fit_6 : decode cX11_fit 6 = .ok (.iload_n 1, 1) := by decide +kernel
theorem dX11_fit_7 : decode cX11_fit 7 = .ok (.invokevirtual 196, 3) := by decide +kernel
theorem dX11_fit_10 : decode cX11_fit 10 = .ok (.ifCond .ne 9, 3) := by decide +kernel
theorem dX11_fit_13 : decode cX11_fit 13 = .ok (.aload_n 0, 1) := by decide +kernel
theorem dX11_fit_14 : decode cX11_fit 14 = .ok (.iconst 1, 1) := by decide +kernel
theorem dX11_fit_15 : decode cX11_fit 15 = .ok (.invokevirtual 47, 3) := by decide +kernel
theorem dX11_fit_18 : decode cX11_fit 18 = .ok (.ireturn, 1) := by decide +kernel
theorem dX11_fit_19 : decode cX11_fit 19 = .ok (.aload_n 0, 1) := by decide +kernel
theorem dX11_fit_20 : decode cX11_fit 20 = .ok (.getfield 199, 3) := by decide +kernel
theorem dX11_fit_23 : decode cX11_fit 23 = .ok (.ifCond .ne 12, 3) := by decide +kernel
theorem dX11_fit_26 : decode cX11_fit 26 = .ok (.aload_n 0, 1) := by decide +kernel
theorem dX11_fit_27 : decode cX11_fit 27 = .ok (.iload_n 1, 1) := by decide +kernel
theorem dX11_fit_28 : decode cX11_fit 28 = .ok (.iconst 2, 1) := by decide +kernel
theorem dX11_fit_29 : decode cX11_fit 29 = .ok (.invokevirtual 202, 3) := by decide +kernel
theorem dX11_fit_32 : decode cX11_fit 32 = .ok (.ifCond .ne 9, 3) := by decide +kernel
theorem dX11_fit_35 : decode cX11_fit 35 = .ok (.aload_n 0, 1) := by decide +kernel
theorem dX11_fit_36 : decode cX11_fit 36 = .ok (.iconst 2, 1) := by decide +kernel
theorem dX11_fit_37 : decode cX11_fit 37 = .ok (.invokevirtual 47, 3) := by decide +kernel
theorem dX11_fit_40 : decode cX11_fit 40 = .ok (.ireturn, 1) := by decide +kernel
theorem dX11_fit_41 : decode cX11_fit 41 = .ok (.aload_n 0, 1) := by decide +kernel
theorem dX11_fit_42 : decode cX11_fit 42 = .ok (.getfield 22, 3) := by decide +kernel
theorem dX11_fit_45 : decode cX11_fit 45 = .ok (.iload_n 1, 1) := by decide +kernel
theorem dX11_fit_46 : decode cX11_fit 46 = .ok (.invokevirtual 87, 3) := by decide +kernel
theorem dX11_fit_49 : decode cX11_fit 49 = .ok (.checkcast 120, 3) := by decide +kernel
theorem dX11_fit_52 : decode cX11_fit 52 = .ok (.astore_n 2, 1) := by decide +kernel
theorem dX11_fit_53 : decode cX11_fit 53 = .ok (.aload_n 2, 1) := by decide +kernel
theorem dX11_fit_54 : decode cX11_fit 54 = .ok (.getfield 238, 3) := by decide +kernel
theorem dX11_fit_57 : decode cX11_fit 57 = .ok (.aload_n 0, 1) := by decide +kernel
theorem dX11_fit_58 : decode cX11_fit 58 = .ok (.getfield 37, 3) := by decide +kernel
theorem dX11_fit_61 : decode cX11_fit 61 = .ok (.dcmp .l, 1) := by decide +kernel
theorem dX11_fit_62 : decode cX11_fit 62 = .ok (.ifCond .le 6, 3) := by decide +kernel
theorem dX11_fit_65 : decode cX11_fit 65 = .ok (.bipush (-2), 2) := by decide +kernel
theorem dX11_fit_67 : decode cX11_fit 67 = .ok (.ireturn, 1) := by decide +kernel
theorem dX11_fit_68 : decode cX11_fit 68 = .ok (.aload_n 0, 1) := by decide +kernel
theorem dX11_fit_69 : decode cX11_fit 69 = .ok (.iload_n 1, 1) := by decide +kernel
theorem dX11_fit_70 : decode cX11_fit 70 = .ok (.iconst 1, 1) := by decide +kernel
theorem dX11_fit_71 : decode cX11_fit 71 = .ok (.invokevirtual 247, 3) := by decide +kernel
theorem dX11_fit_74 : decode cX11_fit 74 = .ok (.dstore_n 3, 1) := by decide +kernel
theorem dX11_fit_75 : decode cX11_fit 75 = .ok (.aload_n 2, 1) := by decide +kernel
theorem dX11_fit_76 : decode cX11_fit 76 = .ok (.dload_n 3, 1) := by decide +kernel
theorem dX11_fit_77 : decode cX11_fit 77 = .ok (.ldc2_w 151, 3) := by decide +kernel
theorem dX11_fit_80 : decode cX11_fit 80 = .ok (.dcmp .l, 1) := by decide +kernel
theorem dX11_fit_81 : decode cX11_fit 81 = .ok (.ifCond .le 7, 3) := by decide +kernel
theorem dX11_fit_84 : decode cX11_fit 84 = .ok (.iconst 3, 1) := by decide +kernel
theorem dX11_fit_85 : decode cX11_fit 85 = .ok (.goto 33, 3) := by decide +kernel
theorem dX11_fit_88 : decode cX11_fit 88 = .ok (.dload_n 3, 1) := by decide +kernel
theorem dX11_fit_89 : decode cX11_fit 89 = .ok (.ldc2_w 230, 3) := by decide +kernel
theorem dX11_fit_92 : decode cX11_fit 92 = .ok (.dcmp .l, 1) := by decide +kernel
theorem dX11_fit_93 : decode cX11_fit 93 = .ok (.ifCond .le 7, 3) := by decide +kernel
theorem dX11_fit_96 : decode cX11_fit 96 = .ok (.iconst 1, 1) := by decide +kernel
theorem dX11_fit_97 : decode cX11_fit 97 = .ok (.goto 21, 3) := by decide +kernel
theorem dX11_fit_100 : decode cX11_fit 100 = .ok (.aload_n 0, 1) := by decide +kernel
theorem dX11_fit_101 : decode cX11_fit 101 = .ok (.iload_n 1, 1) := by decide +kernel
theorem dX11_fit_102 : decode cX11_fit 102 = .ok (.iconst 0, 1) := by decide +kernel
theorem dX11_fit_103 : decode cX11_fit 103 = .ok (.invokevirtual 247, 3) := by decide +kernel
theorem dX11_fit_106 : decode cX11_fit 106 = .ok (.ldc2_w 251, 3) := by decide +kernel
theorem dX11_fit_109 : decode cX11_fit 109 = .ok (.dcmp .g, 1) := by decide +kernel
theorem dX11_fit_110 : decode cX11_fit 110 = .ok (.ifCond .ge 7, 3) := by decide +kernel
theorem dX11_fit_113 : decode cX11_fit 113 = .ok (.iconst 2, 1) := by decide +kernel
theorem dX11_fit_114 : decode cX11_fit 114 = .ok (.goto 4, 3) := by decide +kernel
theorem dX11_fit_117 : decode cX11_fit 117 = .ok (.iconst 0, 1) := by decide +kernel
theorem dX11_fit_118 : decode cX11_fit 118 = .ok (.putfield 253, 3) := by decide +kernel
theorem dX11_fit_121 : decode cX11_fit 121 = .ok (.aload_n 2, 1) := by decide +kernel
theorem dX11_fit_122 : decode cX11_fit 122 = .ok (.aload_n 2, 1) := by decide +kernel
theorem dX11_fit_123 : decode cX11_fit 123 = .ok (.getfield 253, 3) := by decide +kernel
theorem dX11_fit_126 : decode cX11_fit 126 = .ok (.iconst 3, 1) := by decide +kernel
theorem dX11_fit_127 : decode cX11_fit 127 = .ok (.if_icmp .ne 7, 3) := by decide +kernel
theorem dX11_fit_130 : decode cX11_fit 130 = .ok (.iconst 5, 1) := by decide +kernel
theorem dX11_fit_131 : decode cX11_fit 131 = .ok (.goto 4, 3) := by decide +kernel
theorem dX11_fit_134 : decode cX11_fit 134 = .ok (.iconst 3, 1) := by decide +kernel
theorem dX11_fit_135 : decode cX11_fit 135 = .ok (.putfield 181, 3) := by decide +kernel
theorem dX11_fit_138 : decode cX11_fit 138 = .ok (.aload_n 2, 1) := by decide +kernel
theorem dX11_fit_139 : decode cX11_fit 139 = .ok (.getfield 253, 3) := by decide +kernel
theorem dX11_fit_142 : decode cX11_fit 142 = .ok (.iconst 1, 1) := by decide +kernel
theorem dX11_fit_143 : decode cX11_fit 143 = .ok (.if_icmp .ne 8, 3) := by decide +kernel
theorem dX11_fit_146 : decode cX11_fit 146 = .ok (.aload_n 0, 1) := by decide +kernel
theorem dX11_fit_147 : decode cX11_fit 147 = .ok (.dconst 1, 1) := by decide +kernel
theorem dX11_fit_148 : decode cX11_fit 148 = .ok (.invokevirtual 222, 3) := by decide +kernel
theorem dX11_fit_151 : decode cX11_fit 151 = .ok (.aload_n 2, 1) := by decide +kernel
theorem dX11_fit_152 : decode cX11_fit 152 = .ok (.getfield 253, 3) := by decide +kernel
theorem dX11_fit_155 : decode cX11_fit 155 = .ok (.iconst 2, 1) := by decide +kernel
theorem dX11_fit_156 : decode cX11_fit 156 = .ok (.if_icmp .ne 10, 3) := by decide +kernel
theorem dX11_fit_159 : decode cX11_fit 159 = .ok (.aload_n 0, 1) := by decide +kernel
theorem dX11_fit_160 : decode cX11_fit 160 = .ok (.ldc2_w 230, 3) := by decide +kernel
theorem dX11_fit_163 : decode cX11_fit 163 = .ok (.invokevirtual 222, 3) := by decide +kernel
theorem dX11_fit_166 : decode cX11_fit 166 = .ok (.aload_n 2, 1) := by decide +kernel
theorem dX11_fit_167 : decode cX11_fit 167 = .ok (.getfield 253, 3) := by decide +kernel
theorem dX11_fit_170 : decode cX11_fit 170 = .ok (.ireturn, 1) := by decide +kernel
theorem dX11_give_0 : decode cX11_give 0 = .ok (.aload_n 0, 1) := by decide +kernel
theorem dX11_give_1 : decode cX11_give 1 = .ok (.iconst 0, 1) := by decide +kernel
theorem dX11_give_2 : decode cX11_give 2 = .ok (.putfield 33, 3) := by decide +kernel
theorem dX11_give_5 : decode cX11_give 5 = .ok (.aload_n 0, 1) := by decide +kernel
theorem dX11_give_6 : decode cX11_give 6 = .ok (.iload_n 1, 1) := by decide +kernel
theorem dX11_give_7 : decode cX11_give 7 = .ok (.invokevirtual 196, 3) := by decide +kernel
theorem dX11_give_10 : decode cX11_give 10 = .ok (.ifCond .ne 9, 3) := by decide +kernel
theorem dX11_give_13 : decode cX11_give 13 = .ok (.aload_n 0, 1) := by decide +kernel
theorem dX11_give_14 : decode cX11_give 14 = .ok (.iconst 1, 1) := by decide +kernel
theorem dX11_give_15 : decode cX11_give 15 = .ok (.invokevirtual 47, 3) := by decide +kernel
theorem dX11_give_18 : decode cX11_give 18 = .ok (.ireturn, 1) := by decide +kernel
theorem dX11_give_19 : decode cX11_give 19 = .ok (.aload_n 0, 1) := by decide +kernel
theorem dX11_give_20 : decode cX11_give 20 = .ok (.getfield 199, 3) := by decide +kernel
theorem dX11_give_23 : decode cX11_give 23 = .ok (.ifCond .ne 12, 3) := by decide +kernel
theorem dX11_give_26 : decode cX11_give 26 = .ok (.aload_n 0, 1) := by decide +kernel
theorem dX11_give_27 : decode cX11_give 27 = .ok (.iload_n 1, 1) := by decide +kernel
theorem dX11_give_28 : decode cX11_give 28 = .ok (.iconst 3, 1) := by decide +kernel
theorem dX11_give_29 : decode cX11_give 29 = .ok (.invokevirtual 202, 3) := by decide +kernel
theorem dX11_give_32 : decode cX11_give 32 = .ok (.ifCond .ne 9, 3) := by decide +kernel
theorem dX11_give_35 : decode cX11_give 35 = .ok (.aload_n 0, 1) := by decide +kernel
theorem dX11_give_36 : decode cX11_give 36 = .ok (.iconst 2, 1) := by decide +kernel
theorem dX11_give_37 : decode cX11_give 37 = .ok (.invokevirtual 47, 3) := by decide +kernel
theorem dX11_give_40 : decode cX11_give 40 = .ok (.ireturn, 1) := by decide +kernel
theorem dX11_give_41 : decode cX11_give 41 = .ok (.aload_n 0, 1) := by decide +kernel
theorem dX11_give_42 : decode cX11_give 42 = .ok (.getfield 22, 3) := by decide +kernel
theorem dX11_give_45 : decode cX11_give 45 = .ok (.iload_n 1, 1) := by decide +kernel
theorem dX11_give_46 : decode cX11_give 46 = .ok (.invokevirtual 87, 3) := by decide +kernel
theorem dX11_give_49 : decode cX11_give 49 = .ok (.checkcast 120, 3) := by decide +kernel
theorem dX11_give_52 : decode cX11_give 52 = .ok (.astore_n 2, 1) := by decide +kernel
theorem dX11_give_53 : decode cX11_give 53 = .ok (.aload_n 0, 1) := by decide +kernel
theorem dX11_give_54 : decode cX11_give 54 = .ok (.getfield 10, 3) := by decide +kernel
theorem dX11_give_57 : decode cX11_give 57 = .ok (.aload_n 2, 1) := by decide +kernel
theorem dX11_give_58 : decode cX11_give 58 = .ok (.getfield 184, 3) := by decide +kernel
theorem dX11_give_61 : decode cX11_give 61 = .ok (.invokevirtual 87, 3) := by decide +kernel
theorem dX11_give_64 : decode cX11_give 64 = .ok (.checkcast 55, 3) := by decide +kernel
theorem dX11_give_67 : decode cX11_give 67 = .ok (.getfield 76, 3) := by decide +kernel
theorem dX11_give_70 : decode cX11_give 70 = .ok (.i2d, 1) := by decide +kernel
theorem dX11_give_71 : decode cX11_give 71 = .ok (.aload_n 2, 1) := by decide +kernel
theorem dX11_give_72 : decode cX11_give 72 = .ok (.getfield 187, 3) := by decide +kernel
theorem dX11_give_75 : decode cX11_give 75 = .ok (.dmul, 1) := by decide +kernel
theorem dX11_give_76 : decode cX11_give 76 = .ok (.ldc2_w 256, 3) := by decide +kernel
theorem dX11_give_79 : decode cX11_give 79 = .ok (.ddiv, 1) := by decide +kernel
theorem dX11_give_80 : decode cX11_give 80 = .ok (.invokestatic 165, 3) := by decide +kernel
theorem dX11_give_83 : decode cX11_give 83 = .ok (.d2i, 1) := by decide +kernel
theorem dX11_give_84 : decode cX11_give 84 = .ok (.istore_n 3, 1) := by decide +kernel
theorem dX11_give_85 : decode cX11_give 85 = .ok (.aload_n 0, 1) := by decide +kernel
theorem dX11_give_86 : decode cX11_give 86 = .ok (.getfield 37, 3) := by decide +kernel
theorem dX11_give_89 : decode cX11_give 89 = .ok (.aload_n 2, 1) := by decide +kernel
theorem dX11_give_90 : decode cX11_give 90 = .ok (.getfield 178, 3) := by decide +kernel
theorem dX11_give_93 : decode cX11_give 93 = .ok (.i2d, 1) := by decide +kernel
theorem dX11_give_94 : decode cX11_give 94 = .ok (.dcmp .l, 1) := by decide +kernel
theorem dX11_give_95 : decode cX11_give 95 = .ok (.ifCond .le 21, 3) := by decide +kernel
theorem dX11_give_98 : decode cX11_give 98 = .ok (.aload_n 0, 1) := by decide +kernel
theorem dX11_give_99 : decode cX11_give 99 = .ok (.getfield 37, 3) := by decide +kernel
theorem dX11_give_102 : decode cX11_give 102 = .ok (.aload_n 2, 1) := by decide +kernel
theorem dX11_give_103 : decode cX11_give 103 = .ok (.getfield 178, 3) := by decide +kernel
theorem dX11_give_106 : decode cX11_give 106 = .ok (.i2d, 1) := by decide +kernel
theorem dX11_give_107 : decode cX11_give 107 = .ok (.dsub, 1) := by decide +kernel
theorem dX11_give_108 : decode cX11_give 108 = .ok (.ldc2_w 129, 3) := by decide +kernel
theorem dX11_give_111 : decode cX11_give 111 = .ok (.ddiv, 1) := by decide +kernel
theorem dX11_give_112 : decode cX11_give 112 = .ok (.d2i, 1) := by decide +kernel
theorem dX11_give_113 : decode cX11_give 113 = .ok (.goto 4, 3) := by decide +kernel
theorem dX11_give_116 : decode cX11_give 116 = .ok (.iconst 0, 1) := by decide +kernel
theorem dX11_give_117 : decode cX11_give 117 = .ok (.istore 4, 2) := by decide +kernel
theorem dX11_give_119 : decode cX11_give 119 = .ok (.bipush 20, 2) := by decide +kernel
theorem dX11_give_121 : decode cX11_give 121 = .ok (.iconst 5, 1) := by decide +kernel
theorem dX11_give_122 : decode cX11_give 122 = .ok (.aload_n 0, 1) := by decide +kernel
theorem dX11_give_123 : decode cX11_give 123 = .ok (.aload_n 2, 1) := by decide +kernel
theorem dX11_give_124 : decode cX11_give 124 = .ok (.invokevirtual 147, 3) := by decide +kernel
theorem dX11_give_127 : decode cX11_give 127 = .ok (.imul, 1) := by decide +kernel
theorem dX11_give_128 : decode cX11_give 128 = .ok (.iadd, 1) := by decide +kernel
theorem dX11_give_129 : decode cX11_give 129 = .ok (.iload_n 3, 1) := by decide +kernel
theorem dX11_give_130 : decode cX11_give 130 = .ok (.isub, 1) := by decide +kernel
theorem dX11_give_131 : decode cX11_give 131 = .ok (.iconst 3, 1) := by decide +kernel
theorem dX11_give_132 : decode cX11_give 132 = .ok (.iload 4, 2) := by decide +kernel
theorem dX11_give_134 : decode cX11_give 134 = .ok (.imul, 1) := by decide +kernel
theorem dX11_give_135 : decode cX11_give 135 = .ok (.isub, 1) := by decide +kernel
theorem dX11_give_136 : decode cX11_give 136 = .ok (.istore 5, 2) := by decide +kernel
theorem dX11_give_138 : decode cX11_give 138 = .ok (.aload_n 2, 1) := by decide +kernel
theorem dX11_give_139 : decode cX11_give 139 = .ok (.iconst 4, 1) := by decide +kernel
theorem dX11_give_140 : decode cX11_give 140 = .ok (.putfield 181, 3) := by decide +kernel
theorem dX11_give_143 : decode cX11_give 143 = .ok (.aload_n 0, 1) := by decide +kernel
theorem dX11_give_144 : decode cX11_give 144 = .ok (.dup, 1) := by decide +kernel
theorem dX11_give_145 : decode cX11_give 145 = .ok (.getfield 258, 3) := by decide +kernel
theorem dX11_give_148 : decode cX11_give 148 = .ok (.iload 5, 2) := by decide +kernel
theorem dX11_give_150 : decode cX11_give 150 = .ok (.iadd, 1) := by decide +kernel
theorem dX11_give_151 : decode cX11_give 151 = .ok (.putfield 258, 3) := by decide +kernel
theorem dX11_give_154 : decode cX11_give 154 = .ok (.iload 5, 2) := by decide +kernel
theorem dX11_give_156 : decode cX11_give 156 = .ok (.ireturn, 1) := by decide +kernel
theorem dX11_pass_0 : decode cX11_pass 0 = .ok (.aload_n 0, 1) := by decide +kernel
theorem dX11_pass_1 : decode cX11_pass 1 = .ok (.iload_n 1, 1) := by decide +kernel
theorem dX11_pass_2 : decode cX11_pass 2 = .ok (.iconst 1, 1) := by decide +kernel
theorem dX11_pass_3 : decode cX11_pass 3 = .ok (.bipush 100, 2) := by decide +kernel
theorem dX11_pass_5 : decode cX11_pass 5 = .ok (.invokestatic 43, 3) := by decide +kernel
theorem dX11_pass_8 : decode cX11_pass 8 = .ok (.ifCond .eq 7, 3) := by decide +kernel
theorem dX11_pass_11 : decode cX11_pass 11 = .ok (.iconst 0, 1) := by decide +kernel
theorem dX11_pass_12 : decode cX11_pass 12 = .ok (.goto 4, 3) := by decide +kernel
theorem dX11_pass_15 : decode cX11_pass 15 = .ok (.iconst 1, 1) := by decide +kernel
theorem dX11_pass_16 : decode cX11_pass 16 = .ok (.putfield 33, 3) := by decide +kernel
theorem dX11_pass_19 : decode cX11_pass 19 = .ok (.aload_n 0, 1) := by decide +kernel
theorem dX11_pass_20 : decode cX11_pass 20 = .ok (.getfield 33, 3) := by decide +kernel
theorem dX11_pass_23 : decode cX11_pass 23 = .ok (.ifCond .le 5, 3) := by decide +kernel
theorem dX11_pass_26 : decode cX11_pass 26 = .ok (.dconst 0, 1) := by decide +kernel
theorem dX11_pass_27 : decode cX11_pass 27 = .ok (.dreturn, 1) := by decide +kernel
theorem dX11_pass_28 : decode cX11_pass 28 = .ok (.aload_n 0, 1) := by decide +kernel
theorem dX11_pass_29 : decode cX11_pass 29 = .ok (.iload_n 1, 1) := by decide +kernel
theorem dX11_pass_30 : decode cX11_pass 30 = .ok (.i2d, 1) := by decide +kernel
theorem dX11_pass_31 : decode cX11_pass 31 = .ok (.invokevirtual 222, 3) := by decide +kernel
theorem dX11_pass_34 : decode cX11_pass 34 = .ok (.aload_n 0, 1) := by decide +kernel
theorem dX11_pass_35 : decode cX11_pass 35 = .ok (.getfield 37, 3) := by decide +kernel
theorem dX11_pass_38 : decode cX11_pass 38 = .ok (.dreturn, 1) := by decide +kernel
theorem dX11_shut_0 : decode cX11_shut 0 = .ok (.aload_n 0, 1) := by decide +kernel
theorem dX11_shut_1 : decode cX11_shut 1 = .ok (.iconst 0, 1) := by decide +kernel
theorem dX11_shut_2 : decode cX11_shut 2 = .ok (.putfield 33, 3) := by decide +kernel
theorem dX11_shut_5 : decode cX11_shut 5 = .ok (.aload_n 0, 1) := by decide +kernel
theorem dX11_shut_6 : decode cX11_shut 6 = .ok (.getfield 199, 3) := by decide +kernel
theorem dX11_shut_9 : decode cX11_shut 9 = .ok (.istore_n 2, 1) := by decide +kernel
theorem dX11_shut_10 : decode cX11_shut 10 = .ok (.aload_n 0, 1) := by decide +kernel
theorem dX11_shut_11 : decode cX11_shut 11 = .ok (.iload_n 1, 1) := by decide +kernel
theorem dX11_shut_12 : decode cX11_shut 12 = .ok (.putfield 199, 3) := by decide +kernel
theorem dX11_shut_15 : decode cX11_shut 15 = .ok (.iload_n 2, 1) := by decide +kernel
theorem dX11_shut_16 : decode cX11_shut 16 = .ok (.ireturn, 1) := by decide +kernel
theorem dX11_bell_0 : decode cX11_bell 0 = .ok (.aload_n 0, 1) := by decide +kernel
theorem dX11_bell_1 : decode cX11_bell 1 = .ok (.iconst 0, 1) := by decide +kernel
theorem dX11_bell_2 : decode cX11_bell 2 = .ok (.putfield 33, 3) := by decide +kernel
theorem dX11_bell_5 : decode cX11_bell 5 = .ok (.aload_n 0, 1) := by decide +kernel
theorem dX11_bell_6 : decode cX11_bell 6 = .ok (.dup, 1) := by decide +kernel
theorem dX11_bell_7 : decode cX11_bell 7 = .ok (.getfield 261, 3) := by decide +kernel
theorem dX11_bell_10 : decode cX11_bell 10 = .ok (.iconst 1, 1) := by decide +kernel
theorem dX11_bell_11 : decode cX11_bell 11 = .ok (.iadd, 1) := by decide +kernel
theorem dX11_bell_12 : decode cX11_bell 12 = .ok (.putfield 261, 3) := by decide +kernel
theorem dX11_bell_15 : decode cX11_bell 15 = .ok (.aload_n 0, 1) := by decide +kernel
theorem dX11_bell_16 : decode cX11_bell 16 = .ok (.getfield 261, 3) := by decide +kernel
theorem dX11_bell_19 : decode cX11_bell 19 = .ok (.ireturn, 1) := by decide +kernel
theorem dX11_ofClothNow_0 : decode cX11_ofClothNow 0 = .ok (.bipush 6, 2) := by decide +kernel
theorem dX11_ofClothNow_2 : decode cX11_ofClothNow 2 = .ok (.newarray .double, 2) := by decide +kernel
theorem dX11_ofClothNow_4 : decode cX11_ofClothNow 4 = .ok (.dup, 1) := by decide +kernel
theorem dX11_ofClothNow_5 : decode cX11_ofClothNow 5 = .ok (.iconst 0, 1) := by decide +kernel
theorem dX11_ofClothNow_6 : decode cX11_ofClothNow 6 = .ok (.aload_n 1, 1) := by decide +kernel
theorem dX11_ofClothNow_7 : decode cX11_ofClothNow 7 = .ok (.getfield 58, 3) := by decide +kernel
theorem dX11_ofClothNow_10 : decode cX11_ofClothNow 10 = .ok (.dastore, 1) := by decide +kernel
theorem dX11_ofClothNow_11 : decode cX11_ofClothNow 11 = .ok (.dup, 1) := by decide +kernel
theorem dX11_ofClothNow_12 : decode cX11_ofClothNow 12 = .ok (.iconst 1, 1) := by decide +kernel
theorem dX11_ofClothNow_13 : decode cX11_ofClothNow 13 = .ok (.aload_n 1, 1) := by decide +kernel
theorem dX11_ofClothNow_14 : decode cX11_ofClothNow 14 = .ok (.getfield 61, 3) := by decide +kernel
theorem dX11_ofClothNow_17 : decode cX11_ofClothNow 17 = .ok (.dastore, 1) := by decide +kernel
theorem dX11_ofClothNow_18 : decode cX11_ofClothNow 18 = .ok (.dup, 1) := by decide +kernel
theorem dX11_ofClothNow_19 : decode cX11_ofClothNow 19 = .ok (.iconst 2, 1) := by decide +kernel
theorem dX11_ofClothNow_20 : decode cX11_ofClothNow 20 = .ok (.aload_n 1, 1) := by decide +kernel
theorem dX11_ofClothNow_21 : decode cX11_ofClothNow 21 = .ok (.getfield 65, 3) := by decide +kernel
theorem dX11_ofClothNow_24 : decode cX11_ofClothNow 24 = .ok (.f2d, 1) := by decide +kernel
theorem dX11_ofClothNow_25 : decode cX11_ofClothNow 25 = .ok (.dastore, 1) := by decide +kernel
theorem dX11_ofClothNow_26 : decode cX11_ofClothNow 26 = .ok (.dup, 1) := by decide +kernel
theorem dX11_ofClothNow_27 : decode cX11_ofClothNow 27 = .ok (.iconst 3, 1) := by decide +kernel
theorem dX11_ofClothNow_28 : decode cX11_ofClothNow 28 = .ok (.aload_n 1, 1) := by decide +kernel
theorem dX11_ofClothNow_29 : decode cX11_ofClothNow 29 = .ok (.getfield 69, 3) := by decide +kernel
theorem dX11_ofClothNow_32 : decode cX11_ofClothNow 32 = .ok (.i2d, 1) := by decide +kernel
theorem dX11_ofClothNow_33 : decode cX11_ofClothNow 33 = .ok (.dastore, 1) := by decide +kernel
theorem dX11_ofClothNow_34 : decode cX11_ofClothNow 34 = .ok (.dup, 1) := by decide +kernel
theorem dX11_ofClothNow_35 : decode cX11_ofClothNow 35 = .ok (.iconst 4, 1) := by decide +kernel
theorem dX11_ofClothNow_36 : decode cX11_ofClothNow 36 = .ok (.aload_n 1, 1) := by decide +kernel
theorem dX11_ofClothNow_37 : decode cX11_ofClothNow 37 = .ok (.getfield 72, 3) := by decide +kernel
theorem dX11_ofClothNow_40 : decode cX11_ofClothNow 40 = .ok (.ifCond .eq 7, 3) := by decide +kernel
theorem dX11_ofClothNow_43 : decode cX11_ofClothNow 43 = .ok (.dconst 1, 1) := by decide +kernel
theorem dX11_ofClothNow_44 : decode cX11_ofClothNow 44 = .ok (.goto 4, 3) := by decide +kernel
theorem dX11_ofClothNow_47 : decode cX11_ofClothNow 47 = .ok (.dconst 0, 1) := by decide +kernel
theorem dX11_ofClothNow_48 : decode cX11_ofClothNow 48 = .ok (.dastore, 1) := by decide +kernel
theorem dX11_ofClothNow_49 : decode cX11_ofClothNow 49 = .ok (.dup, 1) := by decide +kernel
theorem dX11_ofClothNow_50 : decode cX11_ofClothNow 50 = .ok (.iconst 5, 1) := by decide +kernel
theorem dX11_ofClothNow_51 : decode cX11_ofClothNow 51 = .ok (.aload_n 1, 1) := by decide +kernel
theorem dX11_ofClothNow_52 : decode cX11_ofClothNow 52 = .ok (.getfield 76, 3) := by decide +kernel
theorem dX11_ofClothNow_55 : decode cX11_ofClothNow 55 = .ok (.i2d, 1) := by decide +kernel
theorem dX11_ofClothNow_56 : decode cX11_ofClothNow 56 = .ok (.dastore, 1) := by decide +kernel
theorem dX11_ofClothNow_57 : decode cX11_ofClothNow 57 = .ok (.astore_n 3, 1) := by decide +kernel
theorem dX11_ofClothNow_58 : decode cX11_ofClothNow 58 = .ok (.aload_n 3, 1) := by decide +kernel
theorem dX11_ofClothNow_59 : decode cX11_ofClothNow 59 = .ok (.iload_n 2, 1) := by decide +kernel
theorem dX11_ofClothNow_60 : decode cX11_ofClothNow 60 = .ok (.daload, 1) := by decide +kernel
theorem dX11_ofClothNow_61 : decode cX11_ofClothNow 61 = .ok (.dreturn, 1) := by decide +kernel
theorem dX11_ofCloth_0 : decode cX11_ofCloth 0 = .ok (.aload_n 0, 1) := by decide +kernel
theorem dX11_ofCloth_1 : decode cX11_ofCloth 1 = .ok (.aload_n 0, 1) := by decide +kernel
theorem dX11_ofCloth_2 : decode cX11_ofCloth 2 = .ok (.iload_n 1, 1) := by decide +kernel
theorem dX11_ofCloth_3 : decode cX11_ofCloth 3 = .ok (.invokevirtual 83, 3) := by decide +kernel
theorem dX11_ofCloth_6 : decode cX11_ofCloth 6 = .ok (.ifCond .ne 7, 3) := by decide +kernel
theorem dX11_ofCloth_9 : decode cX11_ofCloth 9 = .ok (.iconst 1, 1) := by decide +kernel
theorem dX11_ofCloth_10 : decode cX11_ofCloth 10 = .ok (.goto 17, 3) := by decide +kernel
theorem dX11_ofCloth_13 : decode cX11_ofCloth 13 = .ok (.iload_n 2, 1) := by decide +kernel
theorem dX11_ofCloth_14 : decode cX11_ofCloth 14 = .ok (.iconst 0, 1) := by decide +kernel
theorem dX11_ofCloth_15 : decode cX11_ofCloth 15 = .ok (.iconst 5, 1) := by decide +kernel
theorem dX11_ofCloth_16 : decode cX11_ofCloth 16 = .ok (.invokestatic 43, 3) := by decide +kernel
theorem dX11_ofCloth_19 : decode cX11_ofCloth 19 = .ok (.ifCond .eq 7, 3) := by decide +kernel
theorem dX11_ofCloth_22 : decode cX11_ofCloth 22 = .ok (.iconst 0, 1) := by decide +kernel
theorem dX11_ofCloth_23 : decode cX11_ofCloth 23 = .ok (.goto 4, 3) := by decide +kernel
theorem dX11_ofCloth_26 : decode cX11_ofCloth 26 = .ok (.iconst 2, 1) := by decide +kernel
theorem dX11_ofCloth_27 : decode cX11_ofCloth 27 = .ok (.putfield 33, 3) := by decide +kernel
theorem dX11_ofCloth_30 : decode cX11_ofCloth 30 = .ok (.aload_n 0, 1) := by decide +kernel
theorem dX11_ofCloth_31 : decode cX11_ofCloth 31 = .ok (.getfield 33, 3) := by decide +kernel
theorem dX11_ofCloth_34 : decode cX11_ofCloth 34 = .ok (.ifCond .ne 22, 3) := by decide +kernel
theorem dX11_ofCloth_37 : decode cX11_ofCloth 37 = .ok (.aload_n 0, 1) := by decide +kernel
theorem dX11_ofCloth_38 : decode cX11_ofCloth 38 = .ok (.aload_n 0, 1) := by decide +kernel
theorem dX11_ofCloth_39 : decode cX11_ofCloth 39 = .ok (.getfield 10, 3) := by decide +kernel
theorem dX11_ofCloth_42 : decode cX11_ofCloth 42 = .ok (.iload_n 1, 1) := by decide +kernel
theorem dX11_ofCloth_43 : decode cX11_ofCloth 43 = .ok (.invokevirtual 87, 3) := by decide +kernel
theorem dX11_ofCloth_46 : decode cX11_ofCloth 46 = .ok (.checkcast 55, 3) := by decide +kernel
theorem dX11_ofCloth_49 : decode cX11_ofCloth 49 = .ok (.iload_n 2, 1) := by decide +kernel
theorem dX11_ofCloth_50 : decode cX11_ofCloth 50 = .ok (.invokevirtual 264, 3) := by decide +kernel
theorem dX11_ofCloth_53 : decode cX11_ofCloth 53 = .ok (.goto 4, 3) := by decide +kernel
theorem dX11_ofCloth_56 : decode cX11_ofCloth 56 = .ok (.dconst 0, 1) := by decide +kernel
theorem dX11_ofCloth_57 : decode cX11_ofCloth 57 = .ok (.dreturn, 1) := by decide +kernel
theorem dX11_size_0 : decode cX11_size 0 = .ok (.aload_n 0, 1) := by decide +kernel
theorem dX11_size_1 : decode cX11_size 1 = .ok (.aload_n 0, 1) := by decide +kernel
theorem dX11_size_2 : decode cX11_size 2 = .ok (.iload_n 1, 1) := by decide +kernel
theorem dX11_size_3 : decode cX11_size 3 = .ok (.invokevirtual 100, 3) := by decide +kernel
theorem dX11_size_6 : decode cX11_size 6 = .ok (.ifCond .eq 39, 3) := by decide +kernel
theorem dX11_size_9 : decode cX11_size 9 = .ok (.iload_n 2, 1) := by decide +kernel
theorem dX11_size_10 : decode cX11_size 10 = .ok (.iconst 0, 1) := by decide +kernel
theorem dX11_size_11 : decode cX11_size 11 = .ok (.aload_n 0, 1) := by decide +kernel
theorem dX11_size_12 : decode cX11_size 12 = .ok (.getfield 19, 3) := by decide +kernel
theorem dX11_size_15 : decode cX11_size 15 = .ok (.iload_n 1, 1) := by decide +kernel
theorem dX11_size_16 : decode cX11_size 16 = .ok (.invokevirtual 87, 3) := by decide +kernel
theorem dX11_size_19 : decode cX11_size 19 = .ok (.checkcast 7, 3) := by decide +kernel
theorem dX11_size_22 : decode cX11_size 22 = .ok (.invokevirtual 51, 3) := by decide +kernel
theorem dX11_size_25 : decode cX11_size 25 = .ok (.iconst 1, 1) := by decide +kernel
theorem dX11_size_26 : decode cX11_size 26 = .ok (.isub, 1) := by decide +kernel
theorem dX11_size_27 : decode cX11_size 27 = .ok (.invokestatic 43, 3) := by decide +kernel
theorem dX11_size_30 : decode cX11_size 30 = .ok (.ifCond .eq 15, 3) := by decide +kernel
theorem dX11_size_33 : decode cX11_size 33 = .ok (.aload_n 0, 1) := by decide +kernel
theorem dX11_size_34 : decode cX11_size 34 = .ok (.iload_n 3, 1) := by decide +kernel
theorem dX11_size_35 : decode cX11_size 35 = .ok (.invokevirtual 95, 3) := by decide +kernel
theorem dX11_size_38 : decode cX11_size 38 = .ok (.ifCond .eq 7, 3) := by decide +kernel
theorem dX11_size_41 : decode cX11_size 41 = .ok (.iconst 0, 1) := by decide +kernel
theorem dX11_size_42 : decode cX11_size 42 = .ok (.goto 4, 3) := by decide +kernel
theorem dX11_size_45 : decode cX11_size 45 = .ok (.iconst 1, 1) := by decide +kernel
theorem dX11_size_46 : decode cX11_size 46 = .ok (.putfield 33, 3) := by decide +kernel
theorem dX11_size_49 : decode cX11_size 49 = .ok (.aload_n 0, 1) := by decide +kernel
theorem dX11_size_50 : decode cX11_size 50 = .ok (.getfield 33, 3) := by decide +kernel
theorem dX11_size_53 : decode cX11_size 53 = .ok (.ifCond .le 5, 3) := by decide +kernel
theorem dX11_size_56 : decode cX11_size 56 = .ok (.dconst 0, 1) := by decide +kernel
theorem dX11_size_57 : decode cX11_size 57 = .ok (.dreturn, 1) := by decide +kernel
theorem dX11_size_58 : decode cX11_size 58 = .ok (.aload_n 0, 1) := by decide +kernel
theorem dX11_size_59 : decode cX11_size 59 = .ok (.getfield 19, 3) := by decide +kernel
theorem dX11_size_62 : decode cX11_size 62 = .ok (.iload_n 1, 1) := by decide +kernel
theorem dX11_size_63 : decode cX11_size 63 = .ok (.invokevirtual 87, 3) := by decide +kernel
theorem dX11_size_66 : decode cX11_size 66 = .ok (.checkcast 7, 3) := by decide +kernel
theorem dX11_size_69 : decode cX11_size 69 = .ok (.iload_n 2, 1) := by decide +kernel
theorem dX11_size_70 : decode cX11_size 70 = .ok (.invokevirtual 87, 3) := by decide +kernel
theorem dX11_size_73 : decode cX11_size 73 = .ok (.checkcast 98, 3) := by decide +kernel
theorem dX11_size_76 : decode cX11_size 76 = .ok (.astore 5, 2) := by decide +kernel
theorem dX11_size_78 : decode cX11_size 78 = .ok (.iload 4, 2) := by decide +kernel
theorem dX11_size_80 : decode cX11_size 80 = .ok (.ifCond .eq 15, 3) := by decide +kernel
theorem dX11_size_83 : decode cX11_size 83 = .ok (.aload_n 0, 1) := by decide +kernel
theorem dX11_size_84 : decode cX11_size 84 = .ok (.iload_n 3, 1) := by decide +kernel
theorem dX11_size_85 : decode cX11_size 85 = .ok (.aload 5, 2) := by decide +kernel
theorem dX11_size_87 : decode cX11_size 87 = .ok (.iconst 1, 1) := by decide +kernel
theorem dX11_size_88 : decode cX11_size 88 = .ok (.iaload, 1) := by decide +kernel
theorem dX11_size_89 : decode cX11_size 89 = .ok (.invokevirtual 131, 3) := by decide +kernel
theorem dX11_size_92 : decode cX11_size 92 = .ok (.goto 10, 3) := by decide +kernel
theorem dX11_size_95 : decode cX11_size 95 = .ok (.aload_n 0, 1) := by decide +kernel
theorem dX11_size_96 : decode cX11_size 96 = .ok (.iload_n 3, 1) := by decide +kernel
theorem dX11_size_97 : decode cX11_size 97 = .ok (.aload 5, 2) := by decide +kernel
theorem dX11_size_99 : decode cX11_size 99 = .ok (.invokevirtual 140, 3) := by decide +kernel
theorem dX11_size_102 : decode cX11_size 102 = .ok (.dreturn, 1) := by decide +kernel
theorem dX11_ofOrderNow_0 : decode cX11_ofOrderNow 0 = .ok (.bipush 8, 2) := by decide +kernel
theorem dX11_ofOrderNow_2 : decode cX11_ofOrderNow 2 = .ok (.newarray .int, 2) := by decide +kernel
theorem dX11_ofOrderNow_4 : decode cX11_ofOrderNow 4 = .ok (.dup, 1) := by decide +kernel
theorem dX11_ofOrderNow_5 : decode cX11_ofOrderNow 5 = .ok (.iconst 0, 1) := by decide +kernel
theorem dX11_ofOrderNow_6 : decode cX11_ofOrderNow 6 = .ok (.aload_n 1, 1) := by decide +kernel
theorem dX11_ofOrderNow_7 : decode cX11_ofOrderNow 7 = .ok (.getfield 137, 3) := by decide +kernel
theorem dX11_ofOrderNow_10 : decode cX11_ofOrderNow 10 = .ok (.iastore, 1) := by decide +kernel
theorem dX11_ofOrderNow_11 : decode cX11_ofOrderNow 11 = .ok (.dup, 1) := by decide +kernel
theorem dX11_ofOrderNow_12 : decode cX11_ofOrderNow 12 = .ok (.iconst 1, 1) := by decide +kernel
theorem dX11_ofOrderNow_13 : decode cX11_ofOrderNow 13 = .ok (.aload_n 1, 1) := by decide +kernel
theorem dX11_ofOrderNow_14 : decode cX11_ofOrderNow 14 = .ok (.getfield 122, 3) := by decide +kernel
theorem dX11_ofOrderNow_17 : decode cX11_ofOrderNow 17 = .ok (.iastore, 1) := by decide +kernel
theorem dX11_ofOrderNow_18 : decode cX11_ofOrderNow 18 = .ok (.dup, 1) := by decide +kernel
theorem dX11_ofOrderNow_19 : decode cX11_ofOrderNow 19 = .ok (.iconst 2, 1) := by decide +kernel
theorem dX11_ofOrderNow_20 : decode cX11_ofOrderNow 20 = .ok (.aload_n 1, 1) := by decide +kernel
theorem dX11_ofOrderNow_21 : decode cX11_ofOrderNow 21 = .ok (.getfield 178, 3) := by decide +kernel
theorem dX11_ofOrderNow_24 : decode cX11_ofOrderNow 24 = .ok (.iastore, 1) := by decide +kernel
theorem dX11_ofOrderNow_25 : decode cX11_ofOrderNow 25 = .ok (.dup, 1) := by decide +kernel
theorem dX11_ofOrderNow_26 : decode cX11_ofOrderNow 26 = .ok (.iconst 3, 1) := by decide +kernel
theorem dX11_ofOrderNow_27 : decode cX11_ofOrderNow 27 = .ok (.aload_n 1, 1) := by decide +kernel
theorem dX11_ofOrderNow_28 : decode cX11_ofOrderNow 28 = .ok (.getfield 181, 3) := by decide +kernel
theorem dX11_ofOrderNow_31 : decode cX11_ofOrderNow 31 = .ok (.iastore, 1) := by decide +kernel
theorem dX11_ofOrderNow_32 : decode cX11_ofOrderNow 32 = .ok (.dup, 1) := by decide +kernel
theorem dX11_ofOrderNow_33 : decode cX11_ofOrderNow 33 = .ok (.iconst 4, 1) := by decide +kernel
theorem dX11_ofOrderNow_34 : decode cX11_ofOrderNow 34 = .ok (.aload_n 1, 1) := by decide +kernel
theorem dX11_ofOrderNow_35 : decode cX11_ofOrderNow 35 = .ok (.getfield 184, 3) := by decide +kernel
theorem dX11_ofOrderNow_38 : decode cX11_ofOrderNow 38 = .ok (.iastore, 1) := by decide +kernel
theorem dX11_ofOrderNow_39 : decode cX11_ofOrderNow 39 = .ok (.dup, 1) := by decide +kernel
theorem dX11_ofOrderNow_40 : decode cX11_ofOrderNow 40 = .ok (.iconst 5, 1) := by decide +kernel
theorem dX11_ofOrderNow_41 : decode cX11_ofOrderNow 41 = .ok (.aload_n 0, 1) := by decide +kernel
theorem dX11_ofOrderNow_42 : decode cX11_ofOrderNow 42 = .ok (.aload_n 1, 1) := by decide +kernel
theorem dX11_ofOrderNow_43 : decode cX11_ofOrderNow 43 = .ok (.invokevirtual 147, 3) := by decide +kernel
theorem dX11_ofOrderNow_46 : decode cX11_ofOrderNow 46 = .ok (.iastore, 1) := by decide +kernel
theorem dX11_ofOrderNow_47 : decode cX11_ofOrderNow 47 = .ok (.dup, 1) := by decide +kernel
theorem dX11_ofOrderNow_48 : decode cX11_ofOrderNow 48 = .ok (.bipush 6, 2) := by decide +kernel
theorem dX11_ofOrderNow_50 : decode cX11_ofOrderNow 50 = .ok (.aload_n 1, 1) := by decide +kernel
theorem dX11_ofOrderNow_51 : decode cX11_ofOrderNow 51 = .ok (.getfield 253, 3) := by decide +kernel
theorem dX11_ofOrderNow_54 : decode cX11_ofOrderNow 54 = .ok (.iastore, 1) := by decide +kernel
theorem dX11_ofOrderNow_55 : decode cX11_ofOrderNow 55 = .ok (.dup, 1) := by decide +kernel
theorem dX11_ofOrderNow_56 : decode cX11_ofOrderNow 56 = .ok (.bipush 7, 2) := by decide +kernel
theorem dX11_ofOrderNow_58 : decode cX11_ofOrderNow 58 = .ok (.aload_n 1, 1) := by decide +kernel
theorem dX11_ofOrderNow_59 : decode cX11_ofOrderNow 59 = .ok (.getfield 241, 3) := by decide +kernel
theorem dX11_ofOrderNow_62 : decode cX11_ofOrderNow 62 = .ok (.iastore, 1) := by decide +kernel
theorem dX11_ofOrderNow_63 : decode cX11_ofOrderNow 63 = .ok (.astore_n 3, 1) := by decide +kernel
theorem dX11_ofOrderNow_64 : decode cX11_ofOrderNow 64 = .ok (.aload_n 3, 1) := by decide +kernel
theorem dX11_ofOrderNow_65 : decode cX11_ofOrderNow 65 = .ok (.iload_n 2, 1) := by decide +kernel
theorem dX11_ofOrderNow_66 : decode cX11_ofOrderNow 66 = .ok (.iaload, 1) := by decide +kernel
theorem dX11_ofOrderNow_67 : decode cX11_ofOrderNow 67 = .ok (.ireturn, 1) := by decide +kernel
theorem dX11_ofOrder_0 : decode cX11_ofOrder 0 = .ok (.aload_n 0, 1) := by decide +kernel
theorem dX11_ofOrder_1 : decode cX11_ofOrder 1 = .ok (.iconst 0, 1) := by decide +kernel
theorem dX11_ofOrder_2 : decode cX11_ofOrder 2 = .ok (.putfield 33, 3) := by decide +kernel
theorem dX11_ofOrder_5 : decode cX11_ofOrder 5 = .ok (.aload_n 0, 1) := by decide +kernel
theorem dX11_ofOrder_6 : decode cX11_ofOrder 6 = .ok (.iload_n 1, 1) := by decide +kernel
theorem dX11_ofOrder_7 : decode cX11_ofOrder 7 = .ok (.invokevirtual 196, 3) := by decide +kernel
theorem dX11_ofOrder_10 : decode cX11_ofOrder 10 = .ok (.ifCond .ne 9, 3) := by decide +kernel
theorem dX11_ofOrder_13 : decode cX11_ofOrder 13 = .ok (.aload_n 0, 1) := by decide +kernel
theorem dX11_ofOrder_14 : decode cX11_ofOrder 14 = .ok (.iconst 1, 1) := by decide +kernel
theorem dX11_ofOrder_15 : decode cX11_ofOrder 15 = .ok (.invokevirtual 47, 3) := by decide +kernel
theorem dX11_ofOrder_18 : decode cX11_ofOrder 18 = .ok (.ireturn, 1) := by decide +kernel
theorem dX11_ofOrder_19 : decode cX11_ofOrder 19 = .ok (.iload_n 2, 1) := by decide +kernel
theorem dX11_ofOrder_20 : decode cX11_ofOrder 20 = .ok (.iconst 0, 1) := by decide +kernel
theorem dX11_ofOrder_21 : decode cX11_ofOrder 21 = .ok (.bipush 7, 2) := by decide +kernel
theorem dX11_ofOrder_23 : decode cX11_ofOrder 23 = .ok (.invokestatic 43, 3) := by decide +kernel
theorem dX11_ofOrder_26 : decode cX11_ofOrder 26 = .ok (.ifCond .eq 22, 3) := by decide +kernel
theorem dX11_ofOrder_29 : decode cX11_ofOrder 29 = .ok (.aload_n 0, 1) := by decide +kernel
theorem dX11_ofOrder_30 : decode cX11_ofOrder 30 = .ok (.aload_n 0, 1) := by decide +kernel
theorem dX11_ofOrder_31 : decode cX11_ofOrder 31 = .ok (.getfield 22, 3) := by decide +kernel
theorem dX11_ofOrder_34 : decode cX11_ofOrder 34 = .ok (.iload_n 1, 1) := by decide +kernel
theorem dX11_ofOrder_35 : decode cX11_ofOrder 35 = .ok (.invokevirtual 87, 3) := by decide +kernel
theorem dX11_ofOrder_38 : decode cX11_ofOrder 38 = .ok (.checkcast 120, 3) := by decide +kernel
theorem dX11_ofOrder_41 : decode cX11_ofOrder 41 = .ok (.iload_n 2, 1) := by decide +kernel
theorem dX11_ofOrder_42 : decode cX11_ofOrder 42 = .ok (.invokevirtual 268, 3) := by decide +kernel
theorem dX11_ofOrder_45 : decode cX11_ofOrder 45 = .ok (.goto 8, 3) := by decide +kernel
theorem dX11_ofOrder_48 : decode cX11_ofOrder 48 = .ok (.aload_n 0, 1) := by decide +kernel
theorem dX11_ofOrder_49 : decode cX11_ofOrder 49 = .ok (.iconst 2, 1) := by decide +kernel
theorem dX11_ofOrder_50 : decode cX11_ofOrder 50 = .ok (.invokevirtual 47, 3) := by decide +kernel
theorem dX11_ofOrder_53 : decode cX11_ofOrder 53 = .ok (.ireturn, 1) := by decide +kernel
theorem dX11_tight_0 : decode cX11_tight 0 = .ok (.aload_n 0, 1) := by decide +kernel
theorem dX11_tight_1 : decode cX11_tight 1 = .ok (.aload_n 0, 1) := by decide +kernel
theorem dX11_tight_2 : decode cX11_tight 2 = .ok (.iload_n 1, 1) := by decide +kernel
theorem dX11_tight_3 : decode cX11_tight 3 = .ok (.invokevirtual 196, 3) := by decide +kernel
theorem dX11_tight_6 : decode cX11_tight 6 = .ok (.ifCond .eq 7, 3) := by decide +kernel
theorem dX11_tight_9 : decode cX11_tight 9 = .ok (.iconst 0, 1) := by decide +kernel
theorem dX11_tight_10 : decode cX11_tight 10 = .ok (.goto 4, 3) := by decide +kernel
theorem dX11_tight_13 : decode cX11_tight 13 = .ok (.iconst 1, 1) := by decide +kernel
theorem dX11_tight_14 : decode cX11_tight 14 = .ok (.putfield 33, 3) := by decide +kernel
theorem dX11_tight_17 : decode cX11_tight 17 = .ok (.aload_n 0, 1) := by decide +kernel
theorem dX11_tight_18 : decode cX11_tight 18 = .ok (.getfield 33, 3) := by decide +kernel
theorem dX11_tight_21 : decode cX11_tight 21 = .ok (.ifCond .ne 12, 3) := by decide +kernel
theorem dX11_tight_24 : decode cX11_tight 24 = .ok (.aload_n 0, 1) := by decide +kernel
theorem dX11_tight_25 : decode cX11_tight 25 = .ok (.iload_n 1, 1) := by decide +kernel
theorem dX11_tight_26 : decode cX11_tight 26 = .ok (.iload_n 2, 1) := by decide +kernel
theorem dX11_tight_27 : decode cX11_tight 27 = .ok (.invokevirtual 247, 3) := by decide +kernel
theorem dX11_tight_30 : decode cX11_tight 30 = .ok (.goto 4, 3) := by decide +kernel
theorem dX11_tight_33 : decode cX11_tight 33 = .ok (.dconst 0, 1) := by decide +kernel
theorem dX11_tight_34 : decode cX11_tight 34 = .ok (.dreturn, 1) := by decide +kernel
theorem dX11_ready_0 : decode cX11_ready 0 = .ok (.aload_n 0, 1) := by decide +kernel
theorem dX11_ready_1 : decode cX11_ready 1 = .ok (.aload_n 0, 1) := by decide +kernel
theorem dX11_ready_2 : decode cX11_ready 2 = .ok (.iload_n 1, 1) := by decide +kernel
theorem dX11_ready_3 : decode cX11_ready 3 = .ok (.invokevirtual 196, 3) := by decide +kernel
theorem dX11_ready_6 : decode cX11_ready 6 = .ok (.ifCond .eq 7, 3) := by decide +kernel
theorem dX11_ready_9 : decode cX11_ready 9 = .ok (.iconst 0, 1) := by decide +kernel
theorem dX11_ready_10 : decode cX11_ready 10 = .ok (.goto 4, 3) := by decide +kernel
theorem dX11_ready_13 : decode cX11_ready 13 = .ok (.iconst 1, 1) := by decide +kernel
theorem dX11_ready_14 : decode cX11_ready 14 = .ok (.putfield 33, 3) := by decide +kernel
theorem dX11_ready_17 : decode cX11_ready 17 = .ok (.aload_n 0, 1) := by decide +kernel
theorem dX11_ready_18 : decode cX11_ready 18 = .ok (.getfield 33, 3) := by decide +kernel
theorem dX11_ready_21 : decode cX11_ready 21 = .ok (.ifCond .ne 20, 3) := by decide +kernel
theorem dX11_ready_24 : decode cX11_ready 24 = .ok (.aload_n 0, 1) := by decide +kernel
theorem dX11_ready_25 : decode cX11_ready 25 = .ok (.getfield 22, 3) := by decide +kernel
theorem dX11_ready_28 : decode cX11_ready 28 = .ok (.iload_n 1, 1) := by decide +kernel
theorem dX11_ready_29 : decode cX11_ready 29 = .ok (.invokevirtual 87, 3) := by decide +kernel
theorem dX11_ready_32 : decode cX11_ready 32 = .ok (.checkcast 120, 3) := by decide +kernel
theorem dX11_ready_35 : decode cX11_ready 35 = .ok (.getfield 238, 3) := by decide +kernel
theorem dX11_ready_38 : decode cX11_ready 38 = .ok (.goto 4, 3) := by decide +kernel
theorem dX11_ready_41 : decode cX11_ready 41 = .ok (.dconst 0, 1) := by decide +kernel
theorem dX11_ready_42 : decode cX11_ready 42 = .ok (.dreturn, 1) := by decide +kernel
theorem dX11_free_0 : decode cX11_free 0 = .ok (.aload_n 0, 1) := by decide +kernel
theorem dX11_free_1 : decode cX11_free 1 = .ok (.aload_n 0, 1) := by decide +kernel
theorem dX11_free_2 : decode cX11_free 2 = .ok (.iload_n 1, 1) := by decide +kernel
theorem dX11_free_3 : decode cX11_free 3 = .ok (.invokevirtual 232, 3) := by decide +kernel
theorem dX11_free_6 : decode cX11_free 6 = .ok (.ifCond .eq 7, 3) := by decide +kernel
theorem dX11_free_9 : decode cX11_free 9 = .ok (.iconst 0, 1) := by decide +kernel
theorem dX11_free_10 : decode cX11_free 10 = .ok (.goto 4, 3) := by decide +kernel
theorem dX11_free_13 : decode cX11_free 13 = .ok (.iconst 1, 1) := by decide +kernel
theorem dX11_free_14 : decode cX11_free 14 = .ok (.putfield 33, 3) := by decide +kernel
theorem dX11_free_17 : decode cX11_free 17 = .ok (.aload_n 0, 1) := by decide +kernel
theorem dX11_free_18 : decode cX11_free 18 = .ok (.getfield 33, 3) := by decide +kernel
theorem dX11_free_21 : decode cX11_free 21 = .ok (.ifCond .ne 12, 3) := by decide +kernel
theorem dX11_free_24 : decode cX11_free 24 = .ok (.aload_n 0, 1) := by decide +kernel
theorem dX11_free_25 : decode cX11_free 25 = .ok (.getfield 25, 3) := by decide +kernel
theorem dX11_free_28 : decode cX11_free 28 = .ok (.iload_n 1, 1) := by decide +kernel
theorem dX11_free_29 : decode cX11_free 29 = .ok (.daload, 1) := by decide +kernel
theorem dX11_free_30 : decode cX11_free 30 = .ok (.goto 4, 3) := by decide +kernel
theorem dX11_free_33 : decode cX11_free 33 = .ok (.dconst 0, 1) := by decide +kernel
theorem dX11_free_34 : decode cX11_free 34 = .ok (.dreturn, 1) := by decide +kernel
theorem dX11_clock_0 : decode cX11_clock 0 = .ok (.aload_n 0, 1) := by decide +kernel
theorem dX11_clock_1 : decode cX11_clock 1 = .ok (.iconst 0, 1) := by decide +kernel
theorem dX11_clock_2 : decode cX11_clock 2 = .ok (.putfield 33, 3) := by decide +kernel
theorem dX11_clock_5 : decode cX11_clock 5 = .ok (.aload_n 0, 1) := by decide +kernel
theorem dX11_clock_6 : decode cX11_clock 6 = .ok (.getfield 37, 3) := by decide +kernel
theorem dX11_clock_9 : decode cX11_clock 9 = .ok (.dreturn, 1) := by decide +kernel
theorem dX11_manyNow_0 : decode cX11_manyNow 0 = .ok (.bipush 14, 2) := by decide +kernel
theorem dX11_manyNow_2 : decode cX11_manyNow 2 = .ok (.newarray .int, 2) := by decide +kernel
theorem dX11_manyNow_4 : decode cX11_manyNow 4 = .ok (.dup, 1) := by decide +kernel
theorem dX11_manyNow_5 : decode cX11_manyNow 5 = .ok (.iconst 0, 1) := by decide +kernel
theorem dX11_manyNow_6 : decode cX11_manyNow 6 = .ok (.aload_n 0, 1) := by decide +kernel
theorem dX11_manyNow_7 : decode cX11_manyNow 7 = .ok (.getfield 10, 3) := by decide +kernel
theorem dX11_manyNow_10 : decode cX11_manyNow 10 = .ok (.invokevirtual 51, 3) := by decide +kernel
theorem dX11_manyNow_13 : decode cX11_manyNow 13 = .ok (.iastore, 1) := by decide +kernel
theorem dX11_manyNow_14 : decode cX11_manyNow 14 = .ok (.dup, 1) := by decide +kernel
theorem dX11_manyNow_15 : decode cX11_manyNow 15 = .ok (.iconst 1, 1) := by decide +kernel
theorem dX11_manyNow_16 : decode cX11_manyNow 16 = .ok (.aload_n 0, 1) := by decide +kernel
theorem dX11_manyNow_17 : decode cX11_manyNow 17 = .ok (.getfield 16, 3) := by decide +kernel
theorem dX11_manyNow_20 : decode cX11_manyNow 20 = .ok (.invokevirtual 51, 3) := by decide +kernel
theorem dX11_manyNow_23 : decode cX11_manyNow 23 = .ok (.iastore, 1) := by decide +kernel
theorem dX11_manyNow_24 : decode cX11_manyNow 24 = .ok (.dup, 1) := by decide +kernel
theorem dX11_manyNow_25 : decode cX11_manyNow 25 = .ok (.iconst 2, 1) := by decide +kernel
theorem dX11_manyNow_26 : decode cX11_manyNow 26 = .ok (.aload_n 0, 1) := by decide +kernel
theorem dX11_manyNow_27 : decode cX11_manyNow 27 = .ok (.getfield 19, 3) := by decide +kernel
theorem dX11_manyNow_30 : decode cX11_manyNow 30 = .ok (.invokevirtual 51, 3) := by decide +kernel
theorem dX11_manyNow_33 : decode cX11_manyNow 33 = .ok (.iastore, 1) := by decide +kernel
theorem dX11_manyNow_34 : decode cX11_manyNow 34 = .ok (.dup, 1) := by decide +kernel
theorem dX11_manyNow_35 : decode cX11_manyNow 35 = .ok (.iconst 3, 1) := by decide +kernel
theorem dX11_manyNow_36 : decode cX11_manyNow 36 = .ok (.aload_n 0, 1) := by decide +kernel
theorem dX11_manyNow_37 : decode cX11_manyNow 37 = .ok (.getfield 125, 3) := by decide +kernel
theorem dX11_manyNow_40 : decode cX11_manyNow 40 = .ok (.iastore, 1) := by decide +kernel
theorem dX11_manyNow_41 : decode cX11_manyNow 41 = .ok (.dup, 1) := by decide +kernel
theorem dX11_manyNow_42 : decode cX11_manyNow 42 = .ok (.iconst 4, 1) := by decide +kernel
theorem dX11_manyNow_43 : decode cX11_manyNow 43 = .ok (.aload_n 0, 1) := by decide +kernel
theorem dX11_manyNow_44 : decode cX11_manyNow 44 = .ok (.getfield 22, 3) := by decide +kernel
theorem dX11_manyNow_47 : decode cX11_manyNow 47 = .ok (.invokevirtual 51, 3) := by decide +kernel
theorem dX11_manyNow_50 : decode cX11_manyNow 50 = .ok (.iastore, 1) := by decide +kernel
theorem dX11_manyNow_51 : decode cX11_manyNow 51 = .ok (.dup, 1) := by decide +kernel
theorem dX11_manyNow_52 : decode cX11_manyNow 52 = .ok (.iconst 5, 1) := by decide +kernel
theorem dX11_manyNow_53 : decode cX11_manyNow 53 = .ok (.iconst 0, 1) := by decide +kernel
theorem dX11_manyNow_54 : decode cX11_manyNow 54 = .ok (.iastore, 1) := by decide +kernel
theorem dX11_manyNow_55 : decode cX11_manyNow 55 = .ok (.dup, 1) := by decide +kernel
theorem dX11_manyNow_56 : decode cX11_manyNow 56 = .ok (.bipush 6, 2) := by decide +kernel
theorem dX11_manyNow_58 : decode cX11_manyNow 58 = .ok (.iconst 0, 1) := by decide +kernel
theorem dX11_manyNow_59 : decode cX11_manyNow 59 = .ok (.iastore, 1) := by decide +kernel
theorem dX11_manyNow_60 : decode cX11_manyNow 60 = .ok (.dup, 1) := by decide +kernel
theorem dX11_manyNow_61 : decode cX11_manyNow 61 = .ok (.bipush 7, 2) := by decide +kernel
theorem dX11_manyNow_63 : decode cX11_manyNow 63 = .ok (.iconst 0, 1) := by decide +kernel
theorem dX11_manyNow_64 : decode cX11_manyNow 64 = .ok (.iastore, 1) := by decide +kernel
theorem dX11_manyNow_65 : decode cX11_manyNow 65 = .ok (.dup, 1) := by decide +kernel
theorem dX11_manyNow_66 : decode cX11_manyNow 66 = .ok (.bipush 8, 2) := by decide +kernel
theorem dX11_manyNow_68 : decode cX11_manyNow 68 = .ok (.iconst 0, 1) := by decide +kernel
theorem dX11_manyNow_69 : decode cX11_manyNow 69 = .ok (.iastore, 1) := by decide +kernel
theorem dX11_manyNow_70 : decode cX11_manyNow 70 = .ok (.dup, 1) := by decide +kernel
theorem dX11_manyNow_71 : decode cX11_manyNow 71 = .ok (.bipush 9, 2) := by decide +kernel
theorem dX11_manyNow_73 : decode cX11_manyNow 73 = .ok (.iconst 0, 1) := by decide +kernel
theorem dX11_manyNow_74 : decode cX11_manyNow 74 = .ok (.iastore, 1) := by decide +kernel
theorem dX11_manyNow_75 : decode cX11_manyNow 75 = .ok (.dup, 1) := by decide +kernel
theorem dX11_manyNow_76 : decode cX11_manyNow 76 = .ok (.bipush 10, 2) := by decide +kernel
theorem dX11_manyNow_78 : decode cX11_manyNow 78 = .ok (.iconst 0, 1) := by decide +kernel
theorem dX11_manyNow_79 : decode cX11_manyNow 79 = .ok (.iastore, 1) := by decide +kernel
theorem dX11_manyNow_80 : decode cX11_manyNow 80 = .ok (.dup, 1) := by decide +kernel
theorem dX11_manyNow_81 : decode cX11_manyNow 81 = .ok (.bipush 11, 2) := by decide +kernel
theorem dX11_manyNow_83 : decode cX11_manyNow 83 = .ok (.aload_n 0, 1) := by decide +kernel
theorem dX11_manyNow_84 : decode cX11_manyNow 84 = .ok (.getfield 258, 3) := by decide +kernel
theorem dX11_manyNow_87 : decode cX11_manyNow 87 = .ok (.iastore, 1) := by decide +kernel
theorem dX11_manyNow_88 : decode cX11_manyNow 88 = .ok (.dup, 1) := by decide +kernel
theorem dX11_manyNow_89 : decode cX11_manyNow 89 = .ok (.bipush 12, 2) := by decide +kernel
theorem dX11_manyNow_91 : decode cX11_manyNow 91 = .ok (.aload_n 0, 1) := by decide +kernel
theorem dX11_manyNow_92 : decode cX11_manyNow 92 = .ok (.getfield 199, 3) := by decide +kernel
theorem dX11_manyNow_95 : decode cX11_manyNow 95 = .ok (.ifCond .eq 7, 3) := by decide +kernel
theorem dX11_manyNow_98 : decode cX11_manyNow 98 = .ok (.iconst 1, 1) := by decide +kernel
theorem dX11_manyNow_99 : decode cX11_manyNow 99 = .ok (.goto 4, 3) := by decide +kernel
theorem dX11_manyNow_102 : decode cX11_manyNow 102 = .ok (.iconst 0, 1) := by decide +kernel
theorem dX11_manyNow_103 : decode cX11_manyNow 103 = .ok (.iastore, 1) := by decide +kernel
theorem dX11_manyNow_104 : decode cX11_manyNow 104 = .ok (.dup, 1) := by decide +kernel
theorem dX11_manyNow_105 : decode cX11_manyNow 105 = .ok (.bipush 13, 2) := by decide +kernel
theorem dX11_manyNow_107 : decode cX11_manyNow 107 = .ok (.aload_n 0, 1) := by decide +kernel
theorem dX11_manyNow_108 : decode cX11_manyNow 108 = .ok (.getfield 261, 3) := by decide +kernel
theorem dX11_manyNow_111 : decode cX11_manyNow 111 = .ok (.iastore, 1) := by decide +kernel
theorem dX11_manyNow_112 : decode cX11_manyNow 112 = .ok (.astore_n 2, 1) := by decide +kernel
theorem dX11_manyNow_113 : decode cX11_manyNow 113 = .ok (.aload_n 0, 1) := by decide +kernel
theorem dX11_manyNow_114 : decode cX11_manyNow 114 = .ok (.getfield 22, 3) := by decide +kernel
theorem dX11_manyNow_117 : decode cX11_manyNow 117 = .ok (.invokevirtual 106, 3) := by decide +kernel
theorem dX11_manyNow_120 : decode cX11_manyNow 120 = .ok (.astore_n 3, 1) := by decide +kernel
theorem dX11_manyNow_121 : decode cX11_manyNow 121 = .ok (.aload_n 3, 1) := by decide +kernel
theorem dX11_manyNow_122 : decode cX11_manyNow 122 = .ok (.invokeinterface 110 1, 5) := by decide +kernel
theorem dX11_manyNow_127 : decode cX11_manyNow 127 = .ok (.ifCond .eq 30, 3) := by decide +kernel
theorem dX11_manyNow_130 : decode cX11_manyNow 130 = .ok (.aload_n 3, 1) := by decide +kernel
theorem dX11_manyNow_131 : decode cX11_manyNow 131 = .ok (.invokeinterface 116 1, 5) := by decide +kernel
theorem dX11_manyNow_136 : decode cX11_manyNow 136 = .ok (.checkcast 120, 3) := by decide +kernel
theorem dX11_manyNow_139 : decode cX11_manyNow 139 = .ok (.astore 4, 2) := by decide +kernel
theorem dX11_manyNow_141 : decode cX11_manyNow 141 = .ok (.aload_n 2, 1) := by decide +kernel
theorem dX11_manyNow_142 : decode cX11_manyNow 142 = .ok (.iconst 5, 1) := by decide +kernel
theorem dX11_manyNow_143 : decode cX11_manyNow 143 = .ok (.aload 4, 2) := by decide +kernel
theorem dX11_manyNow_145 : decode cX11_manyNow 145 = .ok (.getfield 181, 3) := by decide +kernel
theorem dX11_manyNow_148 : decode cX11_manyNow 148 = .ok (.iadd, 1) := by decide +kernel
theorem dX11_manyNow_149 : decode cX11_manyNow 149 = .ok (.dup2, 1) := by decide +kernel
theorem dX11_manyNow_150 : decode cX11_manyNow 150 = .ok (.iaload, 1) := by decide +kernel
theorem dX11_manyNow_151 : decode cX11_manyNow 151 = .ok (.iconst 1, 1) := by decide +kernel
theorem dX11_manyNow_152 : decode cX11_manyNow 152 = .ok (.iadd, 1) := by decide +kernel
theorem dX11_manyNow_153 : decode cX11_manyNow 153 = .ok (.iastore, 1) := by decide +kernel
theorem dX11_manyNow_154 : decode cX11_manyNow 154 = .ok (.goto (-33), 3) := by decide +kernel
theorem dX11_manyNow_157 : decode cX11_manyNow 157 = .ok (.aload_n 2, 1) := by decide +kernel
theorem dX11_manyNow_158 : decode cX11_manyNow 158 = .ok (.iload_n 1, 1) := by decide +kernel
theorem dX11_manyNow_159 : decode cX11_manyNow 159 = .ok (.iaload, 1) := by decide +kernel
theorem dX11_manyNow_160 : decode cX11_manyNow 160 = .ok (.ireturn, 1) := by decide +kernel
theorem dX11_many_0 : decode cX11_many 0 = .ok (.aload_n 0, 1) := by decide +kernel
theorem dX11_many_1 : decode cX11_many 1 = .ok (.iconst 0, 1) := by decide +kernel
theorem dX11_many_2 : decode cX11_many 2 = .ok (.putfield 33, 3) := by decide +kernel
theorem dX11_many_5 : decode cX11_many 5 = .ok (.iload_n 1, 1) := by decide +kernel
theorem dX11_many_6 : decode cX11_many 6 = .ok (.iconst 0, 1) := by decide +kernel
theorem dX11_many_7 : decode cX11_many 7 = .ok (.bipush 13, 2) := by decide +kernel
theorem dX11_many_9 : decode cX11_many 9 = .ok (.invokestatic 43, 3) := by decide +kernel
theorem dX11_many_12 : decode cX11_many 12 = .ok (.ifCond .eq 11, 3) := by decide +kernel
theorem dX11_many_15 : decode cX11_many 15 = .ok (.aload_n 0, 1) := by decide +kernel
theorem dX11_many_16 : decode cX11_many 16 = .ok (.iload_n 1, 1) := by decide +kernel
theorem dX11_many_17 : decode cX11_many 17 = .ok (.invokevirtual 272, 3) := by decide +kernel
theorem dX11_many_20 : decode cX11_many 20 = .ok (.goto 8, 3) := by decide +kernel
theorem dX11_many_23 : decode cX11_many 23 = .ok (.aload_n 0, 1) := by decide +kernel
theorem dX11_many_24 : decode cX11_many 24 = .ok (.iconst 1, 1) := by decide +kernel
theorem dX11_many_25 : decode cX11_many 25 = .ok (.invokevirtual 47, 3) := by decide +kernel
theorem dX11_many_28 : decode cX11_many 28 = .ok (.ireturn, 1) := by decide +kernel
theorem dX11_layNow_0 : decode cX11_layNow 0 = .ok (.aload_n 0, 1) := by decide +kernel
theorem dX11_layNow_1 : decode cX11_layNow 1 = .ok (.iload_n 1, 1) := by decide +kernel
theorem dX11_layNow_2 : decode cX11_layNow 2 = .ok (.iload_n 2, 1) := by decide +kernel
theorem dX11_layNow_3 : decode cX11_layNow 3 = .ok (.aload_n 3, 1) := by decide +kernel
theorem dX11_layNow_4 : decode cX11_layNow 4 = .ok (.invokevirtual 206, 3) := by decide +kernel
theorem dX11_layNow_7 : decode cX11_layNow 7 = .ok (.astore 5, 2) := by decide +kernel
theorem dX11_layNow_9 : decode cX11_layNow 9 = .ok (.aload 5, 2) := by decide +kernel
theorem dX11_layNow_11 : decode cX11_layNow 11 = .ok (.getfield 163, 3) := by decide +kernel
theorem dX11_layNow_14 : decode cX11_layNow 14 = .ok (.ifCond .eq 14, 3) := by decide +kernel
theorem dX11_layNow_17 : decode cX11_layNow 17 = .ok (.aload 5, 2) := by decide +kernel
theorem dX11_layNow_19 : decode cX11_layNow 19 = .ok (.getfield 171, 3) := by decide +kernel
theorem dX11_layNow_22 : decode cX11_layNow 22 = .ok (.iload 4, 2) := by decide +kernel
theorem dX11_layNow_24 : decode cX11_layNow 24 = .ok (.daload, 1) := by decide +kernel
theorem dX11_layNow_25 : decode cX11_layNow 25 = .ok (.goto 6, 3) := by decide +kernel
theorem dX11_layNow_28 : decode cX11_layNow 28 = .ok (.ldc2_w 275, 3) := by decide +kernel
theorem dX11_layNow_31 : decode cX11_layNow 31 = .ok (.dreturn, 1) := by decide +kernel
theorem dX11_lay__0 : decode cX11_lay_ 0 = .ok (.aload_n 0, 1) := by decide +kernel
theorem dX11_lay__1 : decode cX11_lay_ 1 = .ok (.aload_n 0, 1) := by decide +kernel
theorem dX11_lay__2 : decode cX11_lay_ 2 = .ok (.iload_n 1, 1) := by decide +kernel
theorem dX11_lay__3 : decode cX11_lay_ 3 = .ok (.invokevirtual 196, 3) := by decide +kernel
theorem dX11_lay__6 : decode cX11_lay_ 6 = .ok (.ifCond .eq 24, 3) := by decide +kernel
theorem dX11_lay__9 : decode cX11_lay_ 9 = .ok (.iload_n 2, 1) := by decide +kernel
theorem dX11_lay__10 : decode cX11_lay_ 10 = .ok (.iconst (-1), 1) := by decide +kernel
theorem dX11_lay__11 : decode cX11_lay_ 11 = .ok (.if_icmp .eq 11, 3) := by decide +kernel
theorem dX11_lay__14 : decode cX11_lay_ 14 = .ok (.aload_n 0, 1) := by decide +kernel
theorem dX11_lay__15 : decode cX11_lay_ 15 = .ok (.iload_n 2, 1) := by decide +kernel
theorem dX11_lay__16 : decode cX11_lay_ 16 = .ok (.invokevirtual 196, 3) := by decide +kernel
theorem dX11_lay__19 : decode cX11_lay_ 19 = .ok (.ifCond .eq 11, 3) := by decide +kernel
theorem dX11_lay__22 : decode cX11_lay_ 22 = .ok (.aload_n 0, 1) := by decide +kernel
theorem dX11_lay__23 : decode cX11_lay_ 23 = .ok (.iload_n 3, 1) := by decide +kernel
theorem dX11_lay__24 : decode cX11_lay_ 24 = .ok (.invokevirtual 83, 3) := by decide +kernel
theorem dX11_lay__27 : decode cX11_lay_ 27 = .ok (.ifCond .ne 7, 3) := by decide +kernel
theorem dX11_lay__30 : decode cX11_lay_ 30 = .ok (.iconst 1, 1) := by decide +kernel
theorem dX11_lay__31 : decode cX11_lay_ 31 = .ok (.goto 23, 3) := by decide +kernel
theorem dX11_lay__34 : decode cX11_lay_ 34 = .ok (.iload_n 1, 1) := by decide +kernel
theorem dX11_lay__35 : decode cX11_lay_ 35 = .ok (.iload_n 2, 1) := by decide +kernel
theorem dX11_lay__36 : decode cX11_lay_ 36 = .ok (.if_icmp .eq 13, 3) := by decide +kernel
theorem dX11_lay__39 : decode cX11_lay_ 39 = .ok (.iload 4, 2) := by decide +kernel
theorem dX11_lay__41 : decode cX11_lay_ 41 = .ok (.iconst 0, 1) := by decide +kernel
theorem dX11_lay__42 : decode cX11_lay_ 42 = .ok (.iconst 3, 1) := by decide +kernel
theorem dX11_lay__43 : decode cX11_lay_ 43 = .ok (.invokestatic 43, 3) := by decide +kernel
theorem dX11_lay__46 : decode cX11_lay_ 46 = .ok (.ifCond .ne 7, 3) := by decide +kernel
theorem dX11_lay__49 : decode cX11_lay_ 49 = .ok (.iconst 2, 1) := by decide +kernel
theorem dX11_lay__50 : decode cX11_lay_ 50 = .ok (.goto 4, 3) := by decide +kernel
theorem dX11_lay__53 : decode cX11_lay_ 53 = .ok (.iconst 0, 1) := by decide +kernel
theorem dX11_lay__54 : decode cX11_lay_ 54 = .ok (.putfield 33, 3) := by decide +kernel
theorem dX11_lay__57 : decode cX11_lay_ 57 = .ok (.aload_n 0, 1) := by decide +kernel
theorem dX11_lay__58 : decode cX11_lay_ 58 = .ok (.getfield 33, 3) := by decide +kernel
theorem dX11_lay__61 : decode cX11_lay_ 61 = .ok (.ifCond .ne 25, 3) := by decide +kernel
theorem dX11_lay__64 : decode cX11_lay_ 64 = .ok (.aload_n 0, 1) := by decide +kernel
theorem dX11_lay__65 : decode cX11_lay_ 65 = .ok (.iload_n 1, 1) := by decide +kernel
theorem dX11_lay__66 : decode cX11_lay_ 66 = .ok (.iload_n 2, 1) := by decide +kernel
theorem dX11_lay__67 : decode cX11_lay_ 67 = .ok (.aload_n 0, 1) := by decide +kernel
theorem dX11_lay__68 : decode cX11_lay_ 68 = .ok (.getfield 10, 3) := by decide +kernel
theorem dX11_lay__71 : decode cX11_lay_ 71 = .ok (.iload_n 3, 1) := by decide +kernel
theorem dX11_lay__72 : decode cX11_lay_ 72 = .ok (.invokevirtual 87, 3) := by decide +kernel
theorem dX11_lay__75 : decode cX11_lay_ 75 = .ok (.checkcast 55, 3) := by decide +kernel
theorem dX11_lay__78 : decode cX11_lay_ 78 = .ok (.iload 4, 2) := by decide +kernel
theorem dX11_lay__80 : decode cX11_lay_ 80 = .ok (.invokevirtual 277, 3) := by decide +kernel
theorem dX11_lay__83 : decode cX11_lay_ 83 = .ok (.goto 4, 3) := by decide +kernel
theorem dX11_lay__86 : decode cX11_lay_ 86 = .ok (.dconst 0, 1) := by decide +kernel
theorem dX11_lay__87 : decode cX11_lay_ 87 = .ok (.dreturn, 1) := by decide +kernel
theorem dX11_bestNow_0 : decode cX11_bestNow 0 = .ok (.iconst (-1), 1) := by decide +kernel
theorem dX11_bestNow_1 : decode cX11_bestNow 1 = .ok (.istore_n 2, 1) := by decide +kernel
theorem dX11_bestNow_2 : decode cX11_bestNow 2 = .ok (.dconst 0, 1) := by decide +kernel
theorem dX11_bestNow_3 : decode cX11_bestNow 3 = .ok (.dstore_n 3, 1) := by decide +kernel
theorem dX11_bestNow_4 : decode cX11_bestNow 4 = .ok (.iconst 0, 1) := by decide +kernel
theorem dX11_bestNow_5 : decode cX11_bestNow 5 = .ok (.istore 5, 2) := by decide +kernel
theorem dX11_bestNow_7 : decode cX11_bestNow 7 = .ok (.iload 5, 2) := by decide +kernel
theorem dX11_bestNow_9 : decode cX11_bestNow 9 = .ok (.aload_n 0, 1) := by decide +kernel
theorem dX11_bestNow_10 : decode cX11_bestNow 10 = .ok (.getfield 10, 3) := by decide +kernel
theorem dX11_bestNow_13 : decode cX11_bestNow 13 = .ok (.invokevirtual 51, 3) := by decide +kernel
theorem dX11_bestNow_16 : decode cX11_bestNow 16 = .ok (.if_icmp .ge 87, 3) := by decide +kernel
theorem dX11_bestNow_19 : decode cX11_bestNow 19 = .ok (.aload_n 0, 1) := by decide +kernel
theorem dX11_bestNow_20 : decode cX11_bestNow 20 = .ok (.getfield 10, 3) := by decide +kernel
theorem dX11_bestNow_23 : decode cX11_bestNow 23 = .ok (.iload 5, 2) := by decide +kernel
theorem dX11_bestNow_25 : decode cX11_bestNow 25 = .ok (.invokevirtual 87, 3) := by decide +kernel
theorem dX11_bestNow_28 : decode cX11_bestNow 28 = .ok (.checkcast 55, 3) := by decide +kernel
theorem dX11_bestNow_31 : decode cX11_bestNow 31 = .ok (.astore 6, 2) := by decide +kernel
theorem dX11_bestNow_33 : decode cX11_bestNow 33 = .ok (.aload_n 0, 1) := by decide +kernel
theorem dX11_bestNow_34 : decode cX11_bestNow 34 = .ok (.iload_n 1, 1) := by decide +kernel
theorem dX11_bestNow_35 : decode cX11_bestNow 35 = .ok (.iconst (-1), 1) := by decide +kernel
theorem dX11_bestNow_36 : decode cX11_bestNow 36 = .ok (.aload 6, 2) := by decide +kernel
theorem dX11_bestNow_38 : decode cX11_bestNow 38 = .ok (.iconst 0, 1) := by decide +kernel
theorem dX11_bestNow_39 : decode cX11_bestNow 39 = .ok (.invokevirtual 277, 3) := by decide +kernel
theorem dX11_bestNow_42 : decode cX11_bestNow 42 = .ok (.dstore 7, 2) := by decide +kernel
theorem dX11_bestNow_44 : decode cX11_bestNow 44 = .ok (.dload 7, 2) := by decide +kernel
theorem dX11_bestNow_46 : decode cX11_bestNow 46 = .ok (.dconst 0, 1) := by decide +kernel
theorem dX11_bestNow_47 : decode cX11_bestNow 47 = .ok (.dcmp .g, 1) := by decide +kernel
theorem dX11_bestNow_48 : decode cX11_bestNow 48 = .ok (.ifCond .lt 49, 3) := by decide +kernel
theorem dX11_bestNow_51 : decode cX11_bestNow 51 = .ok (.aload 6, 2) := by decide +kernel
theorem dX11_bestNow_53 : decode cX11_bestNow 53 = .ok (.getfield 61, 3) := by decide +kernel
theorem dX11_bestNow_56 : decode cX11_bestNow 56 = .ok (.dload 7, 2) := by decide +kernel
theorem dX11_bestNow_58 : decode cX11_bestNow 58 = .ok (.dcmp .g, 1) := by decide +kernel
theorem dX11_bestNow_59 : decode cX11_bestNow 59 = .ok (.ifCond .lt 38, 3) := by decide +kernel
theorem dX11_bestNow_62 : decode cX11_bestNow 62 = .ok (.iload_n 2, 1) := by decide +kernel
theorem dX11_bestNow_63 : decode cX11_bestNow 63 = .ok (.iconst (-1), 1) := by decide +kernel
theorem dX11_bestNow_64 : decode cX11_bestNow 64 = .ok (.if_icmp .eq 20, 3) := by decide +kernel
theorem dX11_bestNow_67 : decode cX11_bestNow 67 = .ok (.aload 6, 2) := by decide +kernel
theorem dX11_bestNow_69 : decode cX11_bestNow 69 = .ok (.getfield 76, 3) := by decide +kernel
theorem dX11_bestNow_72 : decode cX11_bestNow 72 = .ok (.i2d, 1) := by decide +kernel
theorem dX11_bestNow_73 : decode cX11_bestNow 73 = .ok (.dload 7, 2) := by decide +kernel
theorem dX11_bestNow_75 : decode cX11_bestNow 75 = .ok (.dmul, 1) := by decide +kernel
theorem dX11_bestNow_76 : decode cX11_bestNow 76 = .ok (.dload_n 3, 1) := by decide +kernel
theorem dX11_bestNow_77 : decode cX11_bestNow 77 = .ok (.dcmp .l, 1) := by decide +kernel
theorem dX11_bestNow_78 : decode cX11_bestNow 78 = .ok (.ifCond .lt 6, 3) := by decide +kernel
theorem dX11_bestNow_81 : decode cX11_bestNow 81 = .ok (.goto 16, 3) := by decide +kernel
theorem dX11_bestNow_84 : decode cX11_bestNow 84 = .ok (.iload 5, 2) := by decide +kernel
theorem dX11_bestNow_86 : decode cX11_bestNow 86 = .ok (.istore_n 2, 1) := by decide +kernel
theorem dX11_bestNow_87 : decode cX11_bestNow 87 = .ok (.aload 6, 2) := by decide +kernel
theorem dX11_bestNow_89 : decode cX11_bestNow 89 = .ok (.getfield 76, 3) := by decide +kernel
theorem dX11_bestNow_92 : decode cX11_bestNow 92 = .ok (.i2d, 1) := by decide +kernel
theorem dX11_bestNow_93 : decode cX11_bestNow 93 = .ok (.dload 7, 2) := by decide +kernel
theorem dX11_bestNow_95 : decode cX11_bestNow 95 = .ok (.dmul, 1) := by decide +kernel
theorem dX11_bestNow_96 : decode cX11_bestNow 96 = .ok (.dstore_n 3, 1) := by decide +kernel
theorem dX11_bestNow_97 : decode cX11_bestNow 97 = .ok (.iinc 5 1, 3) := by decide +kernel
theorem dX11_bestNow_100 : decode cX11_bestNow 100 = .ok (.goto (-93), 3) := by decide +kernel
theorem dX11_bestNow_103 : decode cX11_bestNow 103 = .ok (.iload_n 2, 1) := by decide +kernel
theorem dX11_bestNow_104 : decode cX11_bestNow 104 = .ok (.ireturn, 1) := by decide +kernel
theorem dX11_best_0 : decode cX11_best 0 = .ok (.aload_n 0, 1) := by decide +kernel
theorem dX11_best_1 : decode cX11_best 1 = .ok (.iconst 0, 1) := by decide +kernel
theorem dX11_best_2 : decode cX11_best 2 = .ok (.putfield 33, 3) := by decide +kernel
theorem dX11_best_5 : decode cX11_best 5 = .ok (.aload_n 0, 1) := by decide +kernel
theorem dX11_best_6 : decode cX11_best 6 = .ok (.iload_n 1, 1) := by decide +kernel
theorem dX11_best_7 : decode cX11_best 7 = .ok (.invokevirtual 196, 3) := by decide +kernel
theorem dX11_best_10 : decode cX11_best 10 = .ok (.ifCond .eq 11, 3) := by decide +kernel
theorem dX11_best_13 : decode cX11_best 13 = .ok (.aload_n 0, 1) := by decide +kernel
theorem dX11_best_14 : decode cX11_best 14 = .ok (.iload_n 1, 1) := by decide +kernel
theorem dX11_best_15 : decode cX11_best 15 = .ok (.invokevirtual 281, 3) := by decide +kernel
theorem dX11_best_18 : decode cX11_best 18 = .ok (.goto 8, 3) := by decide +kernel
theorem dX11_best_21 : decode cX11_best 21 = .ok (.aload_n 0, 1) := by decide +kernel
theorem dX11_best_22 : decode cX11_best 22 = .ok (.iconst 1, 1) := by decide +kernel
theorem dX11_best_23 : decode cX11_best 23 = .ok (.invokevirtual 47, 3) := by decide +kernel
theorem dX11_best_26 : decode cX11_best 26 = .ok (.ireturn, 1) := by decide +kernel
theorem dX11_mate_0 : decode cX11_mate 0 = .ok (.aload_n 0, 1) := by decide +kernel
theorem dX11_mate_1 : decode cX11_mate 1 = .ok (.iconst 0, 1) := by decide +kernel
theorem dX11_mate_2 : decode cX11_mate 2 = .ok (.putfield 33, 3) := by decide +kernel
theorem dX11_mate_5 : decode cX11_mate 5 = .ok (.aload_n 0, 1) := by decide +kernel
theorem dX11_mate_6 : decode cX11_mate 6 = .ok (.iload_n 1, 1) := by decide +kernel
theorem dX11_mate_7 : decode cX11_mate 7 = .ok (.invokevirtual 196, 3) := by decide +kernel
theorem dX11_mate_10 : decode cX11_mate 10 = .ok (.ifCond .eq 11, 3) := by decide +kernel
theorem dX11_mate_13 : decode cX11_mate 13 = .ok (.aload_n 0, 1) := by decide +kernel
theorem dX11_mate_14 : decode cX11_mate 14 = .ok (.iload_n 2, 1) := by decide +kernel
theorem dX11_mate_15 : decode cX11_mate 15 = .ok (.invokevirtual 83, 3) := by decide +kernel
theorem dX11_mate_18 : decode cX11_mate 18 = .ok (.ifCond .ne 9, 3) := by decide +kernel
theorem dX11_mate_21 : decode cX11_mate 21 = .ok (.aload_n 0, 1) := by decide +kernel
theorem dX11_mate_22 : decode cX11_mate 22 = .ok (.iconst 1, 1) := by decide +kernel
theorem dX11_mate_23 : decode cX11_mate 23 = .ok (.invokevirtual 47, 3) := by decide +kernel
theorem dX11_mate_26 : decode cX11_mate 26 = .ok (.ireturn, 1) := by decide +kernel
theorem dX11_mate_27 : decode cX11_mate 27 = .ok (.aload_n 0, 1) := by decide +kernel
theorem dX11_mate_28 : decode cX11_mate 28 = .ok (.getfield 10, 3) := by decide +kernel
theorem dX11_mate_31 : decode cX11_mate 31 = .ok (.iload_n 2, 1) := by decide +kernel
theorem dX11_mate_32 : decode cX11_mate 32 = .ok (.invokevirtual 87, 3) := by decide +kernel
theorem dX11_mate_35 : decode cX11_mate 35 = .ok (.checkcast 55, 3) := by decide +kernel
theorem dX11_mate_38 : decode cX11_mate 38 = .ok (.astore_n 3, 1) := by decide +kernel
theorem dX11_mate_39 : decode cX11_mate 39 = .ok (.aload_n 0, 1) := by decide +kernel
theorem dX11_mate_40 : decode cX11_mate 40 = .ok (.iload_n 1, 1) := by decide +kernel
theorem dX11_mate_41 : decode cX11_mate 41 = .ok (.iconst (-1), 1) := by decide +kernel
theorem dX11_mate_42 : decode cX11_mate 42 = .ok (.aload_n 3, 1) := by decide +kernel
theorem dX11_mate_43 : decode cX11_mate 43 = .ok (.iconst 0, 1) := by decide +kernel
theorem dX11_mate_44 : decode cX11_mate 44 = .ok (.invokevirtual 277, 3) := by decide +kernel
theorem dX11_mate_47 : decode cX11_mate 47 = .ok (.dstore 4, 2) := by decide +kernel
theorem dX11_mate_49 : decode cX11_mate 49 = .ok (.iconst (-1), 1) := by decide +kernel
theorem dX11_mate_50 : decode cX11_mate 50 = .ok (.istore 6, 2) := by decide +kernel
theorem dX11_mate_52 : decode cX11_mate 52 = .ok (.dconst 0, 1) := by decide +kernel
theorem dX11_mate_53 : decode cX11_mate 53 = .ok (.dstore 7, 2) := by decide +kernel
theorem dX11_mate_55 : decode cX11_mate 55 = .ok (.iconst 0, 1) := by decide +kernel
theorem dX11_mate_56 : decode cX11_mate 56 = .ok (.istore 9, 2) := by decide +kernel
theorem dX11_mate_58 : decode cX11_mate 58 = .ok (.iload 9, 2) := by decide +kernel
theorem dX11_mate_60 : decode cX11_mate 60 = .ok (.aload_n 0, 1) := by decide +kernel
theorem dX11_mate_61 : decode cX11_mate 61 = .ok (.getfield 22, 3) := by decide +kernel
theorem dX11_mate_64 : decode cX11_mate 64 = .ok (.invokevirtual 51, 3) := by decide +kernel
theorem dX11_mate_67 : decode cX11_mate 67 = .ok (.if_icmp .ge 102, 3) := by decide +kernel
theorem dX11_mate_70 : decode cX11_mate 70 = .ok (.iload 9, 2) := by decide +kernel
theorem dX11_mate_72 : decode cX11_mate 72 = .ok (.iload_n 1, 1) := by decide +kernel
theorem dX11_mate_73 : decode cX11_mate 73 = .ok (.if_icmp .eq 90, 3) := by decide +kernel
theorem dX11_mate_76 : decode cX11_mate 76 = .ok (.aload_n 0, 1) := by decide +kernel
theorem dX11_mate_77 : decode cX11_mate 77 = .ok (.iload 9, 2) := by decide +kernel
theorem dX11_mate_79 : decode cX11_mate 79 = .ok (.iconst 0, 1) := by decide +kernel
theorem dX11_mate_80 : decode cX11_mate 80 = .ok (.invokevirtual 202, 3) := by decide +kernel
theorem dX11_mate_83 : decode cX11_mate 83 = .ok (.ifCond .ne 6, 3) := by decide +kernel
theorem dX11_mate_86 : decode cX11_mate 86 = .ok (.goto 77, 3) := by decide +kernel
theorem dX11_mate_89 : decode cX11_mate 89 = .ok (.aload_n 0, 1) := by decide +kernel
theorem dX11_mate_90 : decode cX11_mate 90 = .ok (.iload 9, 2) := by decide +kernel
theorem dX11_mate_92 : decode cX11_mate 92 = .ok (.iconst (-1), 1) := by decide +kernel
theorem dX11_mate_93 : decode cX11_mate 93 = .ok (.aload_n 3, 1) := by decide +kernel
theorem dX11_mate_94 : decode cX11_mate 94 = .ok (.iconst 0, 1) := by decide +kernel
theorem dX11_mate_95 : decode cX11_mate 95 = .ok (.invokevirtual 277, 3) := by decide +kernel
theorem dX11_mate_98 : decode cX11_mate 98 = .ok (.dstore 10, 2) := by decide +kernel
theorem dX11_mate_100 : decode cX11_mate 100 = .ok (.aload_n 0, 1) := by decide +kernel
theorem dX11_mate_101 : decode cX11_mate 101 = .ok (.iload_n 1, 1) := by decide +kernel
theorem dX11_mate_102 : decode cX11_mate 102 = .ok (.iload 9, 2) := by decide +kernel
theorem dX11_mate_104 : decode cX11_mate 104 = .ok (.aload_n 3, 1) := by decide +kernel
theorem dX11_mate_105 : decode cX11_mate 105 = .ok (.iconst 0, 1) := by decide +kernel
theorem dX11_mate_106 : decode cX11_mate 106 = .ok (.invokevirtual 277, 3) := by decide +kernel
theorem dX11_mate_109 : decode cX11_mate 109 = .ok (.dstore 12, 2) := by decide +kernel
theorem dX11_mate_111 : decode cX11_mate 111 = .ok (.dload 4, 2) := by decide +kernel
theorem dX11_mate_113 : decode cX11_mate 113 = .ok (.dconst 0, 1) := by decide +kernel
theorem dX11_mate_114 : decode cX11_mate 114 = .ok (.dcmp .g, 1) := by decide +kernel
theorem dX11_mate_115 : decode cX11_mate 115 = .ok (.ifCond .lt 48, 3) := by decide +kernel
theorem dX11_mate_118 : decode cX11_mate 118 = .ok (.dload 10, 2) := by decide +kernel
theorem dX11_mate_120 : decode cX11_mate 120 = .ok (.dconst 0, 1) := by decide +kernel
theorem dX11_mate_121 : decode cX11_mate 121 = .ok (.dcmp .g, 1) := by decide +kernel
theorem dX11_mate_122 : decode cX11_mate 122 = .ok (.ifCond .lt 41, 3) := by decide +kernel
theorem dX11_mate_125 : decode cX11_mate 125 = .ok (.dload 12, 2) := by decide +kernel
theorem dX11_mate_127 : decode cX11_mate 127 = .ok (.dconst 0, 1) := by decide +kernel
theorem dX11_mate_128 : decode cX11_mate 128 = .ok (.dcmp .g, 1) := by decide +kernel
theorem dX11_mate_129 : decode cX11_mate 129 = .ok (.ifCond .lt 34, 3) := by decide +kernel
theorem dX11_mate_132 : decode cX11_mate 132 = .ok (.dload 4, 2) := by decide +kernel
theorem dX11_mate_134 : decode cX11_mate 134 = .ok (.dload 10, 2) := by decide +kernel
theorem dX11_mate_136 : decode cX11_mate 136 = .ok (.dadd, 1) := by decide +kernel
theorem dX11_mate_137 : decode cX11_mate 137 = .ok (.dload 12, 2) := by decide +kernel
theorem dX11_mate_139 : decode cX11_mate 139 = .ok (.dsub, 1) := by decide +kernel
theorem dX11_mate_140 : decode cX11_mate 140 = .ok (.dload 7, 2) := by decide +kernel
theorem dX11_mate_142 : decode cX11_mate 142 = .ok (.dcmp .g, 1) := by decide +kernel
theorem dX11_mate_143 : decode cX11_mate 143 = .ok (.ifCond .gt 6, 3) := by decide +kernel
theorem dX11_mate_146 : decode cX11_mate 146 = .ok (.goto 17, 3) := by decide +kernel
theorem dX11_mate_149 : decode cX11_mate 149 = .ok (.iload 9, 2) := by decide +kernel
theorem dX11_mate_151 : decode cX11_mate 151 = .ok (.istore 6, 2) := by decide +kernel
theorem dX11_mate_153 : decode cX11_mate 153 = .ok (.dload 4, 2) := by decide +kernel
theorem dX11_mate_155 : decode cX11_mate 155 = .ok (.dload 10, 2) := by decide +kernel
theorem dX11_mate_157 : decode cX11_mate 157 = .ok (.dadd, 1) := by decide +kernel
theorem dX11_mate_158 : decode cX11_mate 158 = .ok (.dload 12, 2) := by decide +kernel
theorem dX11_mate_160 : decode cX11_mate 160 = .ok (.dsub, 1) := by decide +kernel
theorem dX11_mate_161 : decode cX11_mate 161 = .ok (.dstore 7, 2) := by decide +kernel
theorem dX11_mate_163 : decode cX11_mate 163 = .ok (.iinc 9 1, 3) := by decide +kernel
theorem dX11_mate_166 : decode cX11_mate 166 = .ok (.goto (-108), 3) := by decide +kernel
theorem dX11_mate_169 : decode cX11_mate 169 = .ok (.iload 6, 2) := by decide +kernel
theorem dX11_mate_171 : decode cX11_mate 171 = .ok (.ireturn, 1) := by decide +kernel
theorem dX11_soonestNow_0 : decode cX11_soonestNow 0 = .ok (.iconst (-1), 1) := by decide +kernel
theorem dX11_soonestNow_1 : decode cX11_soonestNow 1 = .ok (.istore_n 2, 1) := by decide +kernel
theorem dX11_soonestNow_2 : decode cX11_soonestNow 2 = .ok (.iconst 0, 1) := by decide +kernel
theorem dX11_soonestNow_3 : decode cX11_soonestNow 3 = .ok (.istore_n 3, 1) := by decide +kernel
theorem dX11_soonestNow_4 : decode cX11_soonestNow 4 = .ok (.iload_n 3, 1) := by decide +kernel
theorem dX11_soonestNow_5 : decode cX11_soonestNow 5 = .ok (.aload_n 0, 1) := by decide +kernel
theorem dX11_soonestNow_6 : decode cX11_soonestNow 6 = .ok (.getfield 125, 3) := by decide +kernel
theorem dX11_soonestNow_9 : decode cX11_soonestNow 9 = .ok (.if_icmp .ge 32, 3) := by decide +kernel
theorem dX11_soonestNow_12 : decode cX11_soonestNow 12 = .ok (.iload_n 2, 1) := by decide +kernel
theorem dX11_soonestNow_13 : decode cX11_soonestNow 13 = .ok (.iconst (-1), 1) := by decide +kernel
theorem dX11_soonestNow_14 : decode cX11_soonestNow 14 = .ok (.if_icmp .eq 19, 3) := by decide +kernel
theorem dX11_soonestNow_17 : decode cX11_soonestNow 17 = .ok (.aload_n 0, 1) := by decide +kernel
theorem dX11_soonestNow_18 : decode cX11_soonestNow 18 = .ok (.iload_n 1, 1) := by decide +kernel
theorem dX11_soonestNow_19 : decode cX11_soonestNow 19 = .ok (.iload_n 3, 1) := by decide +kernel
theorem dX11_soonestNow_20 : decode cX11_soonestNow 20 = .ok (.invokevirtual 235, 3) := by decide +kernel
theorem dX11_soonestNow_23 : decode cX11_soonestNow 23 = .ok (.aload_n 0, 1) := by decide +kernel
theorem dX11_soonestNow_24 : decode cX11_soonestNow 24 = .ok (.iload_n 1, 1) := by decide +kernel
theorem dX11_soonestNow_25 : decode cX11_soonestNow 25 = .ok (.iload_n 2, 1) := by decide +kernel
theorem dX11_soonestNow_26 : decode cX11_soonestNow 26 = .ok (.invokevirtual 235, 3) := by decide +kernel
theorem dX11_soonestNow_29 : decode cX11_soonestNow 29 = .ok (.dcmp .g, 1) := by decide +kernel
theorem dX11_soonestNow_30 : decode cX11_soonestNow 30 = .ok (.ifCond .ge 5, 3) := by decide +kernel
theorem dX11_soonestNow_33 : decode cX11_soonestNow 33 = .ok (.iload_n 3, 1) := by decide +kernel
theorem dX11_soonestNow_34 : decode cX11_soonestNow 34 = .ok (.istore_n 2, 1) := by decide +kernel
theorem dX11_soonestNow_35 : decode cX11_soonestNow 35 = .ok (.iinc 3 1, 3) := by decide +kernel
theorem dX11_soonestNow_38 : decode cX11_soonestNow 38 = .ok (.goto (-34), 3) := by decide +kernel
theorem dX11_soonestNow_41 : decode cX11_soonestNow 41 = .ok (.iload_n 2, 1) := by decide +kernel
theorem dX11_soonestNow_42 : decode cX11_soonestNow 42 = .ok (.ireturn, 1) := by decide +kernel
theorem dX11_soonest_0 : decode cX11_soonest 0 = .ok (.aload_n 0, 1) := by decide +kernel
theorem dX11_soonest_1 : decode cX11_soonest 1 = .ok (.iconst 0, 1) := by decide +kernel
theorem dX11_soonest_2 : decode cX11_soonest 2 = .ok (.putfield 33, 3) := by decide +kernel
theorem dX11_soonest_5 : decode cX11_soonest 5 = .ok (.aload_n 0, 1) := by decide +kernel
theorem dX11_soonest_6 : decode cX11_soonest 6 = .ok (.iload_n 1, 1) := by decide +kernel
theorem dX11_soonest_7 : decode cX11_soonest 7 = .ok (.invokevirtual 196, 3) := by decide +kernel
theorem dX11_soonest_10 : decode cX11_soonest 10 = .ok (.ifCond .eq 11, 3) := by decide +kernel
theorem dX11_soonest_13 : decode cX11_soonest 13 = .ok (.aload_n 0, 1) := by decide +kernel
theorem dX11_soonest_14 : decode cX11_soonest 14 = .ok (.iload_n 1, 1) := by decide +kernel
theorem dX11_soonest_15 : decode cX11_soonest 15 = .ok (.invokevirtual 284, 3) := by decide +kernel
theorem dX11_soonest_18 : decode cX11_soonest 18 = .ok (.goto 8, 3) := by decide +kernel
theorem dX11_soonest_21 : decode cX11_soonest 21 = .ok (.aload_n 0, 1) := by decide +kernel
theorem dX11_soonest_22 : decode cX11_soonest 22 = .ok (.iconst 1, 1) := by decide +kernel
theorem dX11_soonest_23 : decode cX11_soonest 23 = .ok (.invokevirtual 47, 3) := by decide +kernel
theorem dX11_soonest_26 : decode cX11_soonest 26 = .ok (.ireturn, 1) := by decide +kernel
theorem dX11_add_0 : decode cX11_add 0 = .ok (.aload_n 0, 1) := by decide +kernel
theorem dX11_add_1 : decode cX11_add 1 = .ok (.aload_n 0, 1) := by decide +kernel
theorem dX11_add_2 : decode cX11_add 2 = .ok (.getfield 287, 3) := by decide +kernel
theorem dX11_add_5 : decode cX11_add 5 = .ok (.ldc2_w 291, 3) := by decide +kernel
theorem dX11_add_8 : decode cX11_add 8 = .ok (.lmul, 1) := by decide +kernel
theorem dX11_add_9 : decode cX11_add 9 = .ok (.lload_n 1, 1) := by decide +kernel
theorem dX11_add_10 : decode cX11_add 10 = .ok (.ladd, 1) := by decide +kernel
theorem dX11_add_11 : decode cX11_add 11 = .ok (.putfield 287, 3) := by decide +kernel
theorem dX11_add_14 : decode cX11_add 14 = .ok (.return_, 1) := by decide +kernel
theorem dX11_addPoint_0 : decode cX11_addPoint 0 = .ok (.aload_n 0, 1) := by decide +kernel
theorem dX11_addPoint_1 : decode cX11_addPoint 1 = .ok (.ldc2_w 293, 3) := by decide +kernel
theorem dX11_addPoint_4 : decode cX11_addPoint 4 = .ok (.dload_n 1, 1) := by decide +kernel
theorem dX11_addPoint_5 : decode cX11_addPoint 5 = .ok (.dmul, 1) := by decide +kernel
theorem dX11_addPoint_6 : decode cX11_addPoint 6 = .ok (.d2l, 1) := by decide +kernel
theorem dX11_addPoint_7 : decode cX11_addPoint 7 = .ok (.invokevirtual 295, 3) := by decide +kernel
theorem dX11_addPoint_10 : decode cX11_addPoint 10 = .ok (.return_, 1) := by decide +kernel
theorem dX11_digest_0 : decode cX11_digest 0 = .ok (.aload_n 0, 1) := by decide +kernel
theorem dX11_digest_1 : decode cX11_digest 1 = .ok (.iconst 0, 1) := by decide +kernel
theorem dX11_digest_2 : decode cX11_digest 2 = .ok (.putfield 33, 3) := by decide +kernel
theorem dX11_digest_5 : decode cX11_digest 5 = .ok (.aload_n 0, 1) := by decide +kernel
theorem dX11_digest_6 : decode cX11_digest 6 = .ok (.ldc2_w 298, 3) := by decide +kernel
theorem dX11_digest_9 : decode cX11_digest 9 = .ok (.putfield 287, 3) := by decide +kernel
theorem dX11_digest_12 : decode cX11_digest 12 = .ok (.iconst 0, 1) := by decide +kernel
theorem dX11_digest_13 : decode cX11_digest 13 = .ok (.istore_n 1, 1) := by decide +kernel
theorem dX11_digest_14 : decode cX11_digest 14 = .ok (.iload_n 1, 1) := by decide +kernel
theorem dX11_digest_15 : decode cX11_digest 15 = .ok (.bipush 14, 2) := by decide +kernel
theorem dX11_digest_17 : decode cX11_digest 17 = .ok (.if_icmp .ge 19, 3) := by decide +kernel
theorem dX11_digest_20 : decode cX11_digest 20 = .ok (.aload_n 0, 1) := by decide +kernel
theorem dX11_digest_21 : decode cX11_digest 21 = .ok (.aload_n 0, 1) := by decide +kernel
theorem dX11_digest_22 : decode cX11_digest 22 = .ok (.iload_n 1, 1) := by decide +kernel
theorem dX11_digest_23 : decode cX11_digest 23 = .ok (.invokevirtual 272, 3) := by decide +kernel
theorem dX11_digest_26 : decode cX11_digest 26 = .ok (.i2l, 1) := by decide +kernel
theorem dX11_digest_27 : decode cX11_digest 27 = .ok (.invokevirtual 295, 3) := by decide +kernel
theorem dX11_digest_30 : decode cX11_digest 30 = .ok (.iinc 1 1, 3) := by decide +kernel
theorem dX11_digest_33 : decode cX11_digest 33 = .ok (.goto (-19), 3) := by decide +kernel
theorem dX11_digest_36 : decode cX11_digest 36 = .ok (.aload_n 0, 1) := by decide +kernel
theorem dX11_digest_37 : decode cX11_digest 37 = .ok (.getfield 10, 3) := by decide +kernel
theorem dX11_digest_40 : decode cX11_digest 40 = .ok (.invokevirtual 106, 3) := by decide +kernel
theorem dX11_digest_43 : decode cX11_digest 43 = .ok (.astore_n 1, 1) := by decide +kernel
theorem dX11_digest_44 : decode cX11_digest 44 = .ok (.aload_n 1, 1) := by decide +kernel
theorem dX11_digest_45 : decode cX11_digest 45 = .ok (.invokeinterface 110 1, 5) := by decide +kernel
theorem dX11_digest_50 : decode cX11_digest 50 = .ok (.ifCond .eq 39, 3) := by decide +kernel
theorem dX11_digest_53 : decode cX11_digest 53 = .ok (.aload_n 1, 1) := by decide +kernel
theorem dX11_digest_54 : decode cX11_digest 54 = .ok (.invokeinterface 116 1, 5) := by decide +kernel
theorem dX11_digest_59 : decode cX11_digest 59 = .ok (.checkcast 55, 3) := by decide +kernel
theorem dX11_digest_62 : decode cX11_digest 62 = .ok (.astore_n 2, 1) := by decide +kernel
theorem dX11_digest_63 : decode cX11_digest 63 = .ok (.iconst 0, 1) := by decide +kernel
theorem dX11_digest_64 : decode cX11_digest 64 = .ok (.istore_n 3, 1) := by decide +kernel
theorem dX11_digest_65 : decode cX11_digest 65 = .ok (.iload_n 3, 1) := by decide +kernel
theorem dX11_digest_66 : decode cX11_digest 66 = .ok (.iconst 3, 1) := by decide +kernel
theorem dX11_digest_67 : decode cX11_digest 67 = .ok (.if_icmp .ge 19, 3) := by decide +kernel
theorem dX11_digest_70 : decode cX11_digest 70 = .ok (.aload_n 0, 1) := by decide +kernel
theorem dX11_digest_71 : decode cX11_digest 71 = .ok (.aload_n 0, 1) := by decide +kernel
theorem dX11_digest_72 : decode cX11_digest 72 = .ok (.aload_n 2, 1) := by decide +kernel
theorem dX11_digest_73 : decode cX11_digest 73 = .ok (.iload_n 3, 1) := by decide +kernel
theorem dX11_digest_74 : decode cX11_digest 74 = .ok (.invokevirtual 264, 3) := by decide +kernel
theorem dX11_digest_77 : decode cX11_digest 77 = .ok (.invokevirtual 300, 3) := by decide +kernel
theorem dX11_digest_80 : decode cX11_digest 80 = .ok (.iinc 3 1, 3) := by decide +kernel
theorem dX11_digest_83 : decode cX11_digest 83 = .ok (.goto (-18), 3) := by decide +kernel
theorem dX11_digest_86 : decode cX11_digest 86 = .ok (.goto (-42), 3) := by decide +kernel
theorem dX11_digest_89 : decode cX11_digest 89 = .ok (.iconst 0, 1) := by decide +kernel
theorem dX11_digest_90 : decode cX11_digest 90 = .ok (.istore_n 1, 1) := by decide +kernel
theorem dX11_digest_91 : decode cX11_digest 91 = .ok (.iload_n 1, 1) := by decide +kernel
theorem dX11_digest_92 : decode cX11_digest 92 = .ok (.aload_n 0, 1) := by decide +kernel
theorem dX11_digest_93 : decode cX11_digest 93 = .ok (.getfield 22, 3) := by decide +kernel
theorem dX11_digest_96 : decode cX11_digest 96 = .ok (.invokevirtual 51, 3) := by decide +kernel
theorem dX11_digest_99 : decode cX11_digest 99 = .ok (.if_icmp .ge 144, 3) := by decide +kernel
theorem dX11_digest_102 : decode cX11_digest 102 = .ok (.iconst 0, 1) := by decide +kernel
theorem dX11_digest_103 : decode cX11_digest 103 = .ok (.istore_n 2, 1) := by decide +kernel
theorem dX11_digest_104 : decode cX11_digest 104 = .ok (.iload_n 2, 1) := by decide +kernel
theorem dX11_digest_105 : decode cX11_digest 105 = .ok (.bipush 8, 2) := by decide +kernel
theorem dX11_digest_107 : decode cX11_digest 107 = .ok (.if_icmp .ge 30, 3) := by decide +kernel
theorem dX11_digest_110 : decode cX11_digest 110 = .ok (.aload_n 0, 1) := by decide +kernel
theorem dX11_digest_111 : decode cX11_digest 111 = .ok (.aload_n 0, 1) := by decide +kernel
theorem dX11_digest_112 : decode cX11_digest 112 = .ok (.aload_n 0, 1) := by decide +kernel
theorem dX11_digest_113 : decode cX11_digest 113 = .ok (.getfield 22, 3) := by decide +kernel
theorem dX11_digest_116 : decode cX11_digest 116 = .ok (.iload_n 1, 1) := by decide +kernel
theorem dX11_digest_117 : decode cX11_digest 117 = .ok (.invokevirtual 87, 3) := by decide +kernel
theorem dX11_digest_120 : decode cX11_digest 120 = .ok (.checkcast 120, 3) := by decide +kernel
theorem dX11_digest_123 : decode cX11_digest 123 = .ok (.iload_n 2, 1) := by decide +kernel
theorem dX11_digest_124 : decode cX11_digest 124 = .ok (.invokevirtual 268, 3) := by decide +kernel
theorem dX11_digest_127 : decode cX11_digest 127 = .ok (.i2l, 1) := by decide +kernel
theorem dX11_digest_128 : decode cX11_digest 128 = .ok (.invokevirtual 295, 3) := by decide +kernel
theorem dX11_digest_131 : decode cX11_digest 131 = .ok (.iinc 2 1, 3) := by decide +kernel
theorem dX11_digest_134 : decode cX11_digest 134 = .ok (.goto (-30), 3) := by decide +kernel
theorem dX11_digest_137 : decode cX11_digest 137 = .ok (.aload_n 0, 1) := by decide +kernel
theorem dX11_digest_138 : decode cX11_digest 138 = .ok (.aload_n 0, 1) := by decide +kernel
theorem dX11_digest_139 : decode cX11_digest 139 = .ok (.iload_n 1, 1) := by decide +kernel
theorem dX11_digest_140 : decode cX11_digest 140 = .ok (.iconst 1, 1) := by decide +kernel
theorem dX11_digest_141 : decode cX11_digest 141 = .ok (.invokevirtual 247, 3) := by decide +kernel
theorem dX11_digest_144 : decode cX11_digest 144 = .ok (.invokevirtual 300, 3) := by decide +kernel
theorem dX11_digest_147 : decode cX11_digest 147 = .ok (.aload_n 0, 1) := by decide +kernel
theorem dX11_digest_148 : decode cX11_digest 148 = .ok (.aload_n 0, 1) := by decide +kernel
theorem dX11_digest_149 : decode cX11_digest 149 = .ok (.iload_n 1, 1) := by decide +kernel
theorem dX11_digest_150 : decode cX11_digest 150 = .ok (.iconst 0, 1) := by decide +kernel
theorem dX11_digest_151 : decode cX11_digest 151 = .ok (.invokevirtual 247, 3) := by decide +kernel
theorem dX11_digest_154 : decode cX11_digest 154 = .ok (.invokevirtual 300, 3) := by decide +kernel
theorem dX11_digest_157 : decode cX11_digest 157 = .ok (.aload_n 0, 1) := by decide +kernel
theorem dX11_digest_158 : decode cX11_digest 158 = .ok (.aload_n 0, 1) := by decide +kernel
theorem dX11_digest_159 : decode cX11_digest 159 = .ok (.getfield 22, 3) := by decide +kernel
theorem dX11_digest_162 : decode cX11_digest 162 = .ok (.iload_n 1, 1) := by decide +kernel
theorem dX11_digest_163 : decode cX11_digest 163 = .ok (.invokevirtual 87, 3) := by decide +kernel
theorem dX11_digest_166 : decode cX11_digest 166 = .ok (.checkcast 120, 3) := by decide +kernel
theorem dX11_digest_169 : decode cX11_digest 169 = .ok (.getfield 238, 3) := by decide +kernel
theorem dX11_digest_172 : decode cX11_digest 172 = .ok (.invokevirtual 300, 3) := by decide +kernel
theorem dX11_digest_175 : decode cX11_digest 175 = .ok (.aload_n 0, 1) := by decide +kernel
theorem dX11_digest_176 : decode cX11_digest 176 = .ok (.aload_n 0, 1) := by decide +kernel
theorem dX11_digest_177 : decode cX11_digest 177 = .ok (.iload_n 1, 1) := by decide +kernel
theorem dX11_digest_178 : decode cX11_digest 178 = .ok (.invokevirtual 281, 3) := by decide +kernel
theorem dX11_digest_181 : decode cX11_digest 181 = .ok (.i2l, 1) := by decide +kernel
theorem dX11_digest_182 : decode cX11_digest 182 = .ok (.invokevirtual 295, 3) := by decide +kernel
theorem dX11_digest_185 : decode cX11_digest 185 = .ok (.aload_n 0, 1) := by decide +kernel
theorem dX11_digest_186 : decode cX11_digest 186 = .ok (.aload_n 0, 1) := by decide +kernel
theorem dX11_digest_187 : decode cX11_digest 187 = .ok (.iload_n 1, 1) := by decide +kernel
theorem dX11_digest_188 : decode cX11_digest 188 = .ok (.invokevirtual 284, 3) := by decide +kernel
theorem dX11_digest_191 : decode cX11_digest 191 = .ok (.i2l, 1) := by decide +kernel
theorem dX11_digest_192 : decode cX11_digest 192 = .ok (.invokevirtual 295, 3) := by decide +kernel
theorem dX11_digest_195 : decode cX11_digest 195 = .ok (.aload_n 0, 1) := by decide +kernel
theorem dX11_digest_196 : decode cX11_digest 196 = .ok (.getfield 10, 3) := by decide +kernel
theorem dX11_digest_199 : decode cX11_digest 199 = .ok (.invokevirtual 106, 3) := by decide +kernel
theorem dX11_digest_202 : decode cX11_digest 202 = .ok (.astore_n 2, 1) := by decide +kernel
theorem dX11_digest_203 : decode cX11_digest 203 = .ok (.aload_n 2, 1) := by decide +kernel
theorem dX11_digest_204 : decode cX11_digest 204 = .ok (.invokeinterface 110 1, 5) := by decide +kernel
theorem dX11_digest_209 : decode cX11_digest 209 = .ok (.ifCond .eq 28, 3) := by decide +kernel
theorem dX11_digest_212 : decode cX11_digest 212 = .ok (.aload_n 2, 1) := by decide +kernel
theorem dX11_digest_213 : decode cX11_digest 213 = .ok (.invokeinterface 116 1, 5) := by decide +kernel
theorem dX11_digest_218 : decode cX11_digest 218 = .ok (.checkcast 55, 3) := by decide +kernel
theorem dX11_digest_221 : decode cX11_digest 221 = .ok (.astore_n 3, 1) := by decide +kernel
theorem dX11_digest_222 : decode cX11_digest 222 = .ok (.aload_n 0, 1) := by decide +kernel
theorem dX11_digest_223 : decode cX11_digest 223 = .ok (.aload_n 0, 1) := by decide +kernel
theorem dX11_digest_224 : decode cX11_digest 224 = .ok (.iload_n 1, 1) := by decide +kernel
theorem dX11_digest_225 : decode cX11_digest 225 = .ok (.iconst (-1), 1) := by decide +kernel
theorem dX11_digest_226 : decode cX11_digest 226 = .ok (.aload_n 3, 1) := by decide +kernel
theorem dX11_digest_227 : decode cX11_digest 227 = .ok (.iconst 0, 1) := by decide +kernel
theorem dX11_digest_228 : decode cX11_digest 228 = .ok (.invokevirtual 277, 3) := by decide +kernel
theorem dX11_digest_231 : decode cX11_digest 231 = .ok (.invokevirtual 300, 3) := by decide +kernel
theorem dX11_digest_234 : decode cX11_digest 234 = .ok (.goto (-31), 3) := by decide +kernel
theorem dX11_digest_237 : decode cX11_digest 237 = .ok (.iinc 1 1, 3) := by decide +kernel
theorem dX11_digest_240 : decode cX11_digest 240 = .ok (.goto (-149), 3) := by decide +kernel
theorem dX11_digest_243 : decode cX11_digest 243 = .ok (.iconst 0, 1) := by decide +kernel
theorem dX11_digest_244 : decode cX11_digest 244 = .ok (.istore_n 1, 1) := by decide +kernel
theorem dX11_digest_245 : decode cX11_digest 245 = .ok (.iload_n 1, 1) := by decide +kernel
theorem dX11_digest_246 : decode cX11_digest 246 = .ok (.aload_n 0, 1) := by decide +kernel
theorem dX11_digest_247 : decode cX11_digest 247 = .ok (.getfield 125, 3) := by decide +kernel
theorem dX11_digest_250 : decode cX11_digest 250 = .ok (.if_icmp .ge 19, 3) := by decide +kernel
theorem dX11_digest_253 : decode cX11_digest 253 = .ok (.aload_n 0, 1) := by decide +kernel
theorem dX11_digest_254 : decode cX11_digest 254 = .ok (.aload_n 0, 1) := by decide +kernel
theorem dX11_digest_255 : decode cX11_digest 255 = .ok (.getfield 25, 3) := by decide +kernel
theorem dX11_digest_258 : decode cX11_digest 258 = .ok (.iload_n 1, 1) := by decide +kernel
theorem dX11_digest_259 : decode cX11_digest 259 = .ok (.daload, 1) := by decide +kernel
theorem dX11_digest_260 : decode cX11_digest 260 = .ok (.invokevirtual 300, 3) := by decide +kernel
theorem dX11_digest_263 : decode cX11_digest 263 = .ok (.iinc 1 1, 3) := by decide +kernel
theorem dX11_digest_266 : decode cX11_digest 266 = .ok (.goto (-21), 3) := by decide +kernel
theorem dX11_digest_269 : decode cX11_digest 269 = .ok (.aload_n 0, 1) := by decide +kernel
theorem dX11_digest_270 : decode cX11_digest 270 = .ok (.aload_n 0, 1) := by decide +kernel
theorem dX11_digest_271 : decode cX11_digest 271 = .ok (.getfield 37, 3) := by decide +kernel
theorem dX11_digest_274 : decode cX11_digest 274 = .ok (.invokevirtual 300, 3) := by decide +kernel
theorem dX11_digest_277 : decode cX11_digest 277 = .ok (.aload_n 0, 1) := by decide +kernel
theorem dX11_digest_278 : decode cX11_digest 278 = .ok (.getfield 287, 3) := by decide +kernel
theorem dX11_digest_281 : decode cX11_digest 281 = .ok (.lreturn, 1) := by decide +kernel
theorem dJ9_ceil_294c1_0 : decode cJ9_ceil_294c1 0 = .ok (.dload_n 0, 1) := by decide +kernel
theorem dJ9_ceil_294c1_1 : decode cJ9_ceil_294c1 1 = .ok (.invokestatic 53, 3) := by decide +kernel
theorem dJ9_ceil_294c1_4 : decode cJ9_ceil_294c1 4 = .ok (.dreturn, 1) := by decide +kernel
theorem dJ9_max_7cf53_0 : decode cJ9_max_7cf53 0 = .ok (.iload_n 0, 1) := by decide +kernel
theorem dJ9_max_7cf53_1 : decode cJ9_max_7cf53 1 = .ok (.iload_n 1, 1) := by decide +kernel
theorem dJ9_max_7cf53_2 : decode cJ9_max_7cf53 2 = .ok (.if_icmp .lt 7, 3) := by decide +kernel
theorem dJ9_max_7cf53_5 : decode cJ9_max_7cf53 5 = .ok (.iload_n 0, 1) := by decide +kernel
theorem dJ9_max_7cf53_6 : decode cJ9_max_7cf53 6 = .ok (.goto 4, 3) := by decide +kernel
theorem dJ9_max_7cf53_9 : decode cJ9_max_7cf53 9 = .ok (.iload_n 1, 1) := by decide +kernel
theorem dJ9_max_7cf53_10 : decode cJ9_max_7cf53 10 = .ok (.ireturn, 1) := by decide +kernel
theorem dJ9_max_eb370_0 : decode cJ9_max_eb370 0 = .ok (.dload_n 0, 1) := by decide +kernel
theorem dJ9_max_eb370_1 : decode cJ9_max_eb370 1 = .ok (.dload_n 0, 1) := by decide +kernel
theorem dJ9_max_eb370_2 : decode cJ9_max_eb370 2 = .ok (.dcmp .l, 1) := by decide +kernel
theorem dJ9_max_eb370_3 : decode cJ9_max_eb370 3 = .ok (.ifCond .eq 5, 3) := by decide +kernel
theorem dJ9_max_eb370_6 : decode cJ9_max_eb370 6 = .ok (.dload_n 0, 1) := by decide +kernel
theorem dJ9_max_eb370_7 : decode cJ9_max_eb370 7 = .ok (.dreturn, 1) := by decide +kernel
theorem dJ9_max_eb370_8 : decode cJ9_max_eb370 8 = .ok (.dload_n 0, 1) := by decide +kernel
theorem dJ9_max_eb370_9 : decode cJ9_max_eb370 9 = .ok (.dconst 0, 1) := by decide +kernel
theorem dJ9_max_eb370_10 : decode cJ9_max_eb370 10 = .ok (.dcmp .l, 1) := by decide +kernel
theorem dJ9_max_eb370_11 : decode cJ9_max_eb370 11 = .ok (.ifCond .ne 22, 3) := by decide +kernel
theorem dJ9_max_eb370_14 : decode cJ9_max_eb370 14 = .ok (.dload_n 2, 1) := by decide +kernel
theorem dJ9_max_eb370_15 : decode cJ9_max_eb370 15 = .ok (.dconst 0, 1) := by decide +kernel
theorem dJ9_max_eb370_16 : decode cJ9_max_eb370 16 = .ok (.dcmp .l, 1) := by decide +kernel
theorem dJ9_max_eb370_17 : decode cJ9_max_eb370 17 = .ok (.ifCond .ne 16, 3) := by decide +kernel
theorem dJ9_max_eb370_20 : decode cJ9_max_eb370 20 = .ok (.dload_n 0, 1) := by decide +kernel
theorem dJ9_max_eb370_21 : decode cJ9_max_eb370 21 = .ok (.invokestatic 79, 3) := by decide +kernel
theorem dJ9_max_eb370_24 : decode cJ9_max_eb370 24 = .ok (.getstatic 174, 3) := by decide +kernel
theorem dJ9_max_eb370_27 : decode cJ9_max_eb370 27 = .ok (.lcmp, 1) := by decide +kernel
theorem dJ9_max_eb370_28 : decode cJ9_max_eb370 28 = .ok (.ifCond .ne 5, 3) := by decide +kernel
theorem dJ9_max_eb370_31 : decode cJ9_max_eb370 31 = .ok (.dload_n 2, 1) := by decide +kernel
theorem dJ9_max_eb370_32 : decode cJ9_max_eb370 32 = .ok (.dreturn, 1) := by decide +kernel
theorem dJ9_max_eb370_33 : decode cJ9_max_eb370 33 = .ok (.dload_n 0, 1) := by decide +kernel
theorem dJ9_max_eb370_34 : decode cJ9_max_eb370 34 = .ok (.dload_n 2, 1) := by decide +kernel
theorem dJ9_max_eb370_35 : decode cJ9_max_eb370 35 = .ok (.dcmp .l, 1) := by decide +kernel
theorem dJ9_max_eb370_36 : decode cJ9_max_eb370 36 = .ok (.ifCond .lt 7, 3) := by decide +kernel
theorem dJ9_max_eb370_39 : decode cJ9_max_eb370 39 = .ok (.dload_n 0, 1) := by decide +kernel
theorem dJ9_max_eb370_40 : decode cJ9_max_eb370 40 = .ok (.goto 4, 3) := by decide +kernel
theorem dJ9_max_eb370_43 : decode cJ9_max_eb370 43 = .ok (.dload_n 2, 1) := by decide +kernel
theorem dJ9_max_eb370_44 : decode cJ9_max_eb370 44 = .ok (.dreturn, 1) := by decide +kernel
theorem dJ9_min_7cf53_0 : decode cJ9_min_7cf53 0 = .ok (.iload_n 0, 1) := by decide +kernel
theorem dJ9_min_7cf53_1 : decode cJ9_min_7cf53 1 = .ok (.iload_n 1, 1) := by decide +kernel
theorem dJ9_min_7cf53_2 : decode cJ9_min_7cf53 2 = .ok (.if_icmp .gt 7, 3) := by decide +kernel
theorem dJ9_min_7cf53_5 : decode cJ9_min_7cf53 5 = .ok (.iload_n 0, 1) := by decide +kernel
theorem dJ9_min_7cf53_6 : decode cJ9_min_7cf53 6 = .ok (.goto 4, 3) := by decide +kernel
theorem dJ9_min_7cf53_9 : decode cJ9_min_7cf53 9 = .ok (.iload_n 1, 1) := by decide +kernel
theorem dJ9_min_7cf53_10 : decode cJ9_min_7cf53 10 = .ok (.ireturn, 1) := by decide +kernel
theorem dJ9_min_eb370_0 : decode cJ9_min_eb370 0 = .ok (.dload_n 0, 1) := by decide +kernel
theorem dJ9_min_eb370_1 : decode cJ9_min_eb370 1 = .ok (.dload_n 0, 1) := by decide +kernel
theorem dJ9_min_eb370_2 : decode cJ9_min_eb370 2 = .ok (.dcmp .l, 1) := by decide +kernel
theorem dJ9_min_eb370_3 : decode cJ9_min_eb370 3 = .ok (.ifCond .eq 5, 3) := by decide +kernel
theorem dJ9_min_eb370_6 : decode cJ9_min_eb370 6 = .ok (.dload_n 0, 1) := by decide +kernel
theorem dJ9_min_eb370_7 : decode cJ9_min_eb370 7 = .ok (.dreturn, 1) := by decide +kernel
theorem dJ9_min_eb370_8 : decode cJ9_min_eb370 8 = .ok (.dload_n 0, 1) := by decide +kernel
theorem dJ9_min_eb370_9 : decode cJ9_min_eb370 9 = .ok (.dconst 0, 1) := by decide +kernel
theorem dJ9_min_eb370_10 : decode cJ9_min_eb370 10 = .ok (.dcmp .l, 1) := by decide +kernel
theorem dJ9_min_eb370_11 : decode cJ9_min_eb370 11 = .ok (.ifCond .ne 22, 3) := by decide +kernel
theorem dJ9_min_eb370_14 : decode cJ9_min_eb370 14 = .ok (.dload_n 2, 1) := by decide +kernel
theorem dJ9_min_eb370_15 : decode cJ9_min_eb370 15 = .ok (.dconst 0, 1) := by decide +kernel
theorem dJ9_min_eb370_16 : decode cJ9_min_eb370 16 = .ok (.dcmp .l, 1) := by decide +kernel
theorem dJ9_min_eb370_17 : decode cJ9_min_eb370 17 = .ok (.ifCond .ne 16, 3) := by decide +kernel
theorem dJ9_min_eb370_20 : decode cJ9_min_eb370 20 = .ok (.dload_n 2, 1) := by decide +kernel
theorem dJ9_min_eb370_21 : decode cJ9_min_eb370 21 = .ok (.invokestatic 79, 3) := by decide +kernel
theorem dJ9_min_eb370_24 : decode cJ9_min_eb370 24 = .ok (.getstatic 174, 3) := by decide +kernel
theorem dJ9_min_eb370_27 : decode cJ9_min_eb370 27 = .ok (.lcmp, 1) := by decide +kernel
theorem dJ9_min_eb370_28 : decode cJ9_min_eb370 28 = .ok (.ifCond .ne 5, 3) := by decide +kernel
theorem dJ9_min_eb370_31 : decode cJ9_min_eb370 31 = .ok (.dload_n 2, 1) := by decide +kernel
theorem dJ9_min_eb370_32 : decode cJ9_min_eb370 32 = .ok (.dreturn, 1) := by decide +kernel
theorem dJ9_min_eb370_33 : decode cJ9_min_eb370 33 = .ok (.dload_n 0, 1) := by decide +kernel
theorem dJ9_min_eb370_34 : decode cJ9_min_eb370 34 = .ok (.dload_n 2, 1) := by decide +kernel
theorem dJ9_min_eb370_35 : decode cJ9_min_eb370 35 = .ok (.dcmp .g, 1) := by decide +kernel
theorem dJ9_min_eb370_36 : decode cJ9_min_eb370 36 = .ok (.ifCond .gt 7, 3) := by decide +kernel
theorem dJ9_min_eb370_39 : decode cJ9_min_eb370 39 = .ok (.dload_n 0, 1) := by decide +kernel
theorem dJ9_min_eb370_40 : decode cJ9_min_eb370 40 = .ok (.goto 4, 3) := by decide +kernel
theorem dJ9_min_eb370_43 : decode cJ9_min_eb370 43 = .ok (.dload_n 2, 1) := by decide +kernel
theorem dJ9_min_eb370_44 : decode cJ9_min_eb370 44 = .ok (.dreturn, 1) := by decide +kernel
theorem dJ9_getExponent_b4643_0 : decode cJ9_getExponent_b4643 0 = .ok (.dload_n 0, 1) := by decide +kernel
theorem dJ9_getExponent_b4643_1 : decode cJ9_getExponent_b4643 1 = .ok (.invokestatic 79, 3) := by decide +kernel
theorem dJ9_getExponent_b4643_4 : decode cJ9_getExponent_b4643 4 = .ok (.ldc2_w 87, 3) := by decide +kernel
theorem dJ9_getExponent_b4643_7 : decode cJ9_getExponent_b4643 7 = .ok (.land, 1) := by decide +kernel
theorem dJ9_getExponent_b4643_8 : decode cJ9_getExponent_b4643 8 = .ok (.bipush 52, 2) := by decide +kernel
theorem dJ9_getExponent_b4643_10 : decode cJ9_getExponent_b4643 10 = .ok (.lshr, 1) := by decide +kernel
theorem dJ9_getExponent_b4643_11 : decode cJ9_getExponent_b4643 11 = .ok (.ldc2_w 322, 3) := by decide +kernel
theorem dJ9_getExponent_b4643_14 : decode cJ9_getExponent_b4643 14 = .ok (.lsub, 1) := by decide +kernel
theorem dJ9_getExponent_b4643_15 : decode cJ9_getExponent_b4643 15 = .ok (.l2i, 1) := by decide +kernel
theorem dJ9_getExponent_b4643_16 : decode cJ9_getExponent_b4643 16 = .ok (.ireturn, 1) := by decide +kernel
theorem dJxfc994_ceil_294c1_0 : decode cJxfc994_ceil_294c1 0 = .ok (.dload_n 0, 1) := by decide +kernel
theorem dJxfc994_ceil_294c1_1 : decode cJxfc994_ceil_294c1 1 = .ok (.ldc2_w 58, 3) := by decide +kernel
theorem dJxfc994_ceil_294c1_4 : decode cJxfc994_ceil_294c1 4 = .ok (.dconst 1, 1) := by decide +kernel
theorem dJxfc994_ceil_294c1_5 : decode cJxfc994_ceil_294c1 5 = .ok (.dconst 1, 1) := by decide +kernel
theorem dJxfc994_ceil_294c1_6 : decode cJxfc994_ceil_294c1 6 = .ok (.invokestatic 60, 3) := by decide +kernel
theorem dJxfc994_ceil_294c1_9 : decode cJxfc994_ceil_294c1 9 = .ok (.dreturn, 1) := by decide +kernel
theorem dJxfc994_floorOrCeil_f4a47_0 : decode cJxfc994_floorOrCeil_f4a47 0 = .ok (.dload_n 0, 1) := by decide +kernel
theorem dJxfc994_floorOrCeil_f4a47_1 : decode cJxfc994_floorOrCeil_f4a47 1 = .ok (.invokestatic 66, 3) := by decide +kernel
theorem dJxfc994_floorOrCeil_f4a47_4 : decode cJxfc994_floorOrCeil_f4a47 4 = .ok (.istore 8, 2) := by decide +kernel
theorem dJxfc994_floorOrCeil_f4a47_6 : decode cJxfc994_floorOrCeil_f4a47 6 = .ok (.iload 8, 2) := by decide +kernel
theorem dJxfc994_floorOrCeil_f4a47_8 : decode cJxfc994_floorOrCeil_f4a47 8 = .ok (.ifCond .ge 26, 3) := by decide +kernel
theorem dJxfc994_floorOrCeil_f4a47_11 : decode cJxfc994_floorOrCeil_f4a47 11 = .ok (.dload_n 0, 1) := by decide +kernel
theorem dJxfc994_floorOrCeil_f4a47_12 : decode cJxfc994_floorOrCeil_f4a47 12 = .ok (.dconst 0, 1) := by decide +kernel
theorem dJxfc994_floorOrCeil_f4a47_13 : decode cJxfc994_floorOrCeil_f4a47 13 = .ok (.dcmp .l, 1) := by decide +kernel
theorem dJxfc994_floorOrCeil_f4a47_14 : decode cJxfc994_floorOrCeil_f4a47 14 = .ok (.ifCond .ne 7, 3) := by decide +kernel
theorem dJxfc994_floorOrCeil_f4a47_17 : decode cJxfc994_floorOrCeil_f4a47 17 = .ok (.dload_n 0, 1) := by decide +kernel
theorem dJxfc994_floorOrCeil_f4a47_18 : decode cJxfc994_floorOrCeil_f4a47 18 = .ok (.goto 15, 3) := by decide +kernel
theorem dJxfc994_floorOrCeil_f4a47_21 : decode cJxfc994_floorOrCeil_f4a47 21 = .ok (.dload_n 0, 1) := by decide +kernel
theorem dJxfc994_floorOrCeil_f4a47_22 : decode cJxfc994_floorOrCeil_f4a47 22 = .ok (.dconst 0, 1) := by decide +kernel
theorem dJxfc994_floorOrCeil_f4a47_23 : decode cJxfc994_floorOrCeil_f4a47 23 = .ok (.dcmp .g, 1) := by decide +kernel
theorem dJxfc994_floorOrCeil_f4a47_24 : decode cJxfc994_floorOrCeil_f4a47 24 = .ok (.ifCond .ge 7, 3) := by decide +kernel
theorem dJxfc994_floorOrCeil_f4a47_27 : decode cJxfc994_floorOrCeil_f4a47 27 = .ok (.dload_n 2, 1) := by decide +kernel
theorem dJxfc994_floorOrCeil_f4a47_28 : decode cJxfc994_floorOrCeil_f4a47 28 = .ok (.goto 5, 3) := by decide +kernel
theorem dJxfc994_floorOrCeil_f4a47_31 : decode cJxfc994_floorOrCeil_f4a47 31 = .ok (.dload 4, 2) := by decide +kernel
theorem dJxfc994_floorOrCeil_f4a47_33 : decode cJxfc994_floorOrCeil_f4a47 33 = .ok (.dreturn, 1) := by decide +kernel
theorem dJxfc994_floorOrCeil_f4a47_34 : decode cJxfc994_floorOrCeil_f4a47 34 = .ok (.iload 8, 2) := by decide +kernel
theorem dJxfc994_floorOrCeil_f4a47_36 : decode cJxfc994_floorOrCeil_f4a47 36 = .ok (.bipush 52, 2) := by decide +kernel
theorem dJxfc994_floorOrCeil_f4a47_38 : decode cJxfc994_floorOrCeil_f4a47 38 = .ok (.if_icmp .lt 5, 3) := by decide +kernel
theorem dJxfc994_floorOrCeil_f4a47_41 : decode cJxfc994_floorOrCeil_f4a47 41 = .ok (.dload_n 0, 1) := by decide +kernel
theorem dJxfc994_floorOrCeil_f4a47_42 : decode cJxfc994_floorOrCeil_f4a47 42 = .ok (.dreturn, 1) := by decide +kernel
theorem dJxfc994_floorOrCeil_f4a47_43 : decode cJxfc994_floorOrCeil_f4a47 43 = .ok (.getstatic 70, 3) := by decide +kernel
theorem dJxfc994_floorOrCeil_f4a47_46 : decode cJxfc994_floorOrCeil_f4a47 46 = .ok (.ifCond .ne 23, 3) := by decide +kernel
theorem dJxfc994_floorOrCeil_f4a47_49 : decode cJxfc994_floorOrCeil_f4a47 49 = .ok (.iload 8, 2) := by decide +kernel
theorem dJxfc994_floorOrCeil_f4a47_51 : decode cJxfc994_floorOrCeil_f4a47 51 = .ok (.ifCond .lt 10, 3) := by decide +kernel
theorem dJxfc994_floorOrCeil_f4a47_54 : decode cJxfc994_floorOrCeil_f4a47 54 = .ok (.iload 8, 2) := by decide +kernel
theorem dJxfc994_floorOrCeil_f4a47_56 : decode cJxfc994_floorOrCeil_f4a47 56 = .ok (.bipush 51, 2) := by decide +kernel
theorem dJxfc994_floorOrCeil_f4a47_58 : decode cJxfc994_floorOrCeil_f4a47 58 = .ok (.if_icmp .le 11, 3) := by decide +kernel
theorem dJxfc994_floorOrCeil_f4a47_61 : decode cJxfc994_floorOrCeil_f4a47 61 = .ok (.new 74, 3) := by decide +kernel
theorem dJxfc994_floorOrCeil_f4a47_64 : decode cJxfc994_floorOrCeil_f4a47 64 = .ok (.dup, 1) := by decide +kernel
theorem dJxfc994_floorOrCeil_f4a47_65 : decode cJxfc994_floorOrCeil_f4a47 65 = .ok (.invokespecial 76, 3) := by decide +kernel
theorem dJxfc994_floorOrCeil_f4a47_68 : decode cJxfc994_floorOrCeil_f4a47 68 = .ok (.athrow, 1) := by decide +kernel
theorem dJxfc994_floorOrCeil_f4a47_69 : decode cJxfc994_floorOrCeil_f4a47 69 = .ok (.dload_n 0, 1) := by decide +kernel
theorem dJxfc994_floorOrCeil_f4a47_70 : decode cJxfc994_floorOrCeil_f4a47 70 = .ok (.invokestatic 77, 3) := by decide +kernel
theorem dJxfc994_floorOrCeil_f4a47_73 : decode cJxfc994_floorOrCeil_f4a47 73 = .ok (.lstore 9, 2) := by decide +kernel
theorem dJxfc994_floorOrCeil_f4a47_75 : decode cJxfc994_floorOrCeil_f4a47 75 = .ok (.ldc2_w 85, 3) := by decide +kernel
theorem dJxfc994_floorOrCeil_f4a47_78 : decode cJxfc994_floorOrCeil_f4a47 78 = .ok (.iload 8, 2) := by decide +kernel
theorem dJxfc994_floorOrCeil_f4a47_80 : decode cJxfc994_floorOrCeil_f4a47 80 = .ok (.lshr, 1) := by decide +kernel
theorem dJxfc994_floorOrCeil_f4a47_81 : decode cJxfc994_floorOrCeil_f4a47 81 = .ok (.lstore 11, 2) := by decide +kernel
theorem dJxfc994_floorOrCeil_f4a47_83 : decode cJxfc994_floorOrCeil_f4a47 83 = .ok (.lload 11, 2) := by decide +kernel
theorem dJxfc994_floorOrCeil_f4a47_85 : decode cJxfc994_floorOrCeil_f4a47 85 = .ok (.lload 9, 2) := by decide +kernel
theorem dJxfc994_floorOrCeil_f4a47_87 : decode cJxfc994_floorOrCeil_f4a47 87 = .ok (.land, 1) := by decide +kernel
theorem dJxfc994_floorOrCeil_f4a47_88 : decode cJxfc994_floorOrCeil_f4a47 88 = .ok (.lconst 0, 1) := by decide +kernel
theorem dJxfc994_floorOrCeil_f4a47_89 : decode cJxfc994_floorOrCeil_f4a47 89 = .ok (.lcmp, 1) := by decide +kernel
theorem dJxfc994_floorOrCeil_f4a47_90 : decode cJxfc994_floorOrCeil_f4a47 90 = .ok (.ifCond .ne 5, 3) := by decide +kernel
theorem dJxfc994_floorOrCeil_f4a47_93 : decode cJxfc994_floorOrCeil_f4a47 93 = .ok (.dload_n 0, 1) := by decide +kernel
theorem dJxfc994_floorOrCeil_f4a47_94 : decode cJxfc994_floorOrCeil_f4a47 94 = .ok (.dreturn, 1) := by decide +kernel
theorem dJxfc994_floorOrCeil_f4a47_95 : decode cJxfc994_floorOrCeil_f4a47 95 = .ok (.lload 9, 2) := by decide +kernel
theorem dJxfc994_floorOrCeil_f4a47_97 : decode cJxfc994_floorOrCeil_f4a47 97 = .ok (.lload 11, 2) := by decide +kernel
theorem dJxfc994_floorOrCeil_f4a47_99 : decode cJxfc994_floorOrCeil_f4a47 99 = .ok (.ldc2_w 87, 3) := by decide +kernel
theorem dJxfc994_floorOrCeil_f4a47_102 : decode cJxfc994_floorOrCeil_f4a47 102 = .ok (.lxor, 1) := by decide +kernel
theorem dJxfc994_floorOrCeil_f4a47_103 : decode cJxfc994_floorOrCeil_f4a47 103 = .ok (.land, 1) := by decide +kernel
theorem dJxfc994_floorOrCeil_f4a47_104 : decode cJxfc994_floorOrCeil_f4a47 104 = .ok (.invokestatic 89, 3) := by decide +kernel
theorem dJxfc994_floorOrCeil_f4a47_107 : decode cJxfc994_floorOrCeil_f4a47 107 = .ok (.dstore 13, 2) := by decide +kernel
theorem dJxfc994_floorOrCeil_f4a47_109 : decode cJxfc994_floorOrCeil_f4a47 109 = .ok (.dload 6, 2) := by decide +kernel
theorem dJxfc994_floorOrCeil_f4a47_111 : decode cJxfc994_floorOrCeil_f4a47 111 = .ok (.dload_n 0, 1) := by decide +kernel
theorem dJxfc994_floorOrCeil_f4a47_112 : decode cJxfc994_floorOrCeil_f4a47 112 = .ok (.dmul, 1) := by decide +kernel
theorem dJxfc994_floorOrCeil_f4a47_113 : decode cJxfc994_floorOrCeil_f4a47 113 = .ok (.dconst 0, 1) := by decide +kernel
theorem dJxfc994_floorOrCeil_f4a47_114 : decode cJxfc994_floorOrCeil_f4a47 114 = .ok (.dcmp .l, 1) := by decide +kernel
theorem dJxfc994_floorOrCeil_f4a47_115 : decode cJxfc994_floorOrCeil_f4a47 115 = .ok (.ifCond .le 10, 3) := by decide +kernel
theorem dJxfc994_floorOrCeil_f4a47_118 : decode cJxfc994_floorOrCeil_f4a47 118 = .ok (.dload 13, 2) := by decide +kernel
theorem dJxfc994_floorOrCeil_f4a47_120 : decode cJxfc994_floorOrCeil_f4a47 120 = .ok (.dload 6, 2) := by decide +kernel
theorem dJxfc994_floorOrCeil_f4a47_122 : decode cJxfc994_floorOrCeil_f4a47 122 = .ok (.dadd, 1) := by decide +kernel
theorem dJxfc994_floorOrCeil_f4a47_123 : decode cJxfc994_floorOrCeil_f4a47 123 = .ok (.dstore 13, 2) := by decide +kernel
theorem dJxfc994_floorOrCeil_f4a47_125 : decode cJxfc994_floorOrCeil_f4a47 125 = .ok (.dload 13, 2) := by decide +kernel
theorem dJxfc994_floorOrCeil_f4a47_127 : decode cJxfc994_floorOrCeil_f4a47 127 = .ok (.dreturn, 1) := by decide +kernel
theorem dJxa1e45_init_da8c8_0 : decode cJxa1e45_init_da8c8 0 = .ok (.aload_n 0, 1) := by decide +kernel
theorem dJxa1e45_init_da8c8_1 : decode cJxa1e45_init_da8c8 1 = .ok (.invokespecial 1, 3) := by decide +kernel
theorem dJxa1e45_init_da8c8_4 : decode cJxa1e45_init_da8c8 4 = .ok (.return_, 1) := by decide +kernel
theorem dJxc12de_init_da8c8_0 : decode cJxc12de_init_da8c8 0 = .ok (.aload_n 0, 1) := by decide +kernel
theorem dJxc12de_init_da8c8_1 : decode cJxc12de_init_da8c8 1 = .ok (.invokespecial 1, 3) := by decide +kernel
theorem dJxc12de_init_da8c8_4 : decode cJxc12de_init_da8c8 4 = .ok (.aload_n 0, 1) := by decide +kernel
theorem dJxc12de_init_da8c8_5 : decode cJxc12de_init_da8c8 5 = .ok (.iconst 0, 1) := by decide +kernel
theorem dJxc12de_init_da8c8_6 : decode cJxc12de_init_da8c8 6 = .ok (.putfield 7, 3) := by decide +kernel
theorem dJxc12de_init_da8c8_9 : decode cJxc12de_init_da8c8 9 = .ok (.return_, 1) := by decide +kernel
theorem dJx35411_init_45d68_0 : decode cJx35411_init_45d68 0 = .ok (.aload_n 0, 1) := by decide +kernel
theorem dJx35411_init_45d68_1 : decode cJx35411_init_45d68 1 = .ok (.aload_n 1, 1) := by decide +kernel
theorem dJx35411_init_45d68_2 : decode cJx35411_init_45d68 2 = .ok (.putfield 1, 3) := by decide +kernel
theorem dJx35411_init_45d68_5 : decode cJx35411_init_45d68 5 = .ok (.aload_n 0, 1) := by decide +kernel
theorem dJx35411_init_45d68_6 : decode cJx35411_init_45d68 6 = .ok (.invokespecial 7, 3) := by decide +kernel
theorem dJx35411_init_45d68_9 : decode cJx35411_init_45d68 9 = .ok (.aload_n 0, 1) := by decide +kernel
theorem dJx35411_init_45d68_10 : decode cJx35411_init_45d68 10 = .ok (.iconst (-1), 1) := by decide +kernel
theorem dJx35411_init_45d68_11 : decode cJx35411_init_45d68 11 = .ok (.putfield 13, 3) := by decide +kernel
theorem dJx35411_init_45d68_14 : decode cJx35411_init_45d68 14 = .ok (.aload_n 0, 1) := by decide +kernel
theorem dJx35411_init_45d68_15 : decode cJx35411_init_45d68 15 = .ok (.aload_n 0, 1) := by decide +kernel
theorem dJx35411_init_45d68_16 : decode cJx35411_init_45d68 16 = .ok (.getfield 1, 3) := by decide +kernel
theorem dJx35411_init_45d68_19 : decode cJx35411_init_45d68 19 = .ok (.getfield 17, 3) := by decide +kernel
theorem dJx35411_init_45d68_22 : decode cJx35411_init_45d68 22 = .ok (.putfield 22, 3) := by decide +kernel
theorem dJx35411_init_45d68_25 : decode cJx35411_init_45d68 25 = .ok (.return_, 1) := by decide +kernel
theorem dJx35411_hasNext_aae02_0 : decode cJx35411_hasNext_aae02 0 = .ok (.aload_n 0, 1) := by decide +kernel
theorem dJx35411_hasNext_aae02_1 : decode cJx35411_hasNext_aae02 1 = .ok (.getfield 25, 3) := by decide +kernel
theorem dJx35411_hasNext_aae02_4 : decode cJx35411_hasNext_aae02 4 = .ok (.aload_n 0, 1) := by decide +kernel
theorem dJx35411_hasNext_aae02_5 : decode cJx35411_hasNext_aae02 5 = .ok (.getfield 1, 3) := by decide +kernel
theorem dJx35411_hasNext_aae02_8 : decode cJx35411_hasNext_aae02 8 = .ok (.getfield 28, 3) := by decide +kernel
theorem dJx35411_hasNext_aae02_11 : decode cJx35411_hasNext_aae02 11 = .ok (.if_icmp .eq 7, 3) := by decide +kernel
theorem dJx35411_hasNext_aae02_14 : decode cJx35411_hasNext_aae02 14 = .ok (.iconst 1, 1) := by decide +kernel
theorem dJx35411_hasNext_aae02_15 : decode cJx35411_hasNext_aae02 15 = .ok (.goto 4, 3) := by decide +kernel
theorem dJx35411_hasNext_aae02_18 : decode cJx35411_hasNext_aae02 18 = .ok (.iconst 0, 1) := by decide +kernel
theorem dJx35411_hasNext_aae02_19 : decode cJx35411_hasNext_aae02 19 = .ok (.ireturn, 1) := by decide +kernel
theorem dJx35411_next_0502b_0 : decode cJx35411_next_0502b 0 = .ok (.aload_n 0, 1) := by decide +kernel
theorem dJx35411_next_0502b_1 : decode cJx35411_next_0502b 1 = .ok (.invokevirtual 31, 3) := by decide +kernel
theorem dJx35411_next_0502b_4 : decode cJx35411_next_0502b 4 = .ok (.aload_n 0, 1) := by decide +kernel
theorem dJx35411_next_0502b_5 : decode cJx35411_next_0502b 5 = .ok (.getfield 25, 3) := by decide +kernel
theorem dJx35411_next_0502b_8 : decode cJx35411_next_0502b 8 = .ok (.istore_n 1, 1) := by decide +kernel
theorem dJx35411_next_0502b_9 : decode cJx35411_next_0502b 9 = .ok (.iload_n 1, 1) := by decide +kernel
theorem dJx35411_next_0502b_10 : decode cJx35411_next_0502b 10 = .ok (.aload_n 0, 1) := by decide +kernel
theorem dJx35411_next_0502b_11 : decode cJx35411_next_0502b 11 = .ok (.getfield 1, 3) := by decide +kernel
theorem dJx35411_next_0502b_14 : decode cJx35411_next_0502b 14 = .ok (.getfield 28, 3) := by decide +kernel
theorem dJx35411_next_0502b_17 : decode cJx35411_next_0502b 17 = .ok (.if_icmp .lt 11, 3) := by decide +kernel
theorem dJx35411_next_0502b_20 : decode cJx35411_next_0502b 20 = .ok (.new 34, 3) := by decide +kernel
theorem dJx35411_next_0502b_23 : decode cJx35411_next_0502b 23 = .ok (.dup, 1) := by decide +kernel
theorem dJx35411_next_0502b_24 : decode cJx35411_next_0502b 24 = .ok (.invokespecial 36, 3) := by decide +kernel
theorem dJx35411_next_0502b_27 : decode cJx35411_next_0502b 27 = .ok (.athrow, 1) := by decide +kernel
theorem dJx35411_next_0502b_28 : decode cJx35411_next_0502b 28 = .ok (.aload_n 0, 1) := by decide +kernel
theorem dJx35411_next_0502b_29 : decode cJx35411_next_0502b 29 = .ok (.getfield 1, 3) := by decide +kernel
theorem dJx35411_next_0502b_32 : decode cJx35411_next_0502b 32 = .ok (.getfield 37, 3) := by decide +kernel
theorem dJx35411_next_0502b_35 : decode cJx35411_next_0502b 35 = .ok (.astore_n 2, 1) := by decide +kernel
theorem dJx35411_next_0502b_36 : decode cJx35411_next_0502b 36 = .ok (.iload_n 1, 1) := by decide +kernel
theorem dJx35411_next_0502b_37 : decode cJx35411_next_0502b 37 = .ok (.aload_n 2, 1) := by decide +kernel
theorem dJx35411_next_0502b_38 : decode cJx35411_next_0502b 38 = .ok (.arraylength, 1) := by decide +kernel
theorem dJx35411_next_0502b_39 : decode cJx35411_next_0502b 39 = .ok (.if_icmp .lt 11, 3) := by decide +kernel
theorem dJx35411_next_0502b_42 : decode cJx35411_next_0502b 42 = .ok (.new 41, 3) := by decide +kernel
theorem dJx35411_next_0502b_45 : decode cJx35411_next_0502b 45 = .ok (.dup, 1) := by decide +kernel
theorem dJx35411_next_0502b_46 : decode cJx35411_next_0502b 46 = .ok (.invokespecial 43, 3) := by decide +kernel
theorem dJx35411_next_0502b_49 : decode cJx35411_next_0502b 49 = .ok (.athrow, 1) := by decide +kernel
theorem dJx35411_next_0502b_50 : decode cJx35411_next_0502b 50 = .ok (.aload_n 0, 1) := by decide +kernel
theorem dJx35411_next_0502b_51 : decode cJx35411_next_0502b 51 = .ok (.iload_n 1, 1) := by decide +kernel
theorem dJx35411_next_0502b_52 : decode cJx35411_next_0502b 52 = .ok (.iconst 1, 1) := by decide +kernel
theorem dJx35411_next_0502b_53 : decode cJx35411_next_0502b 53 = .ok (.iadd, 1) := by decide +kernel
theorem dJx35411_next_0502b_54 : decode cJx35411_next_0502b 54 = .ok (.putfield 25, 3) := by decide +kernel
theorem dJx35411_next_0502b_57 : decode cJx35411_next_0502b 57 = .ok (.aload_n 2, 1) := by decide +kernel
theorem dJx35411_next_0502b_58 : decode cJx35411_next_0502b 58 = .ok (.aload_n 0, 1) := by decide +kernel
theorem dJx35411_next_0502b_59 : decode cJx35411_next_0502b 59 = .ok (.iload_n 1, 1) := by decide +kernel
theorem dJx35411_next_0502b_60 : decode cJx35411_next_0502b 60 = .ok (.dup_x1, 1) := by decide +kernel
theorem dJx35411_next_0502b_61 : decode cJx35411_next_0502b 61 = .ok (.putfield 13, 3) := by decide +kernel
theorem dJx35411_next_0502b_64 : decode cJx35411_next_0502b 64 = .ok (.aaload, 1) := by decide +kernel
theorem dJx35411_next_0502b_65 : decode cJx35411_next_0502b 65 = .ok (.areturn, 1) := by decide +kernel
theorem dJx35411_checkForComodification_da8c8_0 : decode cJx35411_checkForComodification_da8c8 0 = .ok (.aload_n 0, 1) := by decide +kernel
theorem dJx35411_checkForComodification_da8c8_1 : decode cJx35411_checkForComodification_da8c8 1 = .ok (.getfield 1, 3) := by decide +kernel
theorem dJx35411_checkForComodification_da8c8_4 : decode cJx35411_checkForComodification_da8c8 4 = .ok (.getfield 17, 3) := by decide +kernel
theorem dJx35411_checkForComodification_da8c8_7 : decode cJx35411_checkForComodification_da8c8 7 = .ok (.aload_n 0, 1) := by decide +kernel
theorem dJx35411_checkForComodification_da8c8_8 : decode cJx35411_checkForComodification_da8c8 8 = .ok (.getfield 22, 3) := by decide +kernel
theorem dJx35411_checkForComodification_da8c8_11 : decode cJx35411_checkForComodification_da8c8 11 = .ok (.if_icmp .eq 11, 3) := by decide +kernel
theorem dJx35411_checkForComodification_da8c8_14 : decode cJx35411_checkForComodification_da8c8 14 = .ok (.new 41, 3) := by decide +kernel
theorem dJx35411_checkForComodification_da8c8_17 : decode cJx35411_checkForComodification_da8c8 17 = .ok (.dup, 1) := by decide +kernel
theorem dJx35411_checkForComodification_da8c8_18 : decode cJx35411_checkForComodification_da8c8 18 = .ok (.invokespecial 43, 3) := by decide +kernel
theorem dJx35411_checkForComodification_da8c8_21 : decode cJx35411_checkForComodification_da8c8 21 = .ok (.athrow, 1) := by decide +kernel
theorem dJx35411_checkForComodification_da8c8_22 : decode cJx35411_checkForComodification_da8c8 22 = .ok (.return_, 1) := by decide +kernel
theorem dJx4a65c_init_da8c8_0 : decode cJx4a65c_init_da8c8 0 = .ok (.aload_n 0, 1) := by decide +kernel
theorem dJx4a65c_init_da8c8_1 : decode cJx4a65c_init_da8c8 1 = .ok (.invokespecial 1, 3) := by decide +kernel
theorem dJx4a65c_init_da8c8_4 : decode cJx4a65c_init_da8c8 4 = .ok (.aload_n 0, 1) := by decide +kernel
theorem dJx4a65c_init_da8c8_5 : decode cJx4a65c_init_da8c8 5 = .ok (.getstatic 39, 3) := by decide +kernel
theorem dJx4a65c_init_da8c8_8 : decode cJx4a65c_init_da8c8 8 = .ok (.putfield 9, 3) := by decide +kernel
theorem dJx4a65c_init_da8c8_11 : decode cJx4a65c_init_da8c8 11 = .ok (.return_, 1) := by decide +kernel
theorem dJx4a65c_grow_92f84_0 : decode cJx4a65c_grow_92f84 0 = .ok (.aload_n 0, 1) := by decide +kernel
theorem dJx4a65c_grow_92f84_1 : decode cJx4a65c_grow_92f84 1 = .ok (.getfield 9, 3) := by decide +kernel
theorem dJx4a65c_grow_92f84_4 : decode cJx4a65c_grow_92f84 4 = .ok (.arraylength, 1) := by decide +kernel
theorem dJx4a65c_grow_92f84_5 : decode cJx4a65c_grow_92f84 5 = .ok (.istore_n 2, 1) := by decide +kernel
theorem dJx4a65c_grow_92f84_6 : decode cJx4a65c_grow_92f84 6 = .ok (.iload_n 2, 1) := by decide +kernel
theorem dJx4a65c_grow_92f84_7 : decode cJx4a65c_grow_92f84 7 = .ok (.ifCond .gt 13, 3) := by decide +kernel
theorem dJx4a65c_grow_92f84_10 : decode cJx4a65c_grow_92f84 10 = .ok (.aload_n 0, 1) := by decide +kernel
theorem dJx4a65c_grow_92f84_11 : decode cJx4a65c_grow_92f84 11 = .ok (.getfield 9, 3) := by decide +kernel
theorem dJx4a65c_grow_92f84_14 : decode cJx4a65c_grow_92f84 14 = .ok (.getstatic 39, 3) := by decide +kernel
theorem dJx4a65c_grow_92f84_17 : decode cJx4a65c_grow_92f84 17 = .ok (.if_acmp .eq 28, 3) := by decide +kernel
theorem dJx4a65c_grow_92f84_20 : decode cJx4a65c_grow_92f84 20 = .ok (.iload_n 2, 1) := by decide +kernel
theorem dJx4a65c_grow_92f84_21 : decode cJx4a65c_grow_92f84 21 = .ok (.iload_n 1, 1) := by decide +kernel
theorem dJx4a65c_grow_92f84_22 : decode cJx4a65c_grow_92f84 22 = .ok (.iload_n 2, 1) := by decide +kernel
theorem dJx4a65c_grow_92f84_23 : decode cJx4a65c_grow_92f84 23 = .ok (.isub, 1) := by decide +kernel
theorem dJx4a65c_grow_92f84_24 : decode cJx4a65c_grow_92f84 24 = .ok (.iload_n 2, 1) := by decide +kernel
theorem dJx4a65c_grow_92f84_25 : decode cJx4a65c_grow_92f84 25 = .ok (.iconst 1, 1) := by decide +kernel
theorem dJx4a65c_grow_92f84_26 : decode cJx4a65c_grow_92f84 26 = .ok (.ishr, 1) := by decide +kernel
theorem dJx4a65c_grow_92f84_27 : decode cJx4a65c_grow_92f84 27 = .ok (.invokestatic 73, 3) := by decide +kernel
theorem dJx4a65c_grow_92f84_30 : decode cJx4a65c_grow_92f84 30 = .ok (.istore_n 3, 1) := by decide +kernel
theorem dJx4a65c_grow_92f84_31 : decode cJx4a65c_grow_92f84 31 = .ok (.aload_n 0, 1) := by decide +kernel
theorem dJx4a65c_grow_92f84_32 : decode cJx4a65c_grow_92f84 32 = .ok (.aload_n 0, 1) := by decide +kernel
theorem dJx4a65c_grow_92f84_33 : decode cJx4a65c_grow_92f84 33 = .ok (.getfield 9, 3) := by decide +kernel
theorem dJx4a65c_grow_92f84_36 : decode cJx4a65c_grow_92f84 36 = .ok (.iload_n 3, 1) := by decide +kernel
theorem dJx4a65c_grow_92f84_37 : decode cJx4a65c_grow_92f84 37 = .ok (.invokestatic 66, 3) := by decide +kernel
theorem dJx4a65c_grow_92f84_40 : decode cJx4a65c_grow_92f84 40 = .ok (.dup_x1, 1) := by decide +kernel
theorem dJx4a65c_grow_92f84_41 : decode cJx4a65c_grow_92f84 41 = .ok (.putfield 9, 3) := by decide +kernel
theorem dJx4a65c_grow_92f84_44 : decode cJx4a65c_grow_92f84 44 = .ok (.areturn, 1) := by decide +kernel
theorem dJx4a65c_grow_92f84_45 : decode cJx4a65c_grow_92f84 45 = .ok (.aload_n 0, 1) := by decide +kernel
theorem dJx4a65c_grow_92f84_46 : decode cJx4a65c_grow_92f84 46 = .ok (.bipush 10, 2) := by decide +kernel
theorem dJx4a65c_grow_92f84_48 : decode cJx4a65c_grow_92f84 48 = .ok (.iload_n 1, 1) := by decide +kernel
theorem dJx4a65c_grow_92f84_49 : decode cJx4a65c_grow_92f84 49 = .ok (.invokestatic 79, 3) := by decide +kernel
theorem dJx4a65c_grow_92f84_52 : decode cJx4a65c_grow_92f84 52 = .ok (.anewarray 7, 3) := by decide +kernel
theorem dJx4a65c_grow_92f84_55 : decode cJx4a65c_grow_92f84 55 = .ok (.dup_x1, 1) := by decide +kernel
theorem dJx4a65c_grow_92f84_56 : decode cJx4a65c_grow_92f84 56 = .ok (.putfield 9, 3) := by decide +kernel
theorem dJx4a65c_grow_92f84_59 : decode cJx4a65c_grow_92f84 59 = .ok (.areturn, 1) := by decide +kernel
theorem dJx4a65c_grow_d5877_0 : decode cJx4a65c_grow_d5877 0 = .ok (.aload_n 0, 1) := by decide +kernel
theorem dJx4a65c_grow_d5877_1 : decode cJx4a65c_grow_d5877 1 = .ok (.aload_n 0, 1) := by decide +kernel
theorem dJx4a65c_grow_d5877_2 : decode cJx4a65c_grow_d5877 2 = .ok (.getfield 48, 3) := by decide +kernel
theorem dJx4a65c_grow_d5877_5 : decode cJx4a65c_grow_d5877 5 = .ok (.iconst 1, 1) := by decide +kernel
theorem dJx4a65c_grow_d5877_6 : decode cJx4a65c_grow_d5877 6 = .ok (.iadd, 1) := by decide +kernel
theorem dJx4a65c_grow_d5877_7 : decode cJx4a65c_grow_d5877 7 = .ok (.invokevirtual 69, 3) := by decide +kernel
theorem dJx4a65c_grow_d5877_10 : decode cJx4a65c_grow_d5877 10 = .ok (.areturn, 1) := by decide +kernel
theorem dJx4a65c_size_8abf5_0 : decode cJx4a65c_size_8abf5 0 = .ok (.aload_n 0, 1) := by decide +kernel
theorem dJx4a65c_size_8abf5_1 : decode cJx4a65c_size_8abf5 1 = .ok (.getfield 48, 3) := by decide +kernel
theorem dJx4a65c_size_8abf5_4 : decode cJx4a65c_size_8abf5 4 = .ok (.ireturn, 1) := by decide +kernel
theorem dJx4a65c_isEmpty_aae02_0 : decode cJx4a65c_isEmpty_aae02 0 = .ok (.aload_n 0, 1) := by decide +kernel
theorem dJx4a65c_isEmpty_aae02_1 : decode cJx4a65c_isEmpty_aae02 1 = .ok (.getfield 48, 3) := by decide +kernel
theorem dJx4a65c_isEmpty_aae02_4 : decode cJx4a65c_isEmpty_aae02 4 = .ok (.ifCond .ne 7, 3) := by decide +kernel
theorem dJx4a65c_isEmpty_aae02_7 : decode cJx4a65c_isEmpty_aae02 7 = .ok (.iconst 1, 1) := by decide +kernel
theorem dJx4a65c_isEmpty_aae02_8 : decode cJx4a65c_isEmpty_aae02 8 = .ok (.goto 4, 3) := by decide +kernel
theorem dJx4a65c_isEmpty_aae02_11 : decode cJx4a65c_isEmpty_aae02 11 = .ok (.iconst 0, 1) := by decide +kernel
theorem dJx4a65c_isEmpty_aae02_12 : decode cJx4a65c_isEmpty_aae02 12 = .ok (.ireturn, 1) := by decide +kernel
theorem dJx4a65c_elementData_915e3_0 : decode cJx4a65c_elementData_915e3 0 = .ok (.aload_n 0, 1) := by decide +kernel
theorem dJx4a65c_elementData_915e3_1 : decode cJx4a65c_elementData_915e3 1 = .ok (.getfield 9, 3) := by decide +kernel
theorem dJx4a65c_elementData_915e3_4 : decode cJx4a65c_elementData_915e3 4 = .ok (.iload_n 1, 1) := by decide +kernel
theorem dJx4a65c_elementData_915e3_5 : decode cJx4a65c_elementData_915e3 5 = .ok (.aaload, 1) := by decide +kernel
theorem dJx4a65c_elementData_915e3_6 : decode cJx4a65c_elementData_915e3 6 = .ok (.areturn, 1) := by decide +kernel
theorem dJx4a65c_get_915e3_0 : decode cJx4a65c_get_915e3 0 = .ok (.iload_n 1, 1) := by decide +kernel
theorem dJx4a65c_get_915e3_1 : decode cJx4a65c_get_915e3 1 = .ok (.aload_n 0, 1) := by decide +kernel
theorem dJx4a65c_get_915e3_2 : decode cJx4a65c_get_915e3 2 = .ok (.getfield 48, 3) := by decide +kernel
theorem dJx4a65c_get_915e3_5 : decode cJx4a65c_get_915e3 5 = .ok (.invokestatic 118, 3) := by decide +kernel
theorem dJx4a65c_get_915e3_8 : decode cJx4a65c_get_915e3 8 = .ok (.pop, 1) := by decide +kernel
theorem dJx4a65c_get_915e3_9 : decode cJx4a65c_get_915e3 9 = .ok (.aload_n 0, 1) := by decide +kernel
theorem dJx4a65c_get_915e3_10 : decode cJx4a65c_get_915e3 10 = .ok (.iload_n 1, 1) := by decide +kernel
theorem dJx4a65c_get_915e3_11 : decode cJx4a65c_get_915e3 11 = .ok (.invokevirtual 123, 3) := by decide +kernel
theorem dJx4a65c_get_915e3_14 : decode cJx4a65c_get_915e3 14 = .ok (.areturn, 1) := by decide +kernel
theorem dJx4a65c_add_72be8_0 : decode cJx4a65c_add_72be8 0 = .ok (.iload_n 3, 1) := by decide +kernel
theorem dJx4a65c_add_72be8_1 : decode cJx4a65c_add_72be8 1 = .ok (.aload_n 2, 1) := by decide +kernel
theorem dJx4a65c_add_72be8_2 : decode cJx4a65c_add_72be8 2 = .ok (.arraylength, 1) := by decide +kernel
theorem dJx4a65c_add_72be8_3 : decode cJx4a65c_add_72be8 3 = .ok (.if_icmp .ne 8, 3) := by decide +kernel
theorem dJx4a65c_add_72be8_6 : decode cJx4a65c_add_72be8 6 = .ok (.aload_n 0, 1) := by decide +kernel
theorem dJx4a65c_add_72be8_7 : decode cJx4a65c_add_72be8 7 = .ok (.invokevirtual 129, 3) := by decide +kernel
theorem dJx4a65c_add_72be8_10 : decode cJx4a65c_add_72be8 10 = .ok (.astore_n 2, 1) := by decide +kernel
theorem dJx4a65c_add_72be8_11 : decode cJx4a65c_add_72be8 11 = .ok (.aload_n 2, 1) := by decide +kernel
theorem dJx4a65c_add_72be8_12 : decode cJx4a65c_add_72be8 12 = .ok (.iload_n 3, 1) := by decide +kernel
theorem dJx4a65c_add_72be8_13 : decode cJx4a65c_add_72be8 13 = .ok (.aload_n 1, 1) := by decide +kernel
theorem dJx4a65c_add_72be8_14 : decode cJx4a65c_add_72be8 14 = .ok (.aastore, 1) := by decide +kernel
theorem dJx4a65c_add_72be8_15 : decode cJx4a65c_add_72be8 15 = .ok (.aload_n 0, 1) := by decide +kernel
theorem dJx4a65c_add_72be8_16 : decode cJx4a65c_add_72be8 16 = .ok (.iload_n 3, 1) := by decide +kernel
theorem dJx4a65c_add_72be8_17 : decode cJx4a65c_add_72be8 17 = .ok (.iconst 1, 1) := by decide +kernel
theorem dJx4a65c_add_72be8_18 : decode cJx4a65c_add_72be8 18 = .ok (.iadd, 1) := by decide +kernel
theorem dJx4a65c_add_72be8_19 : decode cJx4a65c_add_72be8 19 = .ok (.putfield 48, 3) := by decide +kernel
theorem dJx4a65c_add_72be8_22 : decode cJx4a65c_add_72be8 22 = .ok (.return_, 1) := by decide +kernel
theorem dJx4a65c_add_9ea2d_0 : decode cJx4a65c_add_9ea2d 0 = .ok (.aload_n 0, 1) := by decide +kernel
theorem dJx4a65c_add_9ea2d_1 : decode cJx4a65c_add_9ea2d 1 = .ok (.dup, 1) := by decide +kernel
theorem dJx4a65c_add_9ea2d_2 : decode cJx4a65c_add_9ea2d 2 = .ok (.getfield 63, 3) := by decide +kernel
theorem dJx4a65c_add_9ea2d_5 : decode cJx4a65c_add_9ea2d 5 = .ok (.iconst 1, 1) := by decide +kernel
theorem dJx4a65c_add_9ea2d_6 : decode cJx4a65c_add_9ea2d 6 = .ok (.iadd, 1) := by decide +kernel
theorem dJx4a65c_add_9ea2d_7 : decode cJx4a65c_add_9ea2d 7 = .ok (.putfield 63, 3) := by decide +kernel
theorem dJx4a65c_add_9ea2d_10 : decode cJx4a65c_add_9ea2d 10 = .ok (.aload_n 0, 1) := by decide +kernel
theorem dJx4a65c_add_9ea2d_11 : decode cJx4a65c_add_9ea2d 11 = .ok (.aload_n 1, 1) := by decide +kernel
theorem dJx4a65c_add_9ea2d_12 : decode cJx4a65c_add_9ea2d 12 = .ok (.aload_n 0, 1) := by decide +kernel
theorem dJx4a65c_add_9ea2d_13 : decode cJx4a65c_add_9ea2d 13 = .ok (.getfield 9, 3) := by decide +kernel
theorem dJx4a65c_add_9ea2d_16 : decode cJx4a65c_add_9ea2d 16 = .ok (.aload_n 0, 1) := by decide +kernel
theorem dJx4a65c_add_9ea2d_17 : decode cJx4a65c_add_9ea2d 17 = .ok (.getfield 48, 3) := by decide +kernel
theorem dJx4a65c_add_9ea2d_20 : decode cJx4a65c_add_9ea2d 20 = .ok (.invokevirtual 131, 3) := by decide +kernel
theorem dJx4a65c_add_9ea2d_23 : decode cJx4a65c_add_9ea2d 23 = .ok (.iconst 1, 1) := by decide +kernel
theorem dJx4a65c_add_9ea2d_24 : decode cJx4a65c_add_9ea2d 24 = .ok (.ireturn, 1) := by decide +kernel
theorem dJx4a65c_iterator_32c93_0 : decode cJx4a65c_iterator_32c93 0 = .ok (.new 267, 3) := by decide +kernel
theorem dJx4a65c_iterator_32c93_3 : decode cJx4a65c_iterator_32c93 3 = .ok (.dup, 1) := by decide +kernel
theorem dJx4a65c_iterator_32c93_4 : decode cJx4a65c_iterator_32c93 4 = .ok (.aload_n 0, 1) := by decide +kernel
theorem dJx4a65c_iterator_32c93_5 : decode cJx4a65c_iterator_32c93 5 = .ok (.invokespecial 269, 3) := by decide +kernel
theorem dJx4a65c_iterator_32c93_8 : decode cJx4a65c_iterator_32c93 8 = .ok (.areturn, 1) := by decide +kernel
theorem dJ7_copyOf_1904c_0 : decode cJ7_copyOf_1904c 0 = .ok (.aload_n 0, 1) := by decide +kernel
theorem dJ7_copyOf_1904c_1 : decode cJ7_copyOf_1904c 1 = .ok (.iload_n 1, 1) := by decide +kernel
theorem dJ7_copyOf_1904c_2 : decode cJ7_copyOf_1904c 2 = .ok (.aload_n 0, 1) := by decide +kernel
theorem dJ7_copyOf_1904c_3 : decode cJ7_copyOf_1904c 3 = .ok (.invokevirtual 86, 3) := by decide +kernel
theorem dJ7_copyOf_1904c_6 : decode cJ7_copyOf_1904c 6 = .ok (.invokestatic 300, 3) := by decide +kernel
theorem dJ7_copyOf_1904c_9 : decode cJ7_copyOf_1904c 9 = .ok (.areturn, 1) := by decide +kernel
theorem dJ7_copyOf_6403c_0 : decode cJ7_copyOf_6403c 0 = .ok (.aload_n 2, 1) := by decide +kernel
theorem dJ7_copyOf_6403c_1 : decode cJ7_copyOf_6403c 1 = .ok (.ldc 110, 2) := by decide +kernel
theorem dJ7_copyOf_6403c_3 : decode cJ7_copyOf_6403c 3 = .ok (.if_acmp .ne 10, 3) := by decide +kernel
theorem dJ7_copyOf_6403c_6 : decode cJ7_copyOf_6403c 6 = .ok (.iload_n 1, 1) := by decide +kernel
theorem dJ7_copyOf_6403c_7 : decode cJ7_copyOf_6403c 7 = .ok (.anewarray 2, 3) := by decide +kernel
theorem dJ7_copyOf_6403c_10 : decode cJ7_copyOf_6403c 10 = .ok (.goto 14, 3) := by decide +kernel
theorem dJ7_copyOf_6403c_13 : decode cJ7_copyOf_6403c 13 = .ok (.aload_n 2, 1) := by decide +kernel
theorem dJ7_copyOf_6403c_14 : decode cJ7_copyOf_6403c 14 = .ok (.invokevirtual 90, 3) := by decide +kernel
theorem dJ7_copyOf_6403c_17 : decode cJ7_copyOf_6403c 17 = .ok (.iload_n 1, 1) := by decide +kernel
theorem dJ7_copyOf_6403c_18 : decode cJ7_copyOf_6403c 18 = .ok (.invokestatic 95, 3) := by decide +kernel
theorem dJ7_copyOf_6403c_21 : decode cJ7_copyOf_6403c 21 = .ok (.checkcast 110, 3) := by decide +kernel
theorem dJ7_copyOf_6403c_24 : decode cJ7_copyOf_6403c 24 = .ok (.astore_n 3, 1) := by decide +kernel
theorem dJ7_copyOf_6403c_25 : decode cJ7_copyOf_6403c 25 = .ok (.aload_n 0, 1) := by decide +kernel
theorem dJ7_copyOf_6403c_26 : decode cJ7_copyOf_6403c 26 = .ok (.iconst 0, 1) := by decide +kernel
theorem dJ7_copyOf_6403c_27 : decode cJ7_copyOf_6403c 27 = .ok (.aload_n 3, 1) := by decide +kernel
theorem dJ7_copyOf_6403c_28 : decode cJ7_copyOf_6403c 28 = .ok (.iconst 0, 1) := by decide +kernel
theorem dJ7_copyOf_6403c_29 : decode cJ7_copyOf_6403c 29 = .ok (.aload_n 0, 1) := by decide +kernel
theorem dJ7_copyOf_6403c_30 : decode cJ7_copyOf_6403c 30 = .ok (.arraylength, 1) := by decide +kernel
theorem dJ7_copyOf_6403c_31 : decode cJ7_copyOf_6403c 31 = .ok (.iload_n 1, 1) := by decide +kernel
theorem dJ7_copyOf_6403c_32 : decode cJ7_copyOf_6403c 32 = .ok (.invokestatic 304, 3) := by decide +kernel
theorem dJ7_copyOf_6403c_35 : decode cJ7_copyOf_6403c 35 = .ok (.invokestatic 150, 3) := by decide +kernel
theorem dJ7_copyOf_6403c_38 : decode cJ7_copyOf_6403c 38 = .ok (.aload_n 3, 1) := by decide +kernel
theorem dJ7_copyOf_6403c_39 : decode cJ7_copyOf_6403c 39 = .ok (.areturn, 1) := by decide +kernel
theorem dJ15_checkIndex_7cf53_0 : decode cJ15_checkIndex_7cf53 0 = .ok (.iload_n 0, 1) := by decide +kernel
theorem dJ15_checkIndex_7cf53_1 : decode cJ15_checkIndex_7cf53 1 = .ok (.iload_n 1, 1) := by decide +kernel
theorem dJ15_checkIndex_7cf53_2 : decode cJ15_checkIndex_7cf53 2 = .ok (.aconst_null, 1) := by decide +kernel
theorem dJ15_checkIndex_7cf53_3 : decode cJ15_checkIndex_7cf53 3 = .ok (.invokestatic 105, 3) := by decide +kernel
theorem dJ15_checkIndex_7cf53_6 : decode cJ15_checkIndex_7cf53 6 = .ok (.ireturn, 1) := by decide +kernel
theorem dJ8_newLength_cabcc_0 : decode cJ8_newLength_cabcc 0 = .ok (.iload_n 0, 1) := by decide +kernel
theorem dJ8_newLength_cabcc_1 : decode cJ8_newLength_cabcc 1 = .ok (.iload_n 1, 1) := by decide +kernel
theorem dJ8_newLength_cabcc_2 : decode cJ8_newLength_cabcc 2 = .ok (.iload_n 2, 1) := by decide +kernel
theorem dJ8_newLength_cabcc_3 : decode cJ8_newLength_cabcc 3 = .ok (.invokestatic 194, 3) := by decide +kernel
theorem dJ8_newLength_cabcc_6 : decode cJ8_newLength_cabcc 6 = .ok (.iadd, 1) := by decide +kernel
theorem dJ8_newLength_cabcc_7 : decode cJ8_newLength_cabcc 7 = .ok (.istore_n 3, 1) := by decide +kernel
theorem dJ8_newLength_cabcc_8 : decode cJ8_newLength_cabcc 8 = .ok (.iconst 0, 1) := by decide +kernel
theorem dJ8_newLength_cabcc_9 : decode cJ8_newLength_cabcc 9 = .ok (.iload_n 3, 1) := by decide +kernel
theorem dJ8_newLength_cabcc_10 : decode cJ8_newLength_cabcc 10 = .ok (.if_icmp .ge 11, 3) := by decide +kernel
theorem dJ8_newLength_cabcc_13 : decode cJ8_newLength_cabcc 13 = .ok (.iload_n 3, 1) := by decide +kernel
theorem dJ8_newLength_cabcc_14 : decode cJ8_newLength_cabcc 14 = .ok (.ldc 200, 2) := by decide +kernel
theorem dJ8_newLength_cabcc_16 : decode cJ8_newLength_cabcc 16 = .ok (.if_icmp .gt 5, 3) := by decide +kernel
theorem dJ8_newLength_cabcc_19 : decode cJ8_newLength_cabcc 19 = .ok (.iload_n 3, 1) := by decide +kernel
theorem dJ8_newLength_cabcc_20 : decode cJ8_newLength_cabcc 20 = .ok (.ireturn, 1) := by decide +kernel
theorem dJ8_newLength_cabcc_21 : decode cJ8_newLength_cabcc 21 = .ok (.iload_n 0, 1) := by decide +kernel
theorem dJ8_newLength_cabcc_22 : decode cJ8_newLength_cabcc 22 = .ok (.iload_n 1, 1) := by decide +kernel
theorem dJ8_newLength_cabcc_23 : decode cJ8_newLength_cabcc 23 = .ok (.invokestatic 201, 3) := by decide +kernel
theorem dJ8_newLength_cabcc_26 : decode cJ8_newLength_cabcc 26 = .ok (.ireturn, 1) := by decide +kernel
theorem dJ8_hugeLength_7cf53_0 : decode cJ8_hugeLength_7cf53 0 = .ok (.iload_n 0, 1) := by decide +kernel
theorem dJ8_hugeLength_7cf53_1 : decode cJ8_hugeLength_7cf53 1 = .ok (.iload_n 1, 1) := by decide +kernel
theorem dJ8_hugeLength_7cf53_2 : decode cJ8_hugeLength_7cf53 2 = .ok (.iadd, 1) := by decide +kernel
theorem dJ8_hugeLength_7cf53_3 : decode cJ8_hugeLength_7cf53 3 = .ok (.istore_n 2, 1) := by decide +kernel
theorem dJ8_hugeLength_7cf53_4 : decode cJ8_hugeLength_7cf53 4 = .ok (.iload_n 2, 1) := by decide +kernel
theorem dJ8_hugeLength_7cf53_5 : decode cJ8_hugeLength_7cf53 5 = .ok (.ifCond .ge 44, 3) := by decide +kernel
theorem dJ8_hugeLength_7cf53_8 : decode cJ8_hugeLength_7cf53 8 = .ok (.new 204, 3) := by decide +kernel
theorem dJ8_hugeLength_7cf53_11 : decode cJ8_hugeLength_7cf53 11 = .ok (.dup, 1) := by decide +kernel
theorem dJ8_hugeLength_7cf53_12 : decode cJ8_hugeLength_7cf53 12 = .ok (.new 89, 3) := by decide +kernel
theorem dJ8_hugeLength_7cf53_15 : decode cJ8_hugeLength_7cf53 15 = .ok (.dup, 1) := by decide +kernel
theorem dJ8_hugeLength_7cf53_16 : decode cJ8_hugeLength_7cf53 16 = .ok (.invokespecial 91, 3) := by decide +kernel
theorem dJ8_hugeLength_7cf53_19 : decode cJ8_hugeLength_7cf53 19 = .ok (.ldc 206, 2) := by decide +kernel
theorem dJ8_hugeLength_7cf53_21 : decode cJ8_hugeLength_7cf53 21 = .ok (.invokevirtual 94, 3) := by decide +kernel
theorem dJ8_hugeLength_7cf53_24 : decode cJ8_hugeLength_7cf53 24 = .ok (.iload_n 0, 1) := by decide +kernel
theorem dJ8_hugeLength_7cf53_25 : decode cJ8_hugeLength_7cf53 25 = .ok (.invokevirtual 98, 3) := by decide +kernel
theorem dJ8_hugeLength_7cf53_28 : decode cJ8_hugeLength_7cf53 28 = .ok (.ldc 208, 2) := by decide +kernel
theorem dJ8_hugeLength_7cf53_30 : decode cJ8_hugeLength_7cf53 30 = .ok (.invokevirtual 94, 3) := by decide +kernel
theorem dJ8_hugeLength_7cf53_33 : decode cJ8_hugeLength_7cf53 33 = .ok (.iload_n 1, 1) := by decide +kernel
theorem dJ8_hugeLength_7cf53_34 : decode cJ8_hugeLength_7cf53 34 = .ok (.invokevirtual 98, 3) := by decide +kernel
theorem dJ8_hugeLength_7cf53_37 : decode cJ8_hugeLength_7cf53 37 = .ok (.ldc 210, 2) := by decide +kernel
theorem dJ8_hugeLength_7cf53_39 : decode cJ8_hugeLength_7cf53 39 = .ok (.invokevirtual 94, 3) := by decide +kernel
theorem dJ8_hugeLength_7cf53_42 : decode cJ8_hugeLength_7cf53 42 = .ok (.invokevirtual 101, 3) := by decide +kernel
theorem dJ8_hugeLength_7cf53_45 : decode cJ8_hugeLength_7cf53 45 = .ok (.invokespecial 212, 3) := by decide +kernel
theorem dJ8_hugeLength_7cf53_48 : decode cJ8_hugeLength_7cf53 48 = .ok (.athrow, 1) := by decide +kernel
theorem dJ8_hugeLength_7cf53_49 : decode cJ8_hugeLength_7cf53 49 = .ok (.iload_n 2, 1) := by decide +kernel
theorem dJ8_hugeLength_7cf53_50 : decode cJ8_hugeLength_7cf53 50 = .ok (.ldc 200, 2) := by decide +kernel
theorem dJ8_hugeLength_7cf53_52 : decode cJ8_hugeLength_7cf53 52 = .ok (.if_icmp .gt 6, 3) := by decide +kernel
theorem dJ8_hugeLength_7cf53_55 : decode cJ8_hugeLength_7cf53 55 = .ok (.ldc 200, 2) := by decide +kernel
theorem dJ8_hugeLength_7cf53_57 : decode cJ8_hugeLength_7cf53 57 = .ok (.ireturn, 1) := by decide +kernel
theorem dJ8_hugeLength_7cf53_58 : decode cJ8_hugeLength_7cf53 58 = .ok (.iload_n 2, 1) := by decide +kernel
theorem dJ8_hugeLength_7cf53_59 : decode cJ8_hugeLength_7cf53 59 = .ok (.ireturn, 1) := by decide +kernel
theorem dJ3_checkIndex_8e157_0 : decode cJ3_checkIndex_8e157 0 = .ok (.iload_n 0, 1) := by decide +kernel
theorem dJ3_checkIndex_8e157_1 : decode cJ3_checkIndex_8e157 1 = .ok (.ifCond .lt 8, 3) := by decide +kernel
theorem dJ3_checkIndex_8e157_4 : decode cJ3_checkIndex_8e157 4 = .ok (.iload_n 0, 1) := by decide +kernel
theorem dJ3_checkIndex_8e157_5 : decode cJ3_checkIndex_8e157 5 = .ok (.iload_n 1, 1) := by decide +kernel
theorem dJ3_checkIndex_8e157_6 : decode cJ3_checkIndex_8e157 6 = .ok (.if_icmp .lt 10, 3) := by decide +kernel
theorem dJ3_checkIndex_8e157_9 : decode cJ3_checkIndex_8e157 9 = .ok (.aload_n 2, 1) := by decide +kernel
theorem dJ3_checkIndex_8e157_10 : decode cJ3_checkIndex_8e157 10 = .ok (.iload_n 0, 1) := by decide +kernel
theorem dJ3_checkIndex_8e157_11 : decode cJ3_checkIndex_8e157 11 = .ok (.iload_n 1, 1) := by decide +kernel
theorem dJ3_checkIndex_8e157_12 : decode cJ3_checkIndex_8e157 12 = .ok (.invokestatic 95, 3) := by decide +kernel
theorem dJ3_checkIndex_8e157_15 : decode cJ3_checkIndex_8e157 15 = .ok (.athrow, 1) := by decide +kernel
theorem dJ3_checkIndex_8e157_16 : decode cJ3_checkIndex_8e157 16 = .ok (.iload_n 0, 1) := by decide +kernel
theorem dJ3_checkIndex_8e157_17 : decode cJ3_checkIndex_8e157 17 = .ok (.ireturn, 1) := by decide +kernel
