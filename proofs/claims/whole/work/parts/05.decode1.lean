theorem dX0_init_0 : decode cX0_init 0 = .ok (.aload_n 0, 1) := by decide +kernel
theorem dX0_init_1 : decode cX0_init 1 = .ok (.invokespecial 1, 3) := by decide +kernel
theorem dX0_init_4 : decode cX0_init 4 = .ok (.aload_n 0, 1) := by decide +kernel
theorem dX0_init_5 : decode cX0_init 5 = .ok (.dload_n 1, 1) := by decide +kernel
theorem dX0_init_6 : decode cX0_init 6 = .ok (.putfield 7, 3) := by decide +kernel
theorem dX0_init_9 : decode cX0_init 9 = .ok (.aload_n 0, 1) := by decide +kernel
theorem dX0_init_10 : decode cX0_init 10 = .ok (.dload_n 3, 1) := by decide +kernel
theorem dX0_init_11 : decode cX0_init 11 = .ok (.putfield 13, 3) := by decide +kernel
theorem dX0_init_14 : decode cX0_init 14 = .ok (.aload_n 0, 1) := by decide +kernel
theorem dX0_init_15 : decode cX0_init 15 = .ok (.fload 5, 2) := by decide +kernel
theorem dX0_init_17 : decode cX0_init 17 = .ok (.putfield 16, 3) := by decide +kernel
theorem dX0_init_20 : decode cX0_init 20 = .ok (.aload_n 0, 1) := by decide +kernel
theorem dX0_init_21 : decode cX0_init 21 = .ok (.iload 6, 2) := by decide +kernel
theorem dX0_init_23 : decode cX0_init 23 = .ok (.putfield 20, 3) := by decide +kernel
theorem dX0_init_26 : decode cX0_init 26 = .ok (.aload_n 0, 1) := by decide +kernel
theorem dX0_init_27 : decode cX0_init 27 = .ok (.iload 7, 2) := by decide +kernel
theorem dX0_init_29 : decode cX0_init 29 = .ok (.putfield 24, 3) := by decide +kernel
theorem dX0_init_32 : decode cX0_init 32 = .ok (.aload_n 0, 1) := by decide +kernel
theorem dX0_init_33 : decode cX0_init 33 = .ok (.iload 8, 2) := by decide +kernel
theorem dX0_init_35 : decode cX0_init 35 = .ok (.putfield 28, 3) := by decide +kernel
theorem dX0_init_38 : decode cX0_init 38 = .ok (.return_, 1) := by decide +kernel
theorem dX0_leftByWashing_0 : decode cX0_leftByWashing 0 = .ok (.dconst 1, 1) := by decide +kernel
theorem dX0_leftByWashing_1 : decode cX0_leftByWashing 1 = .ok (.aload_n 0, 1) := by decide +kernel
theorem dX0_leftByWashing_2 : decode cX0_leftByWashing 2 = .ok (.getfield 16, 3) := by decide +kernel
theorem dX0_leftByWashing_5 : decode cX0_leftByWashing 5 = .ok (.f2d, 1) := by decide +kernel
theorem dX0_leftByWashing_6 : decode cX0_leftByWashing 6 = .ok (.dsub, 1) := by decide +kernel
theorem dX0_leftByWashing_7 : decode cX0_leftByWashing 7 = .ok (.dreturn, 1) := by decide +kernel
theorem dX1_init_0 : decode cX1_init 0 = .ok (.aload_n 0, 1) := by decide +kernel
theorem dX1_init_1 : decode cX1_init 1 = .ok (.invokespecial 1, 3) := by decide +kernel
theorem dX1_init_4 : decode cX1_init 4 = .ok (.aload_n 0, 1) := by decide +kernel
theorem dX1_init_5 : decode cX1_init 5 = .ok (.fload_n 1, 1) := by decide +kernel
theorem dX1_init_6 : decode cX1_init 6 = .ok (.putfield 7, 3) := by decide +kernel
theorem dX1_init_9 : decode cX1_init 9 = .ok (.return_, 1) := by decide +kernel
theorem dX2_init_0 : decode cX2_init 0 = .ok (.aload_n 0, 1) := by decide +kernel
theorem dX2_init_1 : decode cX2_init 1 = .ok (.invokespecial 3, 3) := by decide +kernel
theorem dX2_init_4 : decode cX2_init 4 = .ok (.aload_n 0, 1) := by decide +kernel
theorem dX2_init_5 : decode cX2_init 5 = .ok (.iconst 5, 1) := by decide +kernel
theorem dX2_init_6 : decode cX2_init 6 = .ok (.newarray .double, 2) := by decide +kernel
theorem dX2_init_8 : decode cX2_init 8 = .ok (.putfield 9, 3) := by decide +kernel
theorem dX2_init_11 : decode cX2_init 11 = .ok (.aload_n 0, 1) := by decide +kernel
theorem dX2_init_12 : decode cX2_init 12 = .ok (.iconst 0, 1) := by decide +kernel
theorem dX2_init_13 : decode cX2_init 13 = .ok (.putfield 15, 3) := by decide +kernel
theorem dX2_init_16 : decode cX2_init 16 = .ok (.aload_n 0, 1) := by decide +kernel
theorem dX2_init_17 : decode cX2_init 17 = .ok (.iconst (-1), 1) := by decide +kernel
theorem dX2_init_18 : decode cX2_init 18 = .ok (.putfield 19, 3) := by decide +kernel
theorem dX2_init_21 : decode cX2_init 21 = .ok (.aload_n 0, 1) := by decide +kernel
theorem dX2_init_22 : decode cX2_init 22 = .ok (.iconst (-1), 1) := by decide +kernel
theorem dX2_init_23 : decode cX2_init 23 = .ok (.putfield 22, 3) := by decide +kernel
theorem dX2_init_26 : decode cX2_init 26 = .ok (.aload_n 0, 1) := by decide +kernel
theorem dX2_init_27 : decode cX2_init 27 = .ok (.ldc2_w 25, 3) := by decide +kernel
theorem dX2_init_30 : decode cX2_init 30 = .ok (.putfield 27, 3) := by decide +kernel
theorem dX2_init_33 : decode cX2_init 33 = .ok (.aload_n 0, 1) := by decide +kernel
theorem dX2_init_34 : decode cX2_init 34 = .ok (.iconst (-1), 1) := by decide +kernel
theorem dX2_init_35 : decode cX2_init 35 = .ok (.putfield 31, 3) := by decide +kernel
theorem dX2_init_38 : decode cX2_init 38 = .ok (.aload_n 0, 1) := by decide +kernel
theorem dX2_init_39 : decode cX2_init 39 = .ok (.aload_n 1, 1) := by decide +kernel
theorem dX2_init_40 : decode cX2_init 40 = .ok (.putfield 34, 3) := by decide +kernel
theorem dX2_init_43 : decode cX2_init 43 = .ok (.aload_n 0, 1) := by decide +kernel
theorem dX2_init_44 : decode cX2_init 44 = .ok (.aload_n 2, 1) := by decide +kernel
theorem dX2_init_45 : decode cX2_init 45 = .ok (.putfield 38, 3) := by decide +kernel
theorem dX2_init_48 : decode cX2_init 48 = .ok (.aload_n 0, 1) := by decide +kernel
theorem dX2_init_49 : decode cX2_init 49 = .ok (.iload_n 3, 1) := by decide +kernel
theorem dX2_init_50 : decode cX2_init 50 = .ok (.putfield 42, 3) := by decide +kernel
theorem dX2_init_53 : decode cX2_init 53 = .ok (.return_, 1) := by decide +kernel
theorem dX2_keepCut_0 : decode cX2_keepCut 0 = .ok (.iconst 0, 1) := by decide +kernel
theorem dX2_keepCut_1 : decode cX2_keepCut 1 = .ok (.istore_n 3, 1) := by decide +kernel
theorem dX2_keepCut_2 : decode cX2_keepCut 2 = .ok (.iload_n 3, 1) := by decide +kernel
theorem dX2_keepCut_3 : decode cX2_keepCut 3 = .ok (.aload_n 0, 1) := by decide +kernel
theorem dX2_keepCut_4 : decode cX2_keepCut 4 = .ok (.getfield 38, 3) := by decide +kernel
theorem dX2_keepCut_7 : decode cX2_keepCut 7 = .ok (.getfield 45, 3) := by decide +kernel
theorem dX2_keepCut_10 : decode cX2_keepCut 10 = .ok (.if_icmp .ge 31, 3) := by decide +kernel
theorem dX2_keepCut_13 : decode cX2_keepCut 13 = .ok (.aload_n 0, 1) := by decide +kernel
theorem dX2_keepCut_14 : decode cX2_keepCut 14 = .ok (.getfield 9, 3) := by decide +kernel
theorem dX2_keepCut_17 : decode cX2_keepCut 17 = .ok (.iload_n 3, 1) := by decide +kernel
theorem dX2_keepCut_18 : decode cX2_keepCut 18 = .ok (.aload_n 0, 1) := by decide +kernel
theorem dX2_keepCut_19 : decode cX2_keepCut 19 = .ok (.getfield 38, 3) := by decide +kernel
theorem dX2_keepCut_22 : decode cX2_keepCut 22 = .ok (.getfield 50, 3) := by decide +kernel
theorem dX2_keepCut_25 : decode cX2_keepCut 25 = .ok (.iload_n 3, 1) := by decide +kernel
theorem dX2_keepCut_26 : decode cX2_keepCut 26 = .ok (.aaload, 1) := by decide +kernel
theorem dX2_keepCut_27 : decode cX2_keepCut 27 = .ok (.aload_n 0, 1) := by decide +kernel
theorem dX2_keepCut_28 : decode cX2_keepCut 28 = .ok (.getfield 34, 3) := by decide +kernel
theorem dX2_keepCut_31 : decode cX2_keepCut 31 = .ok (.invokevirtual 54, 3) := by decide +kernel
theorem dX2_keepCut_34 : decode cX2_keepCut 34 = .ok (.dastore, 1) := by decide +kernel
theorem dX2_keepCut_35 : decode cX2_keepCut 35 = .ok (.iinc 3 1, 3) := by decide +kernel
theorem dX2_keepCut_38 : decode cX2_keepCut 38 = .ok (.goto (-36), 3) := by decide +kernel
theorem dX2_keepCut_41 : decode cX2_keepCut 41 = .ok (.aload_n 0, 1) := by decide +kernel
theorem dX2_keepCut_42 : decode cX2_keepCut 42 = .ok (.iload_n 1, 1) := by decide +kernel
theorem dX2_keepCut_43 : decode cX2_keepCut 43 = .ok (.putfield 19, 3) := by decide +kernel
theorem dX2_keepCut_46 : decode cX2_keepCut 46 = .ok (.aload_n 0, 1) := by decide +kernel
theorem dX2_keepCut_47 : decode cX2_keepCut 47 = .ok (.iload_n 2, 1) := by decide +kernel
theorem dX2_keepCut_48 : decode cX2_keepCut 48 = .ok (.putfield 60, 3) := by decide +kernel
theorem dX2_keepCut_51 : decode cX2_keepCut 51 = .ok (.aload_n 0, 1) := by decide +kernel
theorem dX2_keepCut_52 : decode cX2_keepCut 52 = .ok (.iconst 1, 1) := by decide +kernel
theorem dX2_keepCut_53 : decode cX2_keepCut 53 = .ok (.putfield 15, 3) := by decide +kernel
theorem dX2_keepCut_56 : decode cX2_keepCut 56 = .ok (.return_, 1) := by decide +kernel
theorem dX2_tightness_0 : decode cX2_tightness 0 = .ok (.dconst 0, 1) := by decide +kernel
theorem dX2_tightness_1 : decode cX2_tightness 1 = .ok (.dstore_n 2, 1) := by decide +kernel
theorem dX2_tightness_2 : decode cX2_tightness 2 = .ok (.aload_n 0, 1) := by decide +kernel
theorem dX2_tightness_3 : decode cX2_tightness 3 = .ok (.getfield 15, 3) := by decide +kernel
theorem dX2_tightness_6 : decode cX2_tightness 6 = .ok (.ifCond .ne 5, 3) := by decide +kernel
theorem dX2_tightness_9 : decode cX2_tightness 9 = .ok (.dload_n 2, 1) := by decide +kernel
theorem dX2_tightness_10 : decode cX2_tightness 10 = .ok (.dreturn, 1) := by decide +kernel
theorem dX2_tightness_11 : decode cX2_tightness 11 = .ok (.iconst 0, 1) := by decide +kernel
theorem dX2_tightness_12 : decode cX2_tightness 12 = .ok (.istore 4, 2) := by decide +kernel
theorem dX2_tightness_14 : decode cX2_tightness 14 = .ok (.iload 4, 2) := by decide +kernel
theorem dX2_tightness_16 : decode cX2_tightness 16 = .ok (.aload_n 0, 1) := by decide +kernel
theorem dX2_tightness_17 : decode cX2_tightness 17 = .ok (.getfield 38, 3) := by decide +kernel
theorem dX2_tightness_20 : decode cX2_tightness 20 = .ok (.getfield 45, 3) := by decide +kernel
theorem dX2_tightness_23 : decode cX2_tightness 23 = .ok (.if_icmp .ge 65, 3) := by decide +kernel
theorem dX2_tightness_26 : decode cX2_tightness 26 = .ok (.aload_n 0, 1) := by decide +kernel
theorem dX2_tightness_27 : decode cX2_tightness 27 = .ok (.getfield 38, 3) := by decide +kernel
theorem dX2_tightness_30 : decode cX2_tightness 30 = .ok (.getfield 50, 3) := by decide +kernel
theorem dX2_tightness_33 : decode cX2_tightness 33 = .ok (.iload 4, 2) := by decide +kernel
theorem dX2_tightness_35 : decode cX2_tightness 35 = .ok (.aaload, 1) := by decide +kernel
theorem dX2_tightness_36 : decode cX2_tightness 36 = .ok (.aload_n 0, 1) := by decide +kernel
theorem dX2_tightness_37 : decode cX2_tightness 37 = .ok (.getfield 34, 3) := by decide +kernel
theorem dX2_tightness_40 : decode cX2_tightness 40 = .ok (.invokevirtual 54, 3) := by decide +kernel
theorem dX2_tightness_43 : decode cX2_tightness 43 = .ok (.aload_n 0, 1) := by decide +kernel
theorem dX2_tightness_44 : decode cX2_tightness 44 = .ok (.getfield 9, 3) := by decide +kernel
theorem dX2_tightness_47 : decode cX2_tightness 47 = .ok (.iload 4, 2) := by decide +kernel
theorem dX2_tightness_49 : decode cX2_tightness 49 = .ok (.daload, 1) := by decide +kernel
theorem dX2_tightness_50 : decode cX2_tightness 50 = .ok (.dsub, 1) := by decide +kernel
theorem dX2_tightness_51 : decode cX2_tightness 51 = .ok (.dstore 5, 2) := by decide +kernel
theorem dX2_tightness_53 : decode cX2_tightness 53 = .ok (.iload 4, 2) := by decide +kernel
theorem dX2_tightness_55 : decode cX2_tightness 55 = .ok (.ifCond .eq 24, 3) := by decide +kernel
theorem dX2_tightness_58 : decode cX2_tightness 58 = .ok (.iload_n 1, 1) := by decide +kernel
theorem dX2_tightness_59 : decode cX2_tightness 59 = .ok (.ifCond .eq 13, 3) := by decide +kernel
theorem dX2_tightness_62 : decode cX2_tightness 62 = .ok (.dload 5, 2) := by decide +kernel
theorem dX2_tightness_64 : decode cX2_tightness 64 = .ok (.dload_n 2, 1) := by decide +kernel
theorem dX2_tightness_65 : decode cX2_tightness 65 = .ok (.dcmp .l, 1) := by decide +kernel
theorem dX2_tightness_66 : decode cX2_tightness 66 = .ok (.ifCond .le 16, 3) := by decide +kernel
theorem dX2_tightness_69 : decode cX2_tightness 69 = .ok (.goto 10, 3) := by decide +kernel
theorem dX2_tightness_72 : decode cX2_tightness 72 = .ok (.dload 5, 2) := by decide +kernel
theorem dX2_tightness_74 : decode cX2_tightness 74 = .ok (.dload_n 2, 1) := by decide +kernel
theorem dX2_tightness_75 : decode cX2_tightness 75 = .ok (.dcmp .g, 1) := by decide +kernel
theorem dX2_tightness_76 : decode cX2_tightness 76 = .ok (.ifCond .ge 6, 3) := by decide +kernel
theorem dX2_tightness_79 : decode cX2_tightness 79 = .ok (.dload 5, 2) := by decide +kernel
theorem dX2_tightness_81 : decode cX2_tightness 81 = .ok (.dstore_n 2, 1) := by decide +kernel
theorem dX2_tightness_82 : decode cX2_tightness 82 = .ok (.iinc 4 1, 3) := by decide +kernel
theorem dX2_tightness_85 : decode cX2_tightness 85 = .ok (.goto (-71), 3) := by decide +kernel
theorem dX2_tightness_88 : decode cX2_tightness 88 = .ok (.dload_n 2, 1) := by decide +kernel
theorem dX2_tightness_89 : decode cX2_tightness 89 = .ok (.dreturn, 1) := by decide +kernel
theorem dX2_judge_0 : decode cX2_judge 0 = .ok (.aload_n 0, 1) := by decide +kernel
theorem dX2_judge_1 : decode cX2_judge 1 = .ok (.iconst 1, 1) := by decide +kernel
theorem dX2_judge_2 : decode cX2_judge 2 = .ok (.invokevirtual 63, 3) := by decide +kernel
theorem dX2_judge_5 : decode cX2_judge 5 = .ok (.dstore_n 1, 1) := by decide +kernel
theorem dX2_judge_6 : decode cX2_judge 6 = .ok (.dload_n 1, 1) := by decide +kernel
theorem dX2_judge_7 : decode cX2_judge 7 = .ok (.ldc2_w 67, 3) := by decide +kernel
theorem dX2_judge_10 : decode cX2_judge 10 = .ok (.dcmp .l, 1) := by decide +kernel
theorem dX2_judge_11 : decode cX2_judge 11 = .ok (.ifCond .le 5, 3) := by decide +kernel
theorem dX2_judge_14 : decode cX2_judge 14 = .ok (.iconst 3, 1) := by decide +kernel
theorem dX2_judge_15 : decode cX2_judge 15 = .ok (.ireturn, 1) := by decide +kernel
theorem dX2_judge_16 : decode cX2_judge 16 = .ok (.dload_n 1, 1) := by decide +kernel
theorem dX2_judge_17 : decode cX2_judge 17 = .ok (.ldc2_w 69, 3) := by decide +kernel
theorem dX2_judge_20 : decode cX2_judge 20 = .ok (.dcmp .l, 1) := by decide +kernel
theorem dX2_judge_21 : decode cX2_judge 21 = .ok (.ifCond .le 5, 3) := by decide +kernel
theorem dX2_judge_24 : decode cX2_judge 24 = .ok (.iconst 1, 1) := by decide +kernel
theorem dX2_judge_25 : decode cX2_judge 25 = .ok (.ireturn, 1) := by decide +kernel
theorem dX2_judge_26 : decode cX2_judge 26 = .ok (.aload_n 0, 1) := by decide +kernel
theorem dX2_judge_27 : decode cX2_judge 27 = .ok (.iconst 0, 1) := by decide +kernel
theorem dX2_judge_28 : decode cX2_judge 28 = .ok (.invokevirtual 63, 3) := by decide +kernel
theorem dX2_judge_31 : decode cX2_judge 31 = .ok (.ldc2_w 71, 3) := by decide +kernel
theorem dX2_judge_34 : decode cX2_judge 34 = .ok (.dcmp .g, 1) := by decide +kernel
theorem dX2_judge_35 : decode cX2_judge 35 = .ok (.ifCond .ge 7, 3) := by decide +kernel
theorem dX2_judge_38 : decode cX2_judge 38 = .ok (.iconst 2, 1) := by decide +kernel
theorem dX2_judge_39 : decode cX2_judge 39 = .ok (.goto 4, 3) := by decide +kernel
theorem dX2_judge_42 : decode cX2_judge 42 = .ok (.iconst 0, 1) := by decide +kernel
theorem dX2_judge_43 : decode cX2_judge 43 = .ok (.ireturn, 1) := by decide +kernel
theorem dX3_init_0 : decode cX3_init 0 = .ok (.aload_n 0, 1) := by decide +kernel
theorem dX3_init_1 : decode cX3_init 1 = .ok (.invokespecial 1, 3) := by decide +kernel
theorem dX3_init_4 : decode cX3_init 4 = .ok (.aload_n 0, 1) := by decide +kernel
theorem dX3_init_5 : decode cX3_init 5 = .ok (.iload_n 1, 1) := by decide +kernel
theorem dX3_init_6 : decode cX3_init 6 = .ok (.putfield 7, 3) := by decide +kernel
theorem dX3_init_9 : decode cX3_init 9 = .ok (.aload_n 0, 1) := by decide +kernel
theorem dX3_init_10 : decode cX3_init 10 = .ok (.iload_n 2, 1) := by decide +kernel
theorem dX3_init_11 : decode cX3_init 11 = .ok (.putfield 13, 3) := by decide +kernel
theorem dX3_init_14 : decode cX3_init 14 = .ok (.aload_n 0, 1) := by decide +kernel
theorem dX3_init_15 : decode cX3_init 15 = .ok (.iload_n 3, 1) := by decide +kernel
theorem dX3_init_16 : decode cX3_init 16 = .ok (.putfield 16, 3) := by decide +kernel
theorem dX3_init_19 : decode cX3_init 19 = .ok (.aload_n 0, 1) := by decide +kernel
theorem dX3_init_20 : decode cX3_init 20 = .ok (.iload 4, 2) := by decide +kernel
theorem dX3_init_22 : decode cX3_init 22 = .ok (.putfield 19, 3) := by decide +kernel
theorem dX3_init_25 : decode cX3_init 25 = .ok (.aload_n 0, 1) := by decide +kernel
theorem dX3_init_26 : decode cX3_init 26 = .ok (.iload 5, 2) := by decide +kernel
theorem dX3_init_28 : decode cX3_init 28 = .ok (.putfield 22, 3) := by decide +kernel
theorem dX3_init_31 : decode cX3_init 31 = .ok (.return_, 1) := by decide +kernel
theorem dX3_read_0 : decode cX3_read 0 = .ok (.iload_n 1, 1) := by decide +kernel
theorem dX3_read_1 : decode cX3_read 1 = .ok (.tableswitch 42 0 2 #[27, 32, 37], 27) := by decide +kernel
theorem dX3_read_28 : decode cX3_read 28 = .ok (.aload_n 0, 1) := by decide +kernel
theorem dX3_read_29 : decode cX3_read 29 = .ok (.getfield 13, 3) := by decide +kernel
theorem dX3_read_32 : decode cX3_read 32 = .ok (.ireturn, 1) := by decide +kernel
theorem dX3_read_33 : decode cX3_read 33 = .ok (.aload_n 0, 1) := by decide +kernel
theorem dX3_read_34 : decode cX3_read 34 = .ok (.getfield 16, 3) := by decide +kernel
theorem dX3_read_37 : decode cX3_read 37 = .ok (.ireturn, 1) := by decide +kernel
theorem dX3_read_38 : decode cX3_read 38 = .ok (.aload_n 0, 1) := by decide +kernel
theorem dX3_read_39 : decode cX3_read 39 = .ok (.getfield 19, 3) := by decide +kernel
theorem dX3_read_42 : decode cX3_read 42 = .ok (.ireturn, 1) := by decide +kernel
theorem dX3_read_43 : decode cX3_read 43 = .ok (.aload_n 0, 1) := by decide +kernel
theorem dX3_read_44 : decode cX3_read 44 = .ok (.getfield 22, 3) := by decide +kernel
theorem dX3_read_47 : decode cX3_read 47 = .ok (.ireturn, 1) := by decide +kernel
theorem dX3_write_0 : decode cX3_write 0 = .ok (.iload_n 1, 1) := by decide +kernel
theorem dX3_write_1 : decode cX3_write 1 = .ok (.tableswitch 51 0 2 #[27, 35, 43], 27) := by decide +kernel
theorem dX3_write_28 : decode cX3_write 28 = .ok (.aload_n 0, 1) := by decide +kernel
theorem dX3_write_29 : decode cX3_write 29 = .ok (.iload_n 2, 1) := by decide +kernel
theorem dX3_write_30 : decode cX3_write 30 = .ok (.putfield 13, 3) := by decide +kernel
theorem dX3_write_33 : decode cX3_write 33 = .ok (.goto 24, 3) := by decide +kernel
theorem dX3_write_36 : decode cX3_write 36 = .ok (.aload_n 0, 1) := by decide +kernel
theorem dX3_write_37 : decode cX3_write 37 = .ok (.iload_n 2, 1) := by decide +kernel
theorem dX3_write_38 : decode cX3_write 38 = .ok (.putfield 16, 3) := by decide +kernel
theorem dX3_write_41 : decode cX3_write 41 = .ok (.goto 16, 3) := by decide +kernel
theorem dX3_write_44 : decode cX3_write 44 = .ok (.aload_n 0, 1) := by decide +kernel
theorem dX3_write_45 : decode cX3_write 45 = .ok (.iload_n 2, 1) := by decide +kernel
theorem dX3_write_46 : decode cX3_write 46 = .ok (.putfield 19, 3) := by decide +kernel
theorem dX3_write_49 : decode cX3_write 49 = .ok (.goto 8, 3) := by decide +kernel
theorem dX3_write_52 : decode cX3_write 52 = .ok (.aload_n 0, 1) := by decide +kernel
theorem dX3_write_53 : decode cX3_write 53 = .ok (.iload_n 2, 1) := by decide +kernel
theorem dX3_write_54 : decode cX3_write 54 = .ok (.putfield 22, 3) := by decide +kernel
theorem dX3_write_57 : decode cX3_write 57 = .ok (.return_, 1) := by decide +kernel
theorem dX4_init_0 : decode cX4_init 0 = .ok (.aload_n 0, 1) := by decide +kernel
theorem dX4_init_1 : decode cX4_init 1 = .ok (.invokespecial 1, 3) := by decide +kernel
theorem dX4_init_4 : decode cX4_init 4 = .ok (.aload_n 0, 1) := by decide +kernel
theorem dX4_init_5 : decode cX4_init 5 = .ok (.iload_n 1, 1) := by decide +kernel
theorem dX4_init_6 : decode cX4_init 6 = .ok (.putfield 7, 3) := by decide +kernel
theorem dX4_init_9 : decode cX4_init 9 = .ok (.aload_n 0, 1) := by decide +kernel
theorem dX4_init_10 : decode cX4_init 10 = .ok (.iload_n 2, 1) := by decide +kernel
theorem dX4_init_11 : decode cX4_init 11 = .ok (.putfield 13, 3) := by decide +kernel
theorem dX4_init_14 : decode cX4_init 14 = .ok (.aload_n 0, 1) := by decide +kernel
theorem dX4_init_15 : decode cX4_init 15 = .ok (.dload_n 3, 1) := by decide +kernel
theorem dX4_init_16 : decode cX4_init 16 = .ok (.putfield 16, 3) := by decide +kernel
theorem dX4_init_19 : decode cX4_init 19 = .ok (.aload_n 0, 1) := by decide +kernel
theorem dX4_init_20 : decode cX4_init 20 = .ok (.iload 5, 2) := by decide +kernel
theorem dX4_init_22 : decode cX4_init 22 = .ok (.putfield 20, 3) := by decide +kernel
theorem dX4_init_25 : decode cX4_init 25 = .ok (.return_, 1) := by decide +kernel
theorem dX4_bodyFor_0 : decode cX4_bodyFor 0 = .ok (.aload_n 1, 1) := by decide +kernel
theorem dX4_bodyFor_1 : decode cX4_bodyFor 1 = .ok (.aload_n 0, 1) := by decide +kernel
theorem dX4_bodyFor_2 : decode cX4_bodyFor 2 = .ok (.getfield 7, 3) := by decide +kernel
theorem dX4_bodyFor_5 : decode cX4_bodyFor 5 = .ok (.invokestatic 23, 3) := by decide +kernel
theorem dX4_bodyFor_8 : decode cX4_bodyFor 8 = .ok (.aload_n 0, 1) := by decide +kernel
theorem dX4_bodyFor_9 : decode cX4_bodyFor 9 = .ok (.getfield 16, 3) := by decide +kernel
theorem dX4_bodyFor_12 : decode cX4_bodyFor 12 = .ok (.dadd, 1) := by decide +kernel
theorem dX4_bodyFor_13 : decode cX4_bodyFor 13 = .ok (.dreturn, 1) := by decide +kernel
theorem dX4_tallFor_0 : decode cX4_tallFor 0 = .ok (.aload_n 1, 1) := by decide +kernel
theorem dX4_tallFor_1 : decode cX4_tallFor 1 = .ok (.aload_n 0, 1) := by decide +kernel
theorem dX4_tallFor_2 : decode cX4_tallFor 2 = .ok (.getfield 13, 3) := by decide +kernel
theorem dX4_tallFor_5 : decode cX4_tallFor 5 = .ok (.invokestatic 23, 3) := by decide +kernel
theorem dX4_tallFor_8 : decode cX4_tallFor 8 = .ok (.dreturn, 1) := by decide +kernel
theorem dX4_partOf_0 : decode cX4_partOf 0 = .ok (.aload_n 0, 1) := by decide +kernel
theorem dX4_partOf_1 : decode cX4_partOf 1 = .ok (.iload_n 1, 1) := by decide +kernel
theorem dX4_partOf_2 : decode cX4_partOf 2 = .ok (.bipush 10, 2) := by decide +kernel
theorem dX4_partOf_4 : decode cX4_partOf 4 = .ok (.idiv, 1) := by decide +kernel
theorem dX4_partOf_5 : decode cX4_partOf 5 = .ok (.invokevirtual 27, 3) := by decide +kernel
theorem dX4_partOf_8 : decode cX4_partOf 8 = .ok (.iload_n 1, 1) := by decide +kernel
theorem dX4_partOf_9 : decode cX4_partOf 9 = .ok (.bipush 10, 2) := by decide +kernel
theorem dX4_partOf_11 : decode cX4_partOf 11 = .ok (.irem, 1) := by decide +kernel
theorem dX4_partOf_12 : decode cX4_partOf 12 = .ok (.imul, 1) := by decide +kernel
theorem dX4_partOf_13 : decode cX4_partOf 13 = .ok (.i2d, 1) := by decide +kernel
theorem dX4_partOf_14 : decode cX4_partOf 14 = .ok (.ldc2_w 33, 3) := by decide +kernel
theorem dX4_partOf_17 : decode cX4_partOf 17 = .ok (.ddiv, 1) := by decide +kernel
theorem dX4_partOf_18 : decode cX4_partOf 18 = .ok (.dreturn, 1) := by decide +kernel
theorem dX5_init_0 : decode cX5_init 0 = .ok (.aload_n 0, 1) := by decide +kernel
theorem dX5_init_1 : decode cX5_init 1 = .ok (.invokespecial 3, 3) := by decide +kernel
theorem dX5_init_4 : decode cX5_init 4 = .ok (.aload_n 0, 1) := by decide +kernel
theorem dX5_init_5 : decode cX5_init 5 = .ok (.iconst 5, 1) := by decide +kernel
theorem dX5_init_6 : decode cX5_init 6 = .ok (.anewarray 9, 3) := by decide +kernel
theorem dX5_init_9 : decode cX5_init 9 = .ok (.putfield 11, 3) := by decide +kernel
theorem dX5_init_12 : decode cX5_init 12 = .ok (.aload_n 0, 1) := by decide +kernel
theorem dX5_init_13 : decode cX5_init 13 = .ok (.iload_n 1, 1) := by decide +kernel
theorem dX5_init_14 : decode cX5_init 14 = .ok (.putfield 17, 3) := by decide +kernel
theorem dX5_init_17 : decode cX5_init 17 = .ok (.return_, 1) := by decide +kernel
theorem dX6_init_0 : decode cX6_init 0 = .ok (.aload_n 0, 1) := by decide +kernel
theorem dX6_init_1 : decode cX6_init 1 = .ok (.invokespecial 3, 3) := by decide +kernel
theorem dX6_init_4 : decode cX6_init 4 = .ok (.aload_n 0, 1) := by decide +kernel
theorem dX6_init_5 : decode cX6_init 5 = .ok (.bipush 40, 2) := by decide +kernel
theorem dX6_init_7 : decode cX6_init 7 = .ok (.newarray .double, 2) := by decide +kernel
theorem dX6_init_9 : decode cX6_init 9 = .ok (.putfield 9, 3) := by decide +kernel
theorem dX6_init_12 : decode cX6_init 12 = .ok (.aload_n 0, 1) := by decide +kernel
theorem dX6_init_13 : decode cX6_init 13 = .ok (.bipush 40, 2) := by decide +kernel
theorem dX6_init_15 : decode cX6_init 15 = .ok (.newarray .double, 2) := by decide +kernel
theorem dX6_init_17 : decode cX6_init 17 = .ok (.putfield 15, 3) := by decide +kernel
theorem dX6_init_20 : decode cX6_init 20 = .ok (.aload_n 0, 1) := by decide +kernel
theorem dX6_init_21 : decode cX6_init 21 = .ok (.bipush 40, 2) := by decide +kernel
theorem dX6_init_23 : decode cX6_init 23 = .ok (.newarray .double, 2) := by decide +kernel
theorem dX6_init_25 : decode cX6_init 25 = .ok (.putfield 18, 3) := by decide +kernel
theorem dX6_init_28 : decode cX6_init 28 = .ok (.aload_n 0, 1) := by decide +kernel
theorem dX6_init_29 : decode cX6_init 29 = .ok (.bipush 40, 2) := by decide +kernel
theorem dX6_init_31 : decode cX6_init 31 = .ok (.newarray .double, 2) := by decide +kernel
theorem dX6_init_33 : decode cX6_init 33 = .ok (.putfield 21, 3) := by decide +kernel
theorem dX6_init_36 : decode cX6_init 36 = .ok (.return_, 1) := by decide +kernel
theorem dX6_spread_0 : decode cX6_spread 0 = .ok (.aload_n 0, 1) := by decide +kernel
theorem dX6_spread_1 : decode cX6_spread 1 = .ok (.iconst 0, 1) := by decide +kernel
theorem dX6_spread_2 : decode cX6_spread 2 = .ok (.putfield 24, 3) := by decide +kernel
theorem dX6_spread_5 : decode cX6_spread 5 = .ok (.aload_n 0, 1) := by decide +kernel
theorem dX6_spread_6 : decode cX6_spread 6 = .ok (.iconst 0, 1) := by decide +kernel
theorem dX6_spread_7 : decode cX6_spread 7 = .ok (.putfield 28, 3) := by decide +kernel
theorem dX6_spread_10 : decode cX6_spread 10 = .ok (.aload_n 0, 1) := by decide +kernel
theorem dX6_spread_11 : decode cX6_spread 11 = .ok (.iconst 0, 1) := by decide +kernel
theorem dX6_spread_12 : decode cX6_spread 12 = .ok (.putfield 31, 3) := by decide +kernel
theorem dX6_spread_15 : decode cX6_spread 15 = .ok (.aload_n 0, 1) := by decide +kernel
theorem dX6_spread_16 : decode cX6_spread 16 = .ok (.dconst 0, 1) := by decide +kernel
theorem dX6_spread_17 : decode cX6_spread 17 = .ok (.putfield 34, 3) := by decide +kernel
theorem dX6_spread_20 : decode cX6_spread 20 = .ok (.aload_n 0, 1) := by decide +kernel
theorem dX6_spread_21 : decode cX6_spread 21 = .ok (.dconst 0, 1) := by decide +kernel
theorem dX6_spread_22 : decode cX6_spread 22 = .ok (.putfield 38, 3) := by decide +kernel
theorem dX6_spread_25 : decode cX6_spread 25 = .ok (.aload_n 0, 1) := by decide +kernel
theorem dX6_spread_26 : decode cX6_spread 26 = .ok (.aload_n 3, 1) := by decide +kernel
theorem dX6_spread_27 : decode cX6_spread 27 = .ok (.getfield 41, 3) := by decide +kernel
theorem dX6_spread_30 : decode cX6_spread 30 = .ok (.putfield 46, 3) := by decide +kernel
theorem dX6_spread_33 : decode cX6_spread 33 = .ok (.aload_n 0, 1) := by decide +kernel
theorem dX6_spread_34 : decode cX6_spread 34 = .ok (.aload_n 3, 1) := by decide +kernel
theorem dX6_spread_35 : decode cX6_spread 35 = .ok (.getfield 47, 3) := by decide +kernel
theorem dX6_spread_38 : decode cX6_spread 38 = .ok (.putfield 50, 3) := by decide +kernel
theorem dX6_spread_41 : decode cX6_spread 41 = .ok (.aload_n 0, 1) := by decide +kernel
theorem dX6_spread_42 : decode cX6_spread 42 = .ok (.aload_n 1, 1) := by decide +kernel
theorem dX6_spread_43 : decode cX6_spread 43 = .ok (.aload_n 3, 1) := by decide +kernel
theorem dX6_spread_44 : decode cX6_spread 44 = .ok (.invokevirtual 51, 3) := by decide +kernel
theorem dX6_spread_47 : decode cX6_spread 47 = .ok (.aload_n 2, 1) := by decide +kernel
theorem dX6_spread_48 : decode cX6_spread 48 = .ok (.ifnull 9, 3) := by decide +kernel
theorem dX6_spread_51 : decode cX6_spread 51 = .ok (.aload_n 0, 1) := by decide +kernel
theorem dX6_spread_52 : decode cX6_spread 52 = .ok (.aload_n 2, 1) := by decide +kernel
theorem dX6_spread_53 : decode cX6_spread 53 = .ok (.aload_n 3, 1) := by decide +kernel
theorem dX6_spread_54 : decode cX6_spread 54 = .ok (.invokevirtual 51, 3) := by decide +kernel
theorem dX6_spread_57 : decode cX6_spread 57 = .ok (.iconst 0, 1) := by decide +kernel
theorem dX6_spread_58 : decode cX6_spread 58 = .ok (.istore 4, 2) := by decide +kernel
theorem dX6_spread_60 : decode cX6_spread 60 = .ok (.iload 4, 2) := by decide +kernel
theorem dX6_spread_62 : decode cX6_spread 62 = .ok (.aload_n 0, 1) := by decide +kernel
theorem dX6_spread_63 : decode cX6_spread 63 = .ok (.getfield 24, 3) := by decide +kernel
theorem dX6_spread_66 : decode cX6_spread 66 = .ok (.if_icmp .ge 68, 3) := by decide +kernel
theorem dX6_spread_69 : decode cX6_spread 69 = .ok (.aload_n 0, 1) := by decide +kernel
theorem dX6_spread_70 : decode cX6_spread 70 = .ok (.aload_n 0, 1) := by decide +kernel
theorem dX6_spread_71 : decode cX6_spread 71 = .ok (.getfield 15, 3) := by decide +kernel
theorem dX6_spread_74 : decode cX6_spread 74 = .ok (.iload 4, 2) := by decide +kernel
theorem dX6_spread_76 : decode cX6_spread 76 = .ok (.daload, 1) := by decide +kernel
theorem dX6_spread_77 : decode cX6_spread 77 = .ok (.aload_n 0, 1) := by decide +kernel
theorem dX6_spread_78 : decode cX6_spread 78 = .ok (.getfield 9, 3) := by decide +kernel
theorem dX6_spread_81 : decode cX6_spread 81 = .ok (.iload 4, 2) := by decide +kernel
theorem dX6_spread_83 : decode cX6_spread 83 = .ok (.daload, 1) := by decide +kernel
theorem dX6_spread_84 : decode cX6_spread 84 = .ok (.aload_n 3, 1) := by decide +kernel
theorem dX6_spread_85 : decode cX6_spread 85 = .ok (.getfield 55, 3) := by decide +kernel
theorem dX6_spread_88 : decode cX6_spread 88 = .ok (.ifCond .ne 7, 3) := by decide +kernel
theorem dX6_spread_91 : decode cX6_spread 91 = .ok (.iconst 1, 1) := by decide +kernel
theorem dX6_spread_92 : decode cX6_spread 92 = .ok (.goto 4, 3) := by decide +kernel
theorem dX6_spread_95 : decode cX6_spread 95 = .ok (.iconst 0, 1) := by decide +kernel
theorem dX6_spread_96 : decode cX6_spread 96 = .ok (.invokevirtual 59, 3) := by decide +kernel
theorem dX6_spread_99 : decode cX6_spread 99 = .ok (.ifCond .ne 5, 3) := by decide +kernel
theorem dX6_spread_102 : decode cX6_spread 102 = .ok (.iconst 0, 1) := by decide +kernel
theorem dX6_spread_103 : decode cX6_spread 103 = .ok (.ireturn, 1) := by decide +kernel
theorem dX6_spread_104 : decode cX6_spread 104 = .ok (.aload_n 0, 1) := by decide +kernel
theorem dX6_spread_105 : decode cX6_spread 105 = .ok (.aload_n 0, 1) := by decide +kernel
theorem dX6_spread_106 : decode cX6_spread 106 = .ok (.getfield 38, 3) := by decide +kernel
theorem dX6_spread_109 : decode cX6_spread 109 = .ok (.aload_n 0, 1) := by decide +kernel
theorem dX6_spread_110 : decode cX6_spread 110 = .ok (.getfield 15, 3) := by decide +kernel
theorem dX6_spread_113 : decode cX6_spread 113 = .ok (.iload 4, 2) := by decide +kernel
theorem dX6_spread_115 : decode cX6_spread 115 = .ok (.daload, 1) := by decide +kernel
theorem dX6_spread_116 : decode cX6_spread 116 = .ok (.aload_n 0, 1) := by decide +kernel
theorem dX6_spread_117 : decode cX6_spread 117 = .ok (.getfield 9, 3) := by decide +kernel
theorem dX6_spread_120 : decode cX6_spread 120 = .ok (.iload 4, 2) := by decide +kernel
theorem dX6_spread_122 : decode cX6_spread 122 = .ok (.daload, 1) := by decide +kernel
theorem dX6_spread_123 : decode cX6_spread 123 = .ok (.dmul, 1) := by decide +kernel
theorem dX6_spread_124 : decode cX6_spread 124 = .ok (.dadd, 1) := by decide +kernel
theorem dX6_spread_125 : decode cX6_spread 125 = .ok (.putfield 38, 3) := by decide +kernel
theorem dX6_spread_128 : decode cX6_spread 128 = .ok (.iinc 4 1, 3) := by decide +kernel
theorem dX6_spread_131 : decode cX6_spread 131 = .ok (.goto (-71), 3) := by decide +kernel
theorem dX6_spread_134 : decode cX6_spread 134 = .ok (.iconst 1, 1) := by decide +kernel
theorem dX6_spread_135 : decode cX6_spread 135 = .ok (.ireturn, 1) := by decide +kernel
theorem dX6_waste_0 : decode cX6_waste 0 = .ok (.aload_n 0, 1) := by decide +kernel
theorem dX6_waste_1 : decode cX6_waste 1 = .ok (.getfield 34, 3) := by decide +kernel
theorem dX6_waste_4 : decode cX6_waste 4 = .ok (.aload_n 0, 1) := by decide +kernel
theorem dX6_waste_5 : decode cX6_waste 5 = .ok (.getfield 46, 3) := by decide +kernel
theorem dX6_waste_8 : decode cX6_waste 8 = .ok (.dmul, 1) := by decide +kernel
theorem dX6_waste_9 : decode cX6_waste 9 = .ok (.dstore_n 1, 1) := by decide +kernel
theorem dX6_waste_10 : decode cX6_waste 10 = .ok (.dload_n 1, 1) := by decide +kernel
theorem dX6_waste_11 : decode cX6_waste 11 = .ok (.dconst 0, 1) := by decide +kernel
theorem dX6_waste_12 : decode cX6_waste 12 = .ok (.dcmp .l, 1) := by decide +kernel
theorem dX6_waste_13 : decode cX6_waste 13 = .ok (.ifCond .le 14, 3) := by decide +kernel
theorem dX6_waste_16 : decode cX6_waste 16 = .ok (.dconst 1, 1) := by decide +kernel
theorem dX6_waste_17 : decode cX6_waste 17 = .ok (.aload_n 0, 1) := by decide +kernel
theorem dX6_waste_18 : decode cX6_waste 18 = .ok (.getfield 38, 3) := by decide +kernel
theorem dX6_waste_21 : decode cX6_waste 21 = .ok (.dload_n 1, 1) := by decide +kernel
theorem dX6_waste_22 : decode cX6_waste 22 = .ok (.ddiv, 1) := by decide +kernel
theorem dX6_waste_23 : decode cX6_waste 23 = .ok (.dsub, 1) := by decide +kernel
theorem dX6_waste_24 : decode cX6_waste 24 = .ok (.goto 4, 3) := by decide +kernel
theorem dX6_waste_27 : decode cX6_waste 27 = .ok (.dconst 0, 1) := by decide +kernel
theorem dX6_waste_28 : decode cX6_waste 28 = .ok (.dreturn, 1) := by decide +kernel
theorem dX6_gather_0 : decode cX6_gather 0 = .ok (.aload_n 2, 1) := by decide +kernel
theorem dX6_gather_1 : decode cX6_gather 1 = .ok (.invokevirtual 63, 3) := by decide +kernel
theorem dX6_gather_4 : decode cX6_gather 4 = .ok (.dstore_n 3, 1) := by decide +kernel
theorem dX6_gather_5 : decode cX6_gather 5 = .ok (.iconst 0, 1) := by decide +kernel
theorem dX6_gather_6 : decode cX6_gather 6 = .ok (.istore 5, 2) := by decide +kernel
theorem dX6_gather_8 : decode cX6_gather 8 = .ok (.iload 5, 2) := by decide +kernel
theorem dX6_gather_10 : decode cX6_gather 10 = .ok (.aload_n 1, 1) := by decide +kernel
theorem dX6_gather_11 : decode cX6_gather 11 = .ok (.getfield 67, 3) := by decide +kernel
theorem dX6_gather_14 : decode cX6_gather 14 = .ok (.getfield 73, 3) := by decide +kernel
theorem dX6_gather_17 : decode cX6_gather 17 = .ok (.if_icmp .ge 82, 3) := by decide +kernel
theorem dX6_gather_20 : decode cX6_gather 20 = .ok (.aload_n 1, 1) := by decide +kernel
theorem dX6_gather_21 : decode cX6_gather 21 = .ok (.getfield 67, 3) := by decide +kernel
theorem dX6_gather_24 : decode cX6_gather 24 = .ok (.getfield 78, 3) := by decide +kernel
theorem dX6_gather_27 : decode cX6_gather 27 = .ok (.iload 5, 2) := by decide +kernel
theorem dX6_gather_29 : decode cX6_gather 29 = .ok (.aaload, 1) := by decide +kernel
theorem dX6_gather_30 : decode cX6_gather 30 = .ok (.astore 6, 2) := by decide +kernel
theorem dX6_gather_32 : decode cX6_gather 32 = .ok (.aload 6, 2) := by decide +kernel
theorem dX6_gather_34 : decode cX6_gather 34 = .ok (.aload_n 1, 1) := by decide +kernel
theorem dX6_gather_35 : decode cX6_gather 35 = .ok (.getfield 82, 3) := by decide +kernel
theorem dX6_gather_38 : decode cX6_gather 38 = .ok (.invokevirtual 86, 3) := by decide +kernel
theorem dX6_gather_41 : decode cX6_gather 41 = .ok (.ldc2_w 92, 3) := by decide +kernel
theorem dX6_gather_44 : decode cX6_gather 44 = .ok (.dadd, 1) := by decide +kernel
theorem dX6_gather_45 : decode cX6_gather 45 = .ok (.dload_n 3, 1) := by decide +kernel
theorem dX6_gather_46 : decode cX6_gather 46 = .ok (.ddiv, 1) := by decide +kernel
theorem dX6_gather_47 : decode cX6_gather 47 = .ok (.dstore 7, 2) := by decide +kernel
theorem dX6_gather_49 : decode cX6_gather 49 = .ok (.aload 6, 2) := by decide +kernel
theorem dX6_gather_51 : decode cX6_gather 51 = .ok (.aload_n 1, 1) := by decide +kernel
theorem dX6_gather_52 : decode cX6_gather 52 = .ok (.getfield 82, 3) := by decide +kernel
theorem dX6_gather_55 : decode cX6_gather 55 = .ok (.invokevirtual 94, 3) := by decide +kernel
theorem dX6_gather_58 : decode cX6_gather 58 = .ok (.ldc2_w 92, 3) := by decide +kernel
theorem dX6_gather_61 : decode cX6_gather 61 = .ok (.dadd, 1) := by decide +kernel
theorem dX6_gather_62 : decode cX6_gather 62 = .ok (.dload_n 3, 1) := by decide +kernel
theorem dX6_gather_63 : decode cX6_gather 63 = .ok (.ddiv, 1) := by decide +kernel
theorem dX6_gather_64 : decode cX6_gather 64 = .ok (.dstore 9, 2) := by decide +kernel
theorem dX6_gather_66 : decode cX6_gather 66 = .ok (.iconst 0, 1) := by decide +kernel
theorem dX6_gather_67 : decode cX6_gather 67 = .ok (.istore 11, 2) := by decide +kernel
theorem dX6_gather_69 : decode cX6_gather 69 = .ok (.iload 11, 2) := by decide +kernel
theorem dX6_gather_71 : decode cX6_gather 71 = .ok (.aload 6, 2) := by decide +kernel
theorem dX6_gather_73 : decode cX6_gather 73 = .ok (.getfield 97, 3) := by decide +kernel
theorem dX6_gather_76 : decode cX6_gather 76 = .ok (.if_icmp .ge 17, 3) := by decide +kernel
theorem dX6_gather_79 : decode cX6_gather 79 = .ok (.aload_n 0, 1) := by decide +kernel
theorem dX6_gather_80 : decode cX6_gather 80 = .ok (.dload 7, 2) := by decide +kernel
theorem dX6_gather_82 : decode cX6_gather 82 = .ok (.dload 9, 2) := by decide +kernel
theorem dX6_gather_84 : decode cX6_gather 84 = .ok (.invokevirtual 100, 3) := by decide +kernel
theorem dX6_gather_87 : decode cX6_gather 87 = .ok (.iinc 11 1, 3) := by decide +kernel
theorem dX6_gather_90 : decode cX6_gather 90 = .ok (.goto (-21), 3) := by decide +kernel
theorem dX6_gather_93 : decode cX6_gather 93 = .ok (.iinc 5 1, 3) := by decide +kernel
theorem dX6_gather_96 : decode cX6_gather 96 = .ok (.goto (-88), 3) := by decide +kernel
theorem dX6_gather_99 : decode cX6_gather 99 = .ok (.return_, 1) := by decide +kernel
theorem dX6_sortIn_0 : decode cX6_sortIn 0 = .ok (.aload_n 0, 1) := by decide +kernel
theorem dX6_sortIn_1 : decode cX6_sortIn 1 = .ok (.getfield 24, 3) := by decide +kernel
theorem dX6_sortIn_4 : decode cX6_sortIn 4 = .ok (.bipush 40, 2) := by decide +kernel
theorem dX6_sortIn_6 : decode cX6_sortIn 6 = .ok (.if_icmp .lt 4, 3) := by decide +kernel
theorem dX6_sortIn_9 : decode cX6_sortIn 9 = .ok (.return_, 1) := by decide +kernel
theorem dX6_sortIn_10 : decode cX6_sortIn 10 = .ok (.aload_n 0, 1) := by decide +kernel
theorem dX6_sortIn_11 : decode cX6_sortIn 11 = .ok (.getfield 24, 3) := by decide +kernel
theorem dX6_sortIn_14 : decode cX6_sortIn 14 = .ok (.istore 5, 2) := by decide +kernel
theorem dX6_sortIn_16 : decode cX6_sortIn 16 = .ok (.iload 5, 2) := by decide +kernel
theorem dX6_sortIn_18 : decode cX6_sortIn 18 = .ok (.ifCond .le 54, 3) := by decide +kernel
theorem dX6_sortIn_21 : decode cX6_sortIn 21 = .ok (.aload_n 0, 1) := by decide +kernel
theorem dX6_sortIn_22 : decode cX6_sortIn 22 = .ok (.dload_n 1, 1) := by decide +kernel
theorem dX6_sortIn_23 : decode cX6_sortIn 23 = .ok (.dload_n 3, 1) := by decide +kernel
theorem dX6_sortIn_24 : decode cX6_sortIn 24 = .ok (.iload 5, 2) := by decide +kernel
theorem dX6_sortIn_26 : decode cX6_sortIn 26 = .ok (.iconst 1, 1) := by decide +kernel
theorem dX6_sortIn_27 : decode cX6_sortIn 27 = .ok (.isub, 1) := by decide +kernel
theorem dX6_sortIn_28 : decode cX6_sortIn 28 = .ok (.invokevirtual 104, 3) := by decide +kernel
theorem dX6_sortIn_31 : decode cX6_sortIn 31 = .ok (.ifCond .eq 41, 3) := by decide +kernel
theorem dX6_sortIn_34 : decode cX6_sortIn 34 = .ok (.aload_n 0, 1) := by decide +kernel
theorem dX6_sortIn_35 : decode cX6_sortIn 35 = .ok (.getfield 15, 3) := by decide +kernel
theorem dX6_sortIn_38 : decode cX6_sortIn 38 = .ok (.iload 5, 2) := by decide +kernel
theorem dX6_sortIn_40 : decode cX6_sortIn 40 = .ok (.aload_n 0, 1) := by decide +kernel
theorem dX6_sortIn_41 : decode cX6_sortIn 41 = .ok (.getfield 15, 3) := by decide +kernel
theorem dX6_sortIn_44 : decode cX6_sortIn 44 = .ok (.iload 5, 2) := by decide +kernel
theorem dX6_sortIn_46 : decode cX6_sortIn 46 = .ok (.iconst 1, 1) := by decide +kernel
theorem dX6_sortIn_47 : decode cX6_sortIn 47 = .ok (.isub, 1) := by decide +kernel
theorem dX6_sortIn_48 : decode cX6_sortIn 48 = .ok (.daload, 1) := by decide +kernel
theorem dX6_sortIn_49 : decode cX6_sortIn 49 = .ok (.dastore, 1) := by decide +kernel
theorem dX6_sortIn_50 : decode cX6_sortIn 50 = .ok (.aload_n 0, 1) := by decide +kernel
theorem dX6_sortIn_51 : decode cX6_sortIn 51 = .ok (.getfield 9, 3) := by decide +kernel
theorem dX6_sortIn_54 : decode cX6_sortIn 54 = .ok (.iload 5, 2) := by decide +kernel
theorem dX6_sortIn_56 : decode cX6_sortIn 56 = .ok (.aload_n 0, 1) := by decide +kernel
theorem dX6_sortIn_57 : decode cX6_sortIn 57 = .ok (.getfield 9, 3) := by decide +kernel
theorem dX6_sortIn_60 : decode cX6_sortIn 60 = .ok (.iload 5, 2) := by decide +kernel
theorem dX6_sortIn_62 : decode cX6_sortIn 62 = .ok (.iconst 1, 1) := by decide +kernel
theorem dX6_sortIn_63 : decode cX6_sortIn 63 = .ok (.isub, 1) := by decide +kernel
theorem dX6_sortIn_64 : decode cX6_sortIn 64 = .ok (.daload, 1) := by decide +kernel
theorem dX6_sortIn_65 : decode cX6_sortIn 65 = .ok (.dastore, 1) := by decide +kernel
theorem dX6_sortIn_66 : decode cX6_sortIn 66 = .ok (.iinc 5 (-1), 3) := by decide +kernel
theorem dX6_sortIn_69 : decode cX6_sortIn 69 = .ok (.goto (-53), 3) := by decide +kernel
theorem dX6_sortIn_72 : decode cX6_sortIn 72 = .ok (.aload_n 0, 1) := by decide +kernel
theorem dX6_sortIn_73 : decode cX6_sortIn 73 = .ok (.getfield 15, 3) := by decide +kernel
theorem dX6_sortIn_76 : decode cX6_sortIn 76 = .ok (.iload 5, 2) := by decide +kernel
theorem dX6_sortIn_78 : decode cX6_sortIn 78 = .ok (.dload_n 1, 1) := by decide +kernel
theorem dX6_sortIn_79 : decode cX6_sortIn 79 = .ok (.dastore, 1) := by decide +kernel
theorem dX6_sortIn_80 : decode cX6_sortIn 80 = .ok (.aload_n 0, 1) := by decide +kernel
theorem dX6_sortIn_81 : decode cX6_sortIn 81 = .ok (.getfield 9, 3) := by decide +kernel
theorem dX6_sortIn_84 : decode cX6_sortIn 84 = .ok (.iload 5, 2) := by decide +kernel
theorem dX6_sortIn_86 : decode cX6_sortIn 86 = .ok (.dload_n 3, 1) := by decide +kernel
theorem dX6_sortIn_87 : decode cX6_sortIn 87 = .ok (.dastore, 1) := by decide +kernel
theorem dX6_sortIn_88 : decode cX6_sortIn 88 = .ok (.aload_n 0, 1) := by decide +kernel
theorem dX6_sortIn_89 : decode cX6_sortIn 89 = .ok (.dup, 1) := by decide +kernel
theorem dX6_sortIn_90 : decode cX6_sortIn 90 = .ok (.getfield 24, 3) := by decide +kernel
theorem dX6_sortIn_93 : decode cX6_sortIn 93 = .ok (.iconst 1, 1) := by decide +kernel
theorem dX6_sortIn_94 : decode cX6_sortIn 94 = .ok (.iadd, 1) := by decide +kernel
theorem dX6_sortIn_95 : decode cX6_sortIn 95 = .ok (.putfield 24, 3) := by decide +kernel
theorem dX6_sortIn_98 : decode cX6_sortIn 98 = .ok (.return_, 1) := by decide +kernel
theorem dX6_isAhead_0 : decode cX6_isAhead 0 = .ok (.dload_n 3, 1) := by decide +kernel
theorem dX6_isAhead_1 : decode cX6_isAhead 1 = .ok (.aload_n 0, 1) := by decide +kernel
theorem dX6_isAhead_2 : decode cX6_isAhead 2 = .ok (.getfield 9, 3) := by decide +kernel
theorem dX6_isAhead_5 : decode cX6_isAhead 5 = .ok (.iload 5, 2) := by decide +kernel
theorem dX6_isAhead_7 : decode cX6_isAhead 7 = .ok (.daload, 1) := by decide +kernel
theorem dX6_isAhead_8 : decode cX6_isAhead 8 = .ok (.dcmp .l, 1) := by decide +kernel
theorem dX6_isAhead_9 : decode cX6_isAhead 9 = .ok (.ifCond .gt 27, 3) := by decide +kernel
theorem dX6_isAhead_12 : decode cX6_isAhead 12 = .ok (.dload_n 3, 1) := by decide +kernel
theorem dX6_isAhead_13 : decode cX6_isAhead 13 = .ok (.aload_n 0, 1) := by decide +kernel
theorem dX6_isAhead_14 : decode cX6_isAhead 14 = .ok (.getfield 9, 3) := by decide +kernel
theorem dX6_isAhead_17 : decode cX6_isAhead 17 = .ok (.iload 5, 2) := by decide +kernel
theorem dX6_isAhead_19 : decode cX6_isAhead 19 = .ok (.daload, 1) := by decide +kernel
theorem dX6_isAhead_20 : decode cX6_isAhead 20 = .ok (.dcmp .l, 1) := by decide +kernel
theorem dX6_isAhead_21 : decode cX6_isAhead 21 = .ok (.ifCond .ne 19, 3) := by decide +kernel
theorem dX6_isAhead_24 : decode cX6_isAhead 24 = .ok (.dload_n 1, 1) := by decide +kernel
theorem dX6_isAhead_25 : decode cX6_isAhead 25 = .ok (.aload_n 0, 1) := by decide +kernel
theorem dX6_isAhead_26 : decode cX6_isAhead 26 = .ok (.getfield 15, 3) := by decide +kernel
theorem dX6_isAhead_29 : decode cX6_isAhead 29 = .ok (.iload 5, 2) := by decide +kernel
theorem dX6_isAhead_31 : decode cX6_isAhead 31 = .ok (.daload, 1) := by decide +kernel
theorem dX6_isAhead_32 : decode cX6_isAhead 32 = .ok (.dcmp .l, 1) := by decide +kernel
theorem dX6_isAhead_33 : decode cX6_isAhead 33 = .ok (.ifCond .le 7, 3) := by decide +kernel
theorem dX6_isAhead_36 : decode cX6_isAhead 36 = .ok (.iconst 1, 1) := by decide +kernel
theorem dX6_isAhead_37 : decode cX6_isAhead 37 = .ok (.goto 4, 3) := by decide +kernel
theorem dX6_isAhead_40 : decode cX6_isAhead 40 = .ok (.iconst 0, 1) := by decide +kernel
theorem dX6_isAhead_41 : decode cX6_isAhead 41 = .ok (.ireturn, 1) := by decide +kernel
theorem dX6_put_0 : decode cX6_put 0 = .ok (.aload_n 0, 1) := by decide +kernel
theorem dX6_put_1 : decode cX6_put 1 = .ok (.dload_n 1, 1) := by decide +kernel
theorem dX6_put_2 : decode cX6_put 2 = .ok (.dload_n 3, 1) := by decide +kernel
theorem dX6_put_3 : decode cX6_put 3 = .ok (.invokevirtual 108, 3) := by decide +kernel
theorem dX6_put_6 : decode cX6_put 6 = .ok (.ifCond .eq 5, 3) := by decide +kernel
theorem dX6_put_9 : decode cX6_put 9 = .ok (.iconst 1, 1) := by decide +kernel
theorem dX6_put_10 : decode cX6_put 10 = .ok (.ireturn, 1) := by decide +kernel
theorem dX6_put_11 : decode cX6_put 11 = .ok (.iload 5, 2) := by decide +kernel
theorem dX6_put_13 : decode cX6_put 13 = .ok (.ifCond .eq 24, 3) := by decide +kernel
theorem dX6_put_16 : decode cX6_put 16 = .ok (.aload_n 0, 1) := by decide +kernel
theorem dX6_put_17 : decode cX6_put 17 = .ok (.dload_n 3, 1) := by decide +kernel
theorem dX6_put_18 : decode cX6_put 18 = .ok (.dload_n 1, 1) := by decide +kernel
theorem dX6_put_19 : decode cX6_put 19 = .ok (.invokevirtual 108, 3) := by decide +kernel
theorem dX6_put_22 : decode cX6_put 22 = .ok (.ifCond .eq 15, 3) := by decide +kernel
theorem dX6_put_25 : decode cX6_put 25 = .ok (.aload_n 0, 1) := by decide +kernel
theorem dX6_put_26 : decode cX6_put 26 = .ok (.dup, 1) := by decide +kernel
theorem dX6_put_27 : decode cX6_put 27 = .ok (.getfield 31, 3) := by decide +kernel
theorem dX6_put_30 : decode cX6_put 30 = .ok (.iconst 1, 1) := by decide +kernel
theorem dX6_put_31 : decode cX6_put 31 = .ok (.iadd, 1) := by decide +kernel
theorem dX6_put_32 : decode cX6_put 32 = .ok (.putfield 31, 3) := by decide +kernel
theorem dX6_put_35 : decode cX6_put 35 = .ok (.iconst 1, 1) := by decide +kernel
theorem dX6_put_36 : decode cX6_put 36 = .ok (.ireturn, 1) := by decide +kernel
theorem dX6_put_37 : decode cX6_put 37 = .ok (.aload_n 0, 1) := by decide +kernel
theorem dX6_put_38 : decode cX6_put 38 = .ok (.dload_n 1, 1) := by decide +kernel
theorem dX6_put_39 : decode cX6_put 39 = .ok (.dload_n 3, 1) := by decide +kernel
theorem dX6_put_40 : decode cX6_put 40 = .ok (.invokevirtual 112, 3) := by decide +kernel
theorem dX6_put_43 : decode cX6_put 43 = .ok (.ifCond .eq 5, 3) := by decide +kernel
theorem dX6_put_46 : decode cX6_put 46 = .ok (.iconst 1, 1) := by decide +kernel
theorem dX6_put_47 : decode cX6_put 47 = .ok (.ireturn, 1) := by decide +kernel
theorem dX6_put_48 : decode cX6_put 48 = .ok (.iload 5, 2) := by decide +kernel
theorem dX6_put_50 : decode cX6_put 50 = .ok (.ifCond .eq 24, 3) := by decide +kernel
theorem dX6_put_53 : decode cX6_put 53 = .ok (.aload_n 0, 1) := by decide +kernel
theorem dX6_put_54 : decode cX6_put 54 = .ok (.dload_n 3, 1) := by decide +kernel
theorem dX6_put_55 : decode cX6_put 55 = .ok (.dload_n 1, 1) := by decide +kernel
theorem dX6_put_56 : decode cX6_put 56 = .ok (.invokevirtual 112, 3) := by decide +kernel
theorem dX6_put_59 : decode cX6_put 59 = .ok (.ifCond .eq 15, 3) := by decide +kernel
theorem dX6_put_62 : decode cX6_put 62 = .ok (.aload_n 0, 1) := by decide +kernel
theorem dX6_put_63 : decode cX6_put 63 = .ok (.dup, 1) := by decide +kernel
theorem dX6_put_64 : decode cX6_put 64 = .ok (.getfield 31, 3) := by decide +kernel
theorem dX6_put_67 : decode cX6_put 67 = .ok (.iconst 1, 1) := by decide +kernel
theorem dX6_put_68 : decode cX6_put 68 = .ok (.iadd, 1) := by decide +kernel
theorem dX6_put_69 : decode cX6_put 69 = .ok (.putfield 31, 3) := by decide +kernel
theorem dX6_put_72 : decode cX6_put 72 = .ok (.iconst 1, 1) := by decide +kernel
theorem dX6_put_73 : decode cX6_put 73 = .ok (.ireturn, 1) := by decide +kernel
theorem dX6_put_74 : decode cX6_put 74 = .ok (.iconst 0, 1) := by decide +kernel
theorem dX6_put_75 : decode cX6_put 75 = .ok (.ireturn, 1) := by decide +kernel
theorem dX6_putIntoRow_0 : decode cX6_putIntoRow 0 = .ok (.iconst 0, 1) := by decide +kernel
theorem dX6_putIntoRow_1 : decode cX6_putIntoRow 1 = .ok (.istore 5, 2) := by decide +kernel
theorem dX6_putIntoRow_3 : decode cX6_putIntoRow 3 = .ok (.iload 5, 2) := by decide +kernel
theorem dX6_putIntoRow_5 : decode cX6_putIntoRow 5 = .ok (.aload_n 0, 1) := by decide +kernel
theorem dX6_putIntoRow_6 : decode cX6_putIntoRow 6 = .ok (.getfield 28, 3) := by decide +kernel
theorem dX6_putIntoRow_9 : decode cX6_putIntoRow 9 = .ok (.if_icmp .ge 51, 3) := by decide +kernel
theorem dX6_putIntoRow_12 : decode cX6_putIntoRow 12 = .ok (.aload_n 0, 1) := by decide +kernel
theorem dX6_putIntoRow_13 : decode cX6_putIntoRow 13 = .ok (.getfield 21, 3) := by decide +kernel
theorem dX6_putIntoRow_16 : decode cX6_putIntoRow 16 = .ok (.iload 5, 2) := by decide +kernel
theorem dX6_putIntoRow_18 : decode cX6_putIntoRow 18 = .ok (.daload, 1) := by decide +kernel
theorem dX6_putIntoRow_19 : decode cX6_putIntoRow 19 = .ok (.dload_n 1, 1) := by decide +kernel
theorem dX6_putIntoRow_20 : decode cX6_putIntoRow 20 = .ok (.dcmp .l, 1) := by decide +kernel
theorem dX6_putIntoRow_21 : decode cX6_putIntoRow 21 = .ok (.ifCond .lt 33, 3) := by decide +kernel
theorem dX6_putIntoRow_24 : decode cX6_putIntoRow 24 = .ok (.aload_n 0, 1) := by decide +kernel
theorem dX6_putIntoRow_25 : decode cX6_putIntoRow 25 = .ok (.getfield 18, 3) := by decide +kernel
theorem dX6_putIntoRow_28 : decode cX6_putIntoRow 28 = .ok (.iload 5, 2) := by decide +kernel
theorem dX6_putIntoRow_30 : decode cX6_putIntoRow 30 = .ok (.daload, 1) := by decide +kernel
theorem dX6_putIntoRow_31 : decode cX6_putIntoRow 31 = .ok (.dload_n 3, 1) := by decide +kernel
theorem dX6_putIntoRow_32 : decode cX6_putIntoRow 32 = .ok (.dcmp .l, 1) := by decide +kernel
theorem dX6_putIntoRow_33 : decode cX6_putIntoRow 33 = .ok (.ifCond .lt 21, 3) := by decide +kernel
theorem dX6_putIntoRow_36 : decode cX6_putIntoRow 36 = .ok (.aload_n 0, 1) := by decide +kernel
theorem dX6_putIntoRow_37 : decode cX6_putIntoRow 37 = .ok (.getfield 21, 3) := by decide +kernel
theorem dX6_putIntoRow_40 : decode cX6_putIntoRow 40 = .ok (.iload 5, 2) := by decide +kernel
theorem dX6_putIntoRow_42 : decode cX6_putIntoRow 42 = .ok (.aload_n 0, 1) := by decide +kernel
theorem dX6_putIntoRow_43 : decode cX6_putIntoRow 43 = .ok (.getfield 21, 3) := by decide +kernel
theorem dX6_putIntoRow_46 : decode cX6_putIntoRow 46 = .ok (.iload 5, 2) := by decide +kernel
theorem dX6_putIntoRow_48 : decode cX6_putIntoRow 48 = .ok (.daload, 1) := by decide +kernel
theorem dX6_putIntoRow_49 : decode cX6_putIntoRow 49 = .ok (.dload_n 1, 1) := by decide +kernel
theorem dX6_putIntoRow_50 : decode cX6_putIntoRow 50 = .ok (.dsub, 1) := by decide +kernel
theorem dX6_putIntoRow_51 : decode cX6_putIntoRow 51 = .ok (.dastore, 1) := by decide +kernel
theorem dX6_putIntoRow_52 : decode cX6_putIntoRow 52 = .ok (.iconst 1, 1) := by decide +kernel
theorem dX6_putIntoRow_53 : decode cX6_putIntoRow 53 = .ok (.ireturn, 1) := by decide +kernel
theorem dX6_putIntoRow_54 : decode cX6_putIntoRow 54 = .ok (.iinc 5 1, 3) := by decide +kernel
theorem dX6_putIntoRow_57 : decode cX6_putIntoRow 57 = .ok (.goto (-54), 3) := by decide +kernel
theorem dX6_putIntoRow_60 : decode cX6_putIntoRow 60 = .ok (.iconst 0, 1) := by decide +kernel
theorem dX6_putIntoRow_61 : decode cX6_putIntoRow 61 = .ok (.ireturn, 1) := by decide +kernel
theorem dX6_putIntoNewRow_0 : decode cX6_putIntoNewRow 0 = .ok (.dload_n 1, 1) := by decide +kernel
theorem dX6_putIntoNewRow_1 : decode cX6_putIntoNewRow 1 = .ok (.aload_n 0, 1) := by decide +kernel
theorem dX6_putIntoNewRow_2 : decode cX6_putIntoNewRow 2 = .ok (.getfield 46, 3) := by decide +kernel
theorem dX6_putIntoNewRow_5 : decode cX6_putIntoNewRow 5 = .ok (.dcmp .l, 1) := by decide +kernel
theorem dX6_putIntoNewRow_6 : decode cX6_putIntoNewRow 6 = .ok (.ifCond .gt 12, 3) := by decide +kernel
theorem dX6_putIntoNewRow_9 : decode cX6_putIntoNewRow 9 = .ok (.aload_n 0, 1) := by decide +kernel
theorem dX6_putIntoNewRow_10 : decode cX6_putIntoNewRow 10 = .ok (.getfield 28, 3) := by decide +kernel
theorem dX6_putIntoNewRow_13 : decode cX6_putIntoNewRow 13 = .ok (.bipush 40, 2) := by decide +kernel
theorem dX6_putIntoNewRow_15 : decode cX6_putIntoNewRow 15 = .ok (.if_icmp .lt 5, 3) := by decide +kernel
theorem dX6_putIntoNewRow_18 : decode cX6_putIntoNewRow 18 = .ok (.iconst 0, 1) := by decide +kernel
theorem dX6_putIntoNewRow_19 : decode cX6_putIntoNewRow 19 = .ok (.ireturn, 1) := by decide +kernel
theorem dX6_putIntoNewRow_20 : decode cX6_putIntoNewRow 20 = .ok (.aload_n 0, 1) := by decide +kernel
theorem dX6_putIntoNewRow_21 : decode cX6_putIntoNewRow 21 = .ok (.getfield 50, 3) := by decide +kernel
theorem dX6_putIntoNewRow_24 : decode cX6_putIntoNewRow 24 = .ok (.ifCond .le 22, 3) := by decide +kernel
theorem dX6_putIntoNewRow_27 : decode cX6_putIntoNewRow 27 = .ok (.dload_n 3, 1) := by decide +kernel
theorem dX6_putIntoNewRow_28 : decode cX6_putIntoNewRow 28 = .ok (.aload_n 0, 1) := by decide +kernel
theorem dX6_putIntoNewRow_29 : decode cX6_putIntoNewRow 29 = .ok (.getfield 50, 3) := by decide +kernel
theorem dX6_putIntoNewRow_32 : decode cX6_putIntoNewRow 32 = .ok (.i2d, 1) := by decide +kernel
theorem dX6_putIntoNewRow_33 : decode cX6_putIntoNewRow 33 = .ok (.ddiv, 1) := by decide +kernel
theorem dX6_putIntoNewRow_34 : decode cX6_putIntoNewRow 34 = .ok (.invokestatic 115, 3) := by decide +kernel
theorem dX6_putIntoNewRow_37 : decode cX6_putIntoNewRow 37 = .ok (.aload_n 0, 1) := by decide +kernel
theorem dX6_putIntoNewRow_38 : decode cX6_putIntoNewRow 38 = .ok (.getfield 50, 3) := by decide +kernel
theorem dX6_putIntoNewRow_41 : decode cX6_putIntoNewRow 41 = .ok (.i2d, 1) := by decide +kernel
theorem dX6_putIntoNewRow_42 : decode cX6_putIntoNewRow 42 = .ok (.dmul, 1) := by decide +kernel
theorem dX6_putIntoNewRow_43 : decode cX6_putIntoNewRow 43 = .ok (.goto 4, 3) := by decide +kernel
theorem dX6_putIntoNewRow_46 : decode cX6_putIntoNewRow 46 = .ok (.dload_n 3, 1) := by decide +kernel
theorem dX6_putIntoNewRow_47 : decode cX6_putIntoNewRow 47 = .ok (.dstore 5, 2) := by decide +kernel
theorem dX6_putIntoNewRow_49 : decode cX6_putIntoNewRow 49 = .ok (.aload_n 0, 1) := by decide +kernel
theorem dX6_putIntoNewRow_50 : decode cX6_putIntoNewRow 50 = .ok (.getfield 18, 3) := by decide +kernel
theorem dX6_putIntoNewRow_53 : decode cX6_putIntoNewRow 53 = .ok (.aload_n 0, 1) := by decide +kernel
theorem dX6_putIntoNewRow_54 : decode cX6_putIntoNewRow 54 = .ok (.getfield 28, 3) := by decide +kernel
theorem dX6_putIntoNewRow_57 : decode cX6_putIntoNewRow 57 = .ok (.dload 5, 2) := by decide +kernel
theorem dX6_putIntoNewRow_59 : decode cX6_putIntoNewRow 59 = .ok (.dastore, 1) := by decide +kernel
theorem dX6_putIntoNewRow_60 : decode cX6_putIntoNewRow 60 = .ok (.aload_n 0, 1) := by decide +kernel
theorem dX6_putIntoNewRow_61 : decode cX6_putIntoNewRow 61 = .ok (.getfield 21, 3) := by decide +kernel
theorem dX6_putIntoNewRow_64 : decode cX6_putIntoNewRow 64 = .ok (.aload_n 0, 1) := by decide +kernel
theorem dX6_putIntoNewRow_65 : decode cX6_putIntoNewRow 65 = .ok (.getfield 28, 3) := by decide +kernel
theorem dX6_putIntoNewRow_68 : decode cX6_putIntoNewRow 68 = .ok (.aload_n 0, 1) := by decide +kernel
theorem dX6_putIntoNewRow_69 : decode cX6_putIntoNewRow 69 = .ok (.getfield 46, 3) := by decide +kernel
theorem dX6_putIntoNewRow_72 : decode cX6_putIntoNewRow 72 = .ok (.dload_n 1, 1) := by decide +kernel
theorem dX6_putIntoNewRow_73 : decode cX6_putIntoNewRow 73 = .ok (.dsub, 1) := by decide +kernel
theorem dX6_putIntoNewRow_74 : decode cX6_putIntoNewRow 74 = .ok (.dastore, 1) := by decide +kernel
theorem dX6_putIntoNewRow_75 : decode cX6_putIntoNewRow 75 = .ok (.aload_n 0, 1) := by decide +kernel
theorem dX6_putIntoNewRow_76 : decode cX6_putIntoNewRow 76 = .ok (.dup, 1) := by decide +kernel
theorem dX6_putIntoNewRow_77 : decode cX6_putIntoNewRow 77 = .ok (.getfield 28, 3) := by decide +kernel
theorem dX6_putIntoNewRow_80 : decode cX6_putIntoNewRow 80 = .ok (.iconst 1, 1) := by decide +kernel
theorem dX6_putIntoNewRow_81 : decode cX6_putIntoNewRow 81 = .ok (.iadd, 1) := by decide +kernel
theorem dX6_putIntoNewRow_82 : decode cX6_putIntoNewRow 82 = .ok (.putfield 28, 3) := by decide +kernel
theorem dX6_putIntoNewRow_85 : decode cX6_putIntoNewRow 85 = .ok (.aload_n 0, 1) := by decide +kernel
theorem dX6_putIntoNewRow_86 : decode cX6_putIntoNewRow 86 = .ok (.aload_n 0, 1) := by decide +kernel
theorem dX6_putIntoNewRow_87 : decode cX6_putIntoNewRow 87 = .ok (.getfield 34, 3) := by decide +kernel
theorem dX6_putIntoNewRow_90 : decode cX6_putIntoNewRow 90 = .ok (.dload 5, 2) := by decide +kernel
theorem dX6_putIntoNewRow_92 : decode cX6_putIntoNewRow 92 = .ok (.dadd, 1) := by decide +kernel
theorem dX6_putIntoNewRow_93 : decode cX6_putIntoNewRow 93 = .ok (.putfield 34, 3) := by decide +kernel
theorem dX6_putIntoNewRow_96 : decode cX6_putIntoNewRow 96 = .ok (.iconst 1, 1) := by decide +kernel
theorem dX6_putIntoNewRow_97 : decode cX6_putIntoNewRow 97 = .ok (.ireturn, 1) := by decide +kernel
theorem dX7_init_0 : decode cX7_init 0 = .ok (.aload_n 0, 1) := by decide +kernel
theorem dX7_init_1 : decode cX7_init 1 = .ok (.invokespecial 3, 3) := by decide +kernel
theorem dX7_init_4 : decode cX7_init 4 = .ok (.aload_n 0, 1) := by decide +kernel
theorem dX7_init_5 : decode cX7_init 5 = .ok (.iconst 4, 1) := by decide +kernel
theorem dX7_init_6 : decode cX7_init 6 = .ok (.anewarray 9, 3) := by decide +kernel
theorem dX7_init_9 : decode cX7_init 9 = .ok (.putfield 11, 3) := by decide +kernel
theorem dX7_init_12 : decode cX7_init 12 = .ok (.aload_n 0, 1) := by decide +kernel
theorem dX7_init_13 : decode cX7_init 13 = .ok (.bipush 6, 2) := by decide +kernel
theorem dX7_init_15 : decode cX7_init 15 = .ok (.anewarray 15, 3) := by decide +kernel
theorem dX7_init_18 : decode cX7_init 18 = .ok (.putfield 17, 3) := by decide +kernel
theorem dX7_init_21 : decode cX7_init 21 = .ok (.aload_n 0, 1) := by decide +kernel
theorem dX7_init_22 : decode cX7_init 22 = .ok (.iconst 3, 1) := by decide +kernel
theorem dX7_init_23 : decode cX7_init 23 = .ok (.anewarray 21, 3) := by decide +kernel
theorem dX7_init_26 : decode cX7_init 26 = .ok (.putfield 23, 3) := by decide +kernel
theorem dX7_init_29 : decode cX7_init 29 = .ok (.aload_n 0, 1) := by decide +kernel
theorem dX7_init_30 : decode cX7_init 30 = .ok (.iconst 3, 1) := by decide +kernel
theorem dX7_init_31 : decode cX7_init 31 = .ok (.anewarray 27, 3) := by decide +kernel
theorem dX7_init_34 : decode cX7_init 34 = .ok (.putfield 29, 3) := by decide +kernel
theorem dX7_init_37 : decode cX7_init 37 = .ok (.aload_n 0, 1) := by decide +kernel
theorem dX7_init_38 : decode cX7_init 38 = .ok (.bipush 8, 2) := by decide +kernel
theorem dX7_init_40 : decode cX7_init 40 = .ok (.anewarray 33, 3) := by decide +kernel
theorem dX7_init_43 : decode cX7_init 43 = .ok (.putfield 35, 3) := by decide +kernel
theorem dX7_init_46 : decode cX7_init 46 = .ok (.aload_n 0, 1) := by decide +kernel
theorem dX7_init_47 : decode cX7_init 47 = .ok (.new 39, 3) := by decide +kernel
theorem dX7_init_50 : decode cX7_init 50 = .ok (.dup, 1) := by decide +kernel
theorem dX7_init_51 : decode cX7_init 51 = .ok (.invokespecial 41, 3) := by decide +kernel
theorem dX7_init_54 : decode cX7_init 54 = .ok (.putfield 42, 3) := by decide +kernel
theorem dX7_init_57 : decode cX7_init 57 = .ok (.return_, 1) := by decide +kernel
theorem dX7_cloth_0 : decode cX7_cloth 0 = .ok (.iload_n 1, 1) := by decide +kernel
theorem dX7_cloth_1 : decode cX7_cloth 1 = .ok (.bipush 60, 2) := by decide +kernel
theorem dX7_cloth_3 : decode cX7_cloth 3 = .ok (.sipush 160, 3) := by decide +kernel
theorem dX7_cloth_6 : decode cX7_cloth 6 = .ok (.invokestatic 46, 3) := by decide +kernel
theorem dX7_cloth_9 : decode cX7_cloth 9 = .ok (.ifCond .ne 46, 3) := by decide +kernel
theorem dX7_cloth_12 : decode cX7_cloth 12 = .ok (.iload_n 2, 1) := by decide +kernel
theorem dX7_cloth_13 : decode cX7_cloth 13 = .ok (.iconst 0, 1) := by decide +kernel
theorem dX7_cloth_14 : decode cX7_cloth 14 = .ok (.sipush 3000, 3) := by decide +kernel
theorem dX7_cloth_17 : decode cX7_cloth 17 = .ok (.invokestatic 46, 3) := by decide +kernel
theorem dX7_cloth_20 : decode cX7_cloth 20 = .ok (.ifCond .ne 35, 3) := by decide +kernel
theorem dX7_cloth_23 : decode cX7_cloth 23 = .ok (.iload_n 3, 1) := by decide +kernel
theorem dX7_cloth_24 : decode cX7_cloth 24 = .ok (.iconst 0, 1) := by decide +kernel
theorem dX7_cloth_25 : decode cX7_cloth 25 = .ok (.bipush 8, 2) := by decide +kernel
theorem dX7_cloth_27 : decode cX7_cloth 27 = .ok (.invokestatic 46, 3) := by decide +kernel
theorem dX7_cloth_30 : decode cX7_cloth 30 = .ok (.ifCond .ne 25, 3) := by decide +kernel
theorem dX7_cloth_33 : decode cX7_cloth 33 = .ok (.iload 4, 2) := by decide +kernel
theorem dX7_cloth_35 : decode cX7_cloth 35 = .ok (.iconst 0, 1) := by decide +kernel
theorem dX7_cloth_36 : decode cX7_cloth 36 = .ok (.bipush 20, 2) := by decide +kernel
theorem dX7_cloth_38 : decode cX7_cloth 38 = .ok (.invokestatic 46, 3) := by decide +kernel
theorem dX7_cloth_41 : decode cX7_cloth 41 = .ok (.ifCond .ne 14, 3) := by decide +kernel
theorem dX7_cloth_44 : decode cX7_cloth 44 = .ok (.iload 6, 2) := by decide +kernel
theorem dX7_cloth_46 : decode cX7_cloth 46 = .ok (.iconst 1, 1) := by decide +kernel
theorem dX7_cloth_47 : decode cX7_cloth 47 = .ok (.bipush 9, 2) := by decide +kernel
theorem dX7_cloth_49 : decode cX7_cloth 49 = .ok (.invokestatic 46, 3) := by decide +kernel
theorem dX7_cloth_52 : decode cX7_cloth 52 = .ok (.ifCond .eq 13, 3) := by decide +kernel
theorem dX7_cloth_55 : decode cX7_cloth 55 = .ok (.new 50, 3) := by decide +kernel
theorem dX7_cloth_58 : decode cX7_cloth 58 = .ok (.dup, 1) := by decide +kernel
theorem dX7_cloth_59 : decode cX7_cloth 59 = .ok (.ldc 52, 2) := by decide +kernel
theorem dX7_cloth_61 : decode cX7_cloth 61 = .ok (.invokespecial 54, 3) := by decide +kernel
theorem dX7_cloth_64 : decode cX7_cloth 64 = .ok (.athrow, 1) := by decide +kernel
theorem dX7_cloth_65 : decode cX7_cloth 65 = .ok (.aload_n 0, 1) := by decide +kernel
theorem dX7_cloth_66 : decode cX7_cloth 66 = .ok (.getfield 57, 3) := by decide +kernel
theorem dX7_cloth_69 : decode cX7_cloth 69 = .ok (.iconst 4, 1) := by decide +kernel
theorem dX7_cloth_70 : decode cX7_cloth 70 = .ok (.if_icmp .lt 13, 3) := by decide +kernel
theorem dX7_cloth_73 : decode cX7_cloth 73 = .ok (.new 61, 3) := by decide +kernel
theorem dX7_cloth_76 : decode cX7_cloth 76 = .ok (.dup, 1) := by decide +kernel
theorem dX7_cloth_77 : decode cX7_cloth 77 = .ok (.ldc 63, 2) := by decide +kernel
theorem dX7_cloth_79 : decode cX7_cloth 79 = .ok (.invokespecial 65, 3) := by decide +kernel
theorem dX7_cloth_82 : decode cX7_cloth 82 = .ok (.athrow, 1) := by decide +kernel
theorem dX7_cloth_83 : decode cX7_cloth 83 = .ok (.aload_n 0, 1) := by decide +kernel
theorem dX7_cloth_84 : decode cX7_cloth 84 = .ok (.getfield 11, 3) := by decide +kernel
theorem dX7_cloth_87 : decode cX7_cloth 87 = .ok (.aload_n 0, 1) := by decide +kernel
theorem dX7_cloth_88 : decode cX7_cloth 88 = .ok (.getfield 57, 3) := by decide +kernel
theorem dX7_cloth_91 : decode cX7_cloth 91 = .ok (.new 9, 3) := by decide +kernel
theorem dX7_cloth_94 : decode cX7_cloth 94 = .ok (.dup, 1) := by decide +kernel
theorem dX7_cloth_95 : decode cX7_cloth 95 = .ok (.iload_n 1, 1) := by decide +kernel
theorem dX7_cloth_96 : decode cX7_cloth 96 = .ok (.i2d, 1) := by decide +kernel
theorem dX7_cloth_97 : decode cX7_cloth 97 = .ok (.iload_n 2, 1) := by decide +kernel
theorem dX7_cloth_98 : decode cX7_cloth 98 = .ok (.i2d, 1) := by decide +kernel
theorem dX7_cloth_99 : decode cX7_cloth 99 = .ok (.iload_n 3, 1) := by decide +kernel
theorem dX7_cloth_100 : decode cX7_cloth 100 = .ok (.i2f, 1) := by decide +kernel
theorem dX7_cloth_101 : decode cX7_cloth 101 = .ok (.ldc 66, 2) := by decide +kernel
theorem dX7_cloth_103 : decode cX7_cloth 103 = .ok (.fdiv, 1) := by decide +kernel
theorem dX7_cloth_104 : decode cX7_cloth 104 = .ok (.iload 4, 2) := by decide +kernel
theorem dX7_cloth_106 : decode cX7_cloth 106 = .ok (.iload 5, 2) := by decide +kernel
theorem dX7_cloth_108 : decode cX7_cloth 108 = .ok (.iload 6, 2) := by decide +kernel
theorem dX7_cloth_110 : decode cX7_cloth 110 = .ok (.invokespecial 67, 3) := by decide +kernel
theorem dX7_cloth_113 : decode cX7_cloth 113 = .ok (.aastore, 1) := by decide +kernel
theorem dX7_cloth_114 : decode cX7_cloth 114 = .ok (.aload_n 0, 1) := by decide +kernel
theorem dX7_cloth_115 : decode cX7_cloth 115 = .ok (.dup, 1) := by decide +kernel
theorem dX7_cloth_116 : decode cX7_cloth 116 = .ok (.getfield 57, 3) := by decide +kernel
theorem dX7_cloth_119 : decode cX7_cloth 119 = .ok (.iconst 1, 1) := by decide +kernel
theorem dX7_cloth_120 : decode cX7_cloth 120 = .ok (.iadd, 1) := by decide +kernel
theorem dX7_cloth_121 : decode cX7_cloth 121 = .ok (.putfield 57, 3) := by decide +kernel
theorem dX7_cloth_124 : decode cX7_cloth 124 = .ok (.aload_n 0, 1) := by decide +kernel
theorem dX7_cloth_125 : decode cX7_cloth 125 = .ok (.getfield 57, 3) := by decide +kernel
theorem dX7_cloth_128 : decode cX7_cloth 128 = .ok (.iconst 1, 1) := by decide +kernel
theorem dX7_cloth_129 : decode cX7_cloth 129 = .ok (.isub, 1) := by decide +kernel
theorem dX7_cloth_130 : decode cX7_cloth 130 = .ok (.ireturn, 1) := by decide +kernel
theorem dX7_wash_0 : decode cX7_wash 0 = .ok (.aload_n 0, 1) := by decide +kernel
theorem dX7_wash_1 : decode cX7_wash 1 = .ok (.iload_n 1, 1) := by decide +kernel
theorem dX7_wash_2 : decode cX7_wash 2 = .ok (.invokevirtual 70, 3) := by decide +kernel
theorem dX7_wash_5 : decode cX7_wash 5 = .ok (.astore_n 2, 1) := by decide +kernel
theorem dX7_wash_6 : decode cX7_wash 6 = .ok (.aload_n 2, 1) := by decide +kernel
theorem dX7_wash_7 : decode cX7_wash 7 = .ok (.invokevirtual 74, 3) := by decide +kernel
theorem dX7_wash_10 : decode cX7_wash 10 = .ok (.dstore_n 3, 1) := by decide +kernel
theorem dX7_wash_11 : decode cX7_wash 11 = .ok (.aload_n 2, 1) := by decide +kernel
theorem dX7_wash_12 : decode cX7_wash 12 = .ok (.aload_n 2, 1) := by decide +kernel
theorem dX7_wash_13 : decode cX7_wash 13 = .ok (.getfield 78, 3) := by decide +kernel
theorem dX7_wash_16 : decode cX7_wash 16 = .ok (.dload_n 3, 1) := by decide +kernel
theorem dX7_wash_17 : decode cX7_wash 17 = .ok (.dmul, 1) := by decide +kernel
theorem dX7_wash_18 : decode cX7_wash 18 = .ok (.putfield 78, 3) := by decide +kernel
theorem dX7_wash_21 : decode cX7_wash 21 = .ok (.aload_n 2, 1) := by decide +kernel
theorem dX7_wash_22 : decode cX7_wash 22 = .ok (.aload_n 2, 1) := by decide +kernel
theorem dX7_wash_23 : decode cX7_wash 23 = .ok (.getfield 82, 3) := by decide +kernel
theorem dX7_wash_26 : decode cX7_wash 26 = .ok (.dload_n 3, 1) := by decide +kernel
theorem dX7_wash_27 : decode cX7_wash 27 = .ok (.dmul, 1) := by decide +kernel
theorem dX7_wash_28 : decode cX7_wash 28 = .ok (.putfield 82, 3) := by decide +kernel
theorem dX7_wash_31 : decode cX7_wash 31 = .ok (.aload_n 2, 1) := by decide +kernel
theorem dX7_wash_32 : decode cX7_wash 32 = .ok (.fconst 0, 1) := by decide +kernel
theorem dX7_wash_33 : decode cX7_wash 33 = .ok (.putfield 85, 3) := by decide +kernel
theorem dX7_wash_36 : decode cX7_wash 36 = .ok (.aload_n 2, 1) := by decide +kernel
theorem dX7_wash_37 : decode cX7_wash 37 = .ok (.getfield 82, 3) := by decide +kernel
theorem dX7_wash_40 : decode cX7_wash 40 = .ok (.dreturn, 1) := by decide +kernel
theorem dX7_person_0 : decode cX7_person 0 = .ok (.iload_n 1, 1) := by decide +kernel
theorem dX7_person_1 : decode cX7_person 1 = .ok (.invokestatic 89, 3) := by decide +kernel
theorem dX7_person_4 : decode cX7_person 4 = .ok (.ifCond .ne 25, 3) := by decide +kernel
theorem dX7_person_7 : decode cX7_person 7 = .ok (.iload_n 2, 1) := by decide +kernel
theorem dX7_person_8 : decode cX7_person 8 = .ok (.invokestatic 89, 3) := by decide +kernel
theorem dX7_person_11 : decode cX7_person 11 = .ok (.ifCond .ne 18, 3) := by decide +kernel
theorem dX7_person_14 : decode cX7_person 14 = .ok (.iload_n 3, 1) := by decide +kernel
theorem dX7_person_15 : decode cX7_person 15 = .ok (.invokestatic 89, 3) := by decide +kernel
theorem dX7_person_18 : decode cX7_person 18 = .ok (.ifCond .ne 11, 3) := by decide +kernel
theorem dX7_person_21 : decode cX7_person 21 = .ok (.iload 4, 2) := by decide +kernel
theorem dX7_person_23 : decode cX7_person 23 = .ok (.invokestatic 89, 3) := by decide +kernel
theorem dX7_person_26 : decode cX7_person 26 = .ok (.ifCond .eq 13, 3) := by decide +kernel
theorem dX7_person_29 : decode cX7_person 29 = .ok (.new 50, 3) := by decide +kernel
theorem dX7_person_32 : decode cX7_person 32 = .ok (.dup, 1) := by decide +kernel
theorem dX7_person_33 : decode cX7_person 33 = .ok (.ldc 93, 2) := by decide +kernel
theorem dX7_person_35 : decode cX7_person 35 = .ok (.invokespecial 54, 3) := by decide +kernel
theorem dX7_person_38 : decode cX7_person 38 = .ok (.athrow, 1) := by decide +kernel
theorem dX7_person_39 : decode cX7_person 39 = .ok (.aload_n 0, 1) := by decide +kernel
theorem dX7_person_40 : decode cX7_person 40 = .ok (.getfield 95, 3) := by decide +kernel
theorem dX7_person_43 : decode cX7_person 43 = .ok (.bipush 6, 2) := by decide +kernel
theorem dX7_person_45 : decode cX7_person 45 = .ok (.if_icmp .lt 13, 3) := by decide +kernel
theorem dX7_person_48 : decode cX7_person 48 = .ok (.new 61, 3) := by decide +kernel
theorem dX7_person_51 : decode cX7_person 51 = .ok (.dup, 1) := by decide +kernel
theorem dX7_person_52 : decode cX7_person 52 = .ok (.ldc 98, 2) := by decide +kernel
theorem dX7_person_54 : decode cX7_person 54 = .ok (.invokespecial 65, 3) := by decide +kernel
theorem dX7_person_57 : decode cX7_person 57 = .ok (.athrow, 1) := by decide +kernel
theorem dX7_person_58 : decode cX7_person 58 = .ok (.aload_n 0, 1) := by decide +kernel
theorem dX7_person_59 : decode cX7_person 59 = .ok (.getfield 17, 3) := by decide +kernel
theorem dX7_person_62 : decode cX7_person 62 = .ok (.aload_n 0, 1) := by decide +kernel
theorem dX7_person_63 : decode cX7_person 63 = .ok (.getfield 95, 3) := by decide +kernel
theorem dX7_person_66 : decode cX7_person 66 = .ok (.new 15, 3) := by decide +kernel
theorem dX7_person_69 : decode cX7_person 69 = .ok (.dup, 1) := by decide +kernel
theorem dX7_person_70 : decode cX7_person 70 = .ok (.aload_n 0, 1) := by decide +kernel
theorem dX7_person_71 : decode cX7_person 71 = .ok (.getfield 95, 3) := by decide +kernel
theorem dX7_person_74 : decode cX7_person 74 = .ok (.iload_n 1, 1) := by decide +kernel
theorem dX7_person_75 : decode cX7_person 75 = .ok (.iload_n 2, 1) := by decide +kernel
theorem dX7_person_76 : decode cX7_person 76 = .ok (.iload_n 3, 1) := by decide +kernel
theorem dX7_person_77 : decode cX7_person 77 = .ok (.iload 4, 2) := by decide +kernel
theorem dX7_person_79 : decode cX7_person 79 = .ok (.invokespecial 100, 3) := by decide +kernel
theorem dX7_person_82 : decode cX7_person 82 = .ok (.aastore, 1) := by decide +kernel
theorem dX7_person_83 : decode cX7_person 83 = .ok (.aload_n 0, 1) := by decide +kernel
theorem dX7_person_84 : decode cX7_person 84 = .ok (.dup, 1) := by decide +kernel
theorem dX7_person_85 : decode cX7_person 85 = .ok (.getfield 95, 3) := by decide +kernel
theorem dX7_person_88 : decode cX7_person 88 = .ok (.iconst 1, 1) := by decide +kernel
theorem dX7_person_89 : decode cX7_person 89 = .ok (.iadd, 1) := by decide +kernel
theorem dX7_person_90 : decode cX7_person 90 = .ok (.putfield 95, 3) := by decide +kernel
theorem dX7_person_93 : decode cX7_person 93 = .ok (.aload_n 0, 1) := by decide +kernel
theorem dX7_person_94 : decode cX7_person 94 = .ok (.getfield 95, 3) := by decide +kernel
theorem dX7_person_97 : decode cX7_person 97 = .ok (.iconst 1, 1) := by decide +kernel
theorem dX7_person_98 : decode cX7_person 98 = .ok (.isub, 1) := by decide +kernel
theorem dX7_person_99 : decode cX7_person 99 = .ok (.ireturn, 1) := by decide +kernel
theorem dX7_measure_0 : decode cX7_measure 0 = .ok (.aload_n 0, 1) := by decide +kernel
theorem dX7_measure_1 : decode cX7_measure 1 = .ok (.iload_n 1, 1) := by decide +kernel
theorem dX7_measure_2 : decode cX7_measure 2 = .ok (.invokevirtual 103, 3) := by decide +kernel
theorem dX7_measure_5 : decode cX7_measure 5 = .ok (.astore 4, 2) := by decide +kernel
theorem dX7_measure_7 : decode cX7_measure 7 = .ok (.iload_n 2, 1) := by decide +kernel
theorem dX7_measure_8 : decode cX7_measure 8 = .ok (.iconst 0, 1) := by decide +kernel
theorem dX7_measure_9 : decode cX7_measure 9 = .ok (.iconst 3, 1) := by decide +kernel
theorem dX7_measure_10 : decode cX7_measure 10 = .ok (.invokestatic 46, 3) := by decide +kernel
theorem dX7_measure_13 : decode cX7_measure 13 = .ok (.ifCond .eq 13, 3) := by decide +kernel
theorem dX7_measure_16 : decode cX7_measure 16 = .ok (.new 107, 3) := by decide +kernel
theorem dX7_measure_19 : decode cX7_measure 19 = .ok (.dup, 1) := by decide +kernel
theorem dX7_measure_20 : decode cX7_measure 20 = .ok (.ldc 109, 2) := by decide +kernel
theorem dX7_measure_22 : decode cX7_measure 22 = .ok (.invokespecial 111, 3) := by decide +kernel
theorem dX7_measure_25 : decode cX7_measure 25 = .ok (.athrow, 1) := by decide +kernel
theorem dX7_measure_26 : decode cX7_measure 26 = .ok (.iload_n 3, 1) := by decide +kernel
theorem dX7_measure_27 : decode cX7_measure 27 = .ok (.invokestatic 89, 3) := by decide +kernel
theorem dX7_measure_30 : decode cX7_measure 30 = .ok (.ifCond .eq 13, 3) := by decide +kernel
theorem dX7_measure_33 : decode cX7_measure 33 = .ok (.new 50, 3) := by decide +kernel
theorem dX7_measure_36 : decode cX7_measure 36 = .ok (.dup, 1) := by decide +kernel
theorem dX7_measure_37 : decode cX7_measure 37 = .ok (.ldc 93, 2) := by decide +kernel
theorem dX7_measure_39 : decode cX7_measure 39 = .ok (.invokespecial 54, 3) := by decide +kernel
theorem dX7_measure_42 : decode cX7_measure 42 = .ok (.athrow, 1) := by decide +kernel
theorem dX7_measure_43 : decode cX7_measure 43 = .ok (.aload 4, 2) := by decide +kernel
theorem dX7_measure_45 : decode cX7_measure 45 = .ok (.iload_n 2, 1) := by decide +kernel
theorem dX7_measure_46 : decode cX7_measure 46 = .ok (.invokevirtual 112, 3) := by decide +kernel
theorem dX7_measure_49 : decode cX7_measure 49 = .ok (.istore 5, 2) := by decide +kernel
theorem dX7_measure_51 : decode cX7_measure 51 = .ok (.aload 4, 2) := by decide +kernel
theorem dX7_measure_53 : decode cX7_measure 53 = .ok (.iload_n 2, 1) := by decide +kernel
theorem dX7_measure_54 : decode cX7_measure 54 = .ok (.iload_n 3, 1) := by decide +kernel
theorem dX7_measure_55 : decode cX7_measure 55 = .ok (.invokevirtual 116, 3) := by decide +kernel
theorem dX7_measure_58 : decode cX7_measure 58 = .ok (.iload 5, 2) := by decide +kernel
theorem dX7_measure_60 : decode cX7_measure 60 = .ok (.ireturn, 1) := by decide +kernel
theorem dX7_style_0 : decode cX7_style 0 = .ok (.aload_n 0, 1) := by decide +kernel
theorem dX7_style_1 : decode cX7_style 1 = .ok (.getfield 120, 3) := by decide +kernel
theorem dX7_style_4 : decode cX7_style 4 = .ok (.iconst 3, 1) := by decide +kernel
theorem dX7_style_5 : decode cX7_style 5 = .ok (.if_icmp .lt 13, 3) := by decide +kernel
theorem dX7_style_8 : decode cX7_style 8 = .ok (.new 61, 3) := by decide +kernel
theorem dX7_style_11 : decode cX7_style 11 = .ok (.dup, 1) := by decide +kernel
theorem dX7_style_12 : decode cX7_style 12 = .ok (.ldc 123, 2) := by decide +kernel
theorem dX7_style_14 : decode cX7_style 14 = .ok (.invokespecial 65, 3) := by decide +kernel
theorem dX7_style_17 : decode cX7_style 17 = .ok (.athrow, 1) := by decide +kernel
theorem dX7_style_18 : decode cX7_style 18 = .ok (.aload_n 0, 1) := by decide +kernel
theorem dX7_style_19 : decode cX7_style 19 = .ok (.getfield 23, 3) := by decide +kernel
theorem dX7_style_22 : decode cX7_style 22 = .ok (.aload_n 0, 1) := by decide +kernel
theorem dX7_style_23 : decode cX7_style 23 = .ok (.getfield 120, 3) := by decide +kernel
theorem dX7_style_26 : decode cX7_style 26 = .ok (.new 21, 3) := by decide +kernel
theorem dX7_style_29 : decode cX7_style 29 = .ok (.dup, 1) := by decide +kernel
theorem dX7_style_30 : decode cX7_style 30 = .ok (.aload_n 0, 1) := by decide +kernel
theorem dX7_style_31 : decode cX7_style 31 = .ok (.getfield 120, 3) := by decide +kernel
theorem dX7_style_34 : decode cX7_style 34 = .ok (.invokespecial 125, 3) := by decide +kernel
theorem dX7_style_37 : decode cX7_style 37 = .ok (.aastore, 1) := by decide +kernel
theorem dX7_style_38 : decode cX7_style 38 = .ok (.aload_n 0, 1) := by decide +kernel
theorem dX7_style_39 : decode cX7_style 39 = .ok (.dup, 1) := by decide +kernel
theorem dX7_style_40 : decode cX7_style 40 = .ok (.getfield 120, 3) := by decide +kernel
theorem dX7_style_43 : decode cX7_style 43 = .ok (.iconst 1, 1) := by decide +kernel
theorem dX7_style_44 : decode cX7_style 44 = .ok (.iadd, 1) := by decide +kernel
theorem dX7_style_45 : decode cX7_style 45 = .ok (.putfield 120, 3) := by decide +kernel
theorem dX7_style_48 : decode cX7_style 48 = .ok (.aload_n 0, 1) := by decide +kernel
theorem dX7_style_49 : decode cX7_style 49 = .ok (.getfield 120, 3) := by decide +kernel
theorem dX7_style_52 : decode cX7_style 52 = .ok (.iconst 1, 1) := by decide +kernel
theorem dX7_style_53 : decode cX7_style 53 = .ok (.isub, 1) := by decide +kernel
theorem dX7_style_54 : decode cX7_style 54 = .ok (.ireturn, 1) := by decide +kernel
theorem dX7_piece_0 : decode cX7_piece 0 = .ok (.aload_n 0, 1) := by decide +kernel
theorem dX7_piece_1 : decode cX7_piece 1 = .ok (.iload_n 1, 1) := by decide +kernel
theorem dX7_piece_2 : decode cX7_piece 2 = .ok (.invokevirtual 128, 3) := by decide +kernel
theorem dX7_piece_5 : decode cX7_piece 5 = .ok (.astore 6, 2) := by decide +kernel
theorem dX7_piece_7 : decode cX7_piece 7 = .ok (.iload_n 2, 1) := by decide +kernel
theorem dX7_piece_8 : decode cX7_piece 8 = .ok (.invokestatic 132, 3) := by decide +kernel
theorem dX7_piece_11 : decode cX7_piece 11 = .ok (.ifCond .ne 31, 3) := by decide +kernel
theorem dX7_piece_14 : decode cX7_piece 14 = .ok (.iload_n 3, 1) := by decide +kernel
theorem dX7_piece_15 : decode cX7_piece 15 = .ok (.invokestatic 132, 3) := by decide +kernel
theorem dX7_piece_18 : decode cX7_piece 18 = .ok (.ifCond .ne 24, 3) := by decide +kernel
theorem dX7_piece_21 : decode cX7_piece 21 = .ok (.iload 4, 2) := by decide +kernel
theorem dX7_piece_23 : decode cX7_piece 23 = .ok (.iconst 0, 1) := by decide +kernel
theorem dX7_piece_24 : decode cX7_piece 24 = .ok (.bipush 40, 2) := by decide +kernel
theorem dX7_piece_26 : decode cX7_piece 26 = .ok (.invokestatic 46, 3) := by decide +kernel
theorem dX7_piece_29 : decode cX7_piece 29 = .ok (.ifCond .ne 13, 3) := by decide +kernel
theorem dX7_piece_32 : decode cX7_piece 32 = .ok (.iload 5, 2) := by decide +kernel
theorem dX7_piece_34 : decode cX7_piece 34 = .ok (.iconst 1, 1) := by decide +kernel
theorem dX7_piece_35 : decode cX7_piece 35 = .ok (.iconst 4, 1) := by decide +kernel
theorem dX7_piece_36 : decode cX7_piece 36 = .ok (.invokestatic 46, 3) := by decide +kernel
theorem dX7_piece_39 : decode cX7_piece 39 = .ok (.ifCond .eq 13, 3) := by decide +kernel
theorem dX7_piece_42 : decode cX7_piece 42 = .ok (.new 50, 3) := by decide +kernel
theorem dX7_piece_45 : decode cX7_piece 45 = .ok (.dup, 1) := by decide +kernel
theorem dX7_piece_46 : decode cX7_piece 46 = .ok (.ldc 135, 2) := by decide +kernel
theorem dX7_piece_48 : decode cX7_piece 48 = .ok (.invokespecial 54, 3) := by decide +kernel
theorem dX7_piece_51 : decode cX7_piece 51 = .ok (.athrow, 1) := by decide +kernel
theorem dX7_piece_52 : decode cX7_piece 52 = .ok (.aload 6, 2) := by decide +kernel
theorem dX7_piece_54 : decode cX7_piece 54 = .ok (.getfield 137, 3) := by decide +kernel
theorem dX7_piece_57 : decode cX7_piece 57 = .ok (.iconst 5, 1) := by decide +kernel
theorem dX7_piece_58 : decode cX7_piece 58 = .ok (.if_icmp .ge 11, 3) := by decide +kernel
theorem dX7_piece_61 : decode cX7_piece 61 = .ok (.aload 6, 2) := by decide +kernel
theorem dX7_piece_63 : decode cX7_piece 63 = .ok (.getfield 140, 3) := by decide +kernel
theorem dX7_piece_66 : decode cX7_piece 66 = .ok (.ifCond .eq 13, 3) := by decide +kernel
theorem dX7_piece_69 : decode cX7_piece 69 = .ok (.new 61, 3) := by decide +kernel
theorem dX7_piece_72 : decode cX7_piece 72 = .ok (.dup, 1) := by decide +kernel
theorem dX7_piece_73 : decode cX7_piece 73 = .ok (.ldc 144, 2) := by decide +kernel
theorem dX7_piece_75 : decode cX7_piece 75 = .ok (.invokespecial 65, 3) := by decide +kernel
theorem dX7_piece_78 : decode cX7_piece 78 = .ok (.athrow, 1) := by decide +kernel
theorem dX7_piece_79 : decode cX7_piece 79 = .ok (.aload 6, 2) := by decide +kernel
theorem dX7_piece_81 : decode cX7_piece 81 = .ok (.getfield 146, 3) := by decide +kernel
theorem dX7_piece_84 : decode cX7_piece 84 = .ok (.aload 6, 2) := by decide +kernel
theorem dX7_piece_86 : decode cX7_piece 86 = .ok (.getfield 137, 3) := by decide +kernel
theorem dX7_piece_89 : decode cX7_piece 89 = .ok (.new 150, 3) := by decide +kernel
theorem dX7_piece_92 : decode cX7_piece 92 = .ok (.dup, 1) := by decide +kernel
theorem dX7_piece_93 : decode cX7_piece 93 = .ok (.iload_n 2, 1) := by decide +kernel
theorem dX7_piece_94 : decode cX7_piece 94 = .ok (.iload_n 3, 1) := by decide +kernel
theorem dX7_piece_95 : decode cX7_piece 95 = .ok (.iload 4, 2) := by decide +kernel
theorem dX7_piece_97 : decode cX7_piece 97 = .ok (.i2d, 1) := by decide +kernel
theorem dX7_piece_98 : decode cX7_piece 98 = .ok (.ldc2_w 152, 3) := by decide +kernel
theorem dX7_piece_101 : decode cX7_piece 101 = .ok (.ddiv, 1) := by decide +kernel
theorem dX7_piece_102 : decode cX7_piece 102 = .ok (.iload 5, 2) := by decide +kernel
theorem dX7_piece_104 : decode cX7_piece 104 = .ok (.invokespecial 154, 3) := by decide +kernel
theorem dX7_piece_107 : decode cX7_piece 107 = .ok (.aastore, 1) := by decide +kernel
theorem dX7_piece_108 : decode cX7_piece 108 = .ok (.aload 6, 2) := by decide +kernel
theorem dX7_piece_110 : decode cX7_piece 110 = .ok (.dup, 1) := by decide +kernel
theorem dX7_piece_111 : decode cX7_piece 111 = .ok (.getfield 137, 3) := by decide +kernel
theorem dX7_piece_114 : decode cX7_piece 114 = .ok (.iconst 1, 1) := by decide +kernel
theorem dX7_piece_115 : decode cX7_piece 115 = .ok (.iadd, 1) := by decide +kernel
theorem dX7_piece_116 : decode cX7_piece 116 = .ok (.putfield 137, 3) := by decide +kernel
theorem dX7_piece_119 : decode cX7_piece 119 = .ok (.aload 6, 2) := by decide +kernel
theorem dX7_piece_121 : decode cX7_piece 121 = .ok (.dup, 1) := by decide +kernel
theorem dX7_piece_122 : decode cX7_piece 122 = .ok (.getfield 157, 3) := by decide +kernel
theorem dX7_piece_125 : decode cX7_piece 125 = .ok (.iload 5, 2) := by decide +kernel
theorem dX7_piece_127 : decode cX7_piece 127 = .ok (.iadd, 1) := by decide +kernel
theorem dX7_piece_128 : decode cX7_piece 128 = .ok (.putfield 157, 3) := by decide +kernel
theorem dX7_piece_131 : decode cX7_piece 131 = .ok (.aload 6, 2) := by decide +kernel
theorem dX7_piece_133 : decode cX7_piece 133 = .ok (.getfield 137, 3) := by decide +kernel
theorem dX7_piece_136 : decode cX7_piece 136 = .ok (.ireturn, 1) := by decide +kernel
theorem dX7_hand_0 : decode cX7_hand 0 = .ok (.iload_n 1, 1) := by decide +kernel
theorem dX7_hand_1 : decode cX7_hand 1 = .ok (.iconst 1, 1) := by decide +kernel
theorem dX7_hand_2 : decode cX7_hand 2 = .ok (.bipush 16, 2) := by decide +kernel
theorem dX7_hand_4 : decode cX7_hand 4 = .ok (.invokestatic 46, 3) := by decide +kernel
theorem dX7_hand_7 : decode cX7_hand 7 = .ok (.ifCond .eq 13, 3) := by decide +kernel
theorem dX7_hand_10 : decode cX7_hand 10 = .ok (.new 50, 3) := by decide +kernel
theorem dX7_hand_13 : decode cX7_hand 13 = .ok (.dup, 1) := by decide +kernel
theorem dX7_hand_14 : decode cX7_hand 14 = .ok (.ldc 160, 2) := by decide +kernel
theorem dX7_hand_16 : decode cX7_hand 16 = .ok (.invokespecial 54, 3) := by decide +kernel
theorem dX7_hand_19 : decode cX7_hand 19 = .ok (.athrow, 1) := by decide +kernel
theorem dX7_hand_20 : decode cX7_hand 20 = .ok (.aload_n 0, 1) := by decide +kernel
theorem dX7_hand_21 : decode cX7_hand 21 = .ok (.getfield 162, 3) := by decide +kernel
theorem dX7_hand_24 : decode cX7_hand 24 = .ok (.iconst 3, 1) := by decide +kernel
theorem dX7_hand_25 : decode cX7_hand 25 = .ok (.if_icmp .lt 13, 3) := by decide +kernel
theorem dX7_hand_28 : decode cX7_hand 28 = .ok (.new 61, 3) := by decide +kernel
theorem dX7_hand_31 : decode cX7_hand 31 = .ok (.dup, 1) := by decide +kernel
theorem dX7_hand_32 : decode cX7_hand 32 = .ok (.ldc 165, 2) := by decide +kernel
theorem dX7_hand_34 : decode cX7_hand 34 = .ok (.invokespecial 65, 3) := by decide +kernel
theorem dX7_hand_37 : decode cX7_hand 37 = .ok (.athrow, 1) := by decide +kernel
theorem dX7_hand_38 : decode cX7_hand 38 = .ok (.aload_n 0, 1) := by decide +kernel
theorem dX7_hand_39 : decode cX7_hand 39 = .ok (.getfield 29, 3) := by decide +kernel
theorem dX7_hand_42 : decode cX7_hand 42 = .ok (.aload_n 0, 1) := by decide +kernel
theorem dX7_hand_43 : decode cX7_hand 43 = .ok (.getfield 162, 3) := by decide +kernel
theorem dX7_hand_46 : decode cX7_hand 46 = .ok (.new 27, 3) := by decide +kernel
theorem dX7_hand_49 : decode cX7_hand 49 = .ok (.dup, 1) := by decide +kernel
theorem dX7_hand_50 : decode cX7_hand 50 = .ok (.iload_n 1, 1) := by decide +kernel
theorem dX7_hand_51 : decode cX7_hand 51 = .ok (.i2f, 1) := by decide +kernel
theorem dX7_hand_52 : decode cX7_hand 52 = .ok (.ldc 167, 2) := by decide +kernel
theorem dX7_hand_54 : decode cX7_hand 54 = .ok (.fdiv, 1) := by decide +kernel
theorem dX7_hand_55 : decode cX7_hand 55 = .ok (.invokespecial 168, 3) := by decide +kernel
theorem dX7_hand_58 : decode cX7_hand 58 = .ok (.aastore, 1) := by decide +kernel
theorem dX7_hand_59 : decode cX7_hand 59 = .ok (.aload_n 0, 1) := by decide +kernel
theorem dX7_hand_60 : decode cX7_hand 60 = .ok (.dup, 1) := by decide +kernel
theorem dX7_hand_61 : decode cX7_hand 61 = .ok (.getfield 162, 3) := by decide +kernel
theorem dX7_hand_64 : decode cX7_hand 64 = .ok (.iconst 1, 1) := by decide +kernel
theorem dX7_hand_65 : decode cX7_hand 65 = .ok (.iadd, 1) := by decide +kernel
theorem dX7_hand_66 : decode cX7_hand 66 = .ok (.putfield 162, 3) := by decide +kernel
theorem dX7_hand_69 : decode cX7_hand 69 = .ok (.aload_n 0, 1) := by decide +kernel
theorem dX7_hand_70 : decode cX7_hand 70 = .ok (.getfield 162, 3) := by decide +kernel
theorem dX7_hand_73 : decode cX7_hand 73 = .ok (.iconst 1, 1) := by decide +kernel
theorem dX7_hand_74 : decode cX7_hand 74 = .ok (.isub, 1) := by decide +kernel
theorem dX7_hand_75 : decode cX7_hand 75 = .ok (.ireturn, 1) := by decide +kernel
theorem dX7_order_0 : decode cX7_order 0 = .ok (.aload_n 0, 1) := by decide +kernel
theorem dX7_order_1 : decode cX7_order 1 = .ok (.iload_n 1, 1) := by decide +kernel
theorem dX7_order_2 : decode cX7_order 2 = .ok (.invokevirtual 103, 3) := by decide +kernel
theorem dX7_order_5 : decode cX7_order 5 = .ok (.astore 4, 2) := by decide +kernel
theorem dX7_order_7 : decode cX7_order 7 = .ok (.aload_n 0, 1) := by decide +kernel
theorem dX7_order_8 : decode cX7_order 8 = .ok (.iload_n 2, 1) := by decide +kernel
theorem dX7_order_9 : decode cX7_order 9 = .ok (.invokevirtual 128, 3) := by decide +kernel
theorem dX7_order_12 : decode cX7_order 12 = .ok (.astore 5, 2) := by decide +kernel
theorem dX7_order_14 : decode cX7_order 14 = .ok (.iload_n 3, 1) := by decide +kernel
theorem dX7_order_15 : decode cX7_order 15 = .ok (.iconst 0, 1) := by decide +kernel
theorem dX7_order_16 : decode cX7_order 16 = .ok (.sipush 400, 3) := by decide +kernel
theorem dX7_order_19 : decode cX7_order 19 = .ok (.invokestatic 46, 3) := by decide +kernel
theorem dX7_order_22 : decode cX7_order 22 = .ok (.ifCond .eq 13, 3) := by decide +kernel
theorem dX7_order_25 : decode cX7_order 25 = .ok (.new 50, 3) := by decide +kernel
theorem dX7_order_28 : decode cX7_order 28 = .ok (.dup, 1) := by decide +kernel
theorem dX7_order_29 : decode cX7_order 29 = .ok (.ldc 171, 2) := by decide +kernel
theorem dX7_order_31 : decode cX7_order 31 = .ok (.invokespecial 54, 3) := by decide +kernel
theorem dX7_order_34 : decode cX7_order 34 = .ok (.athrow, 1) := by decide +kernel
theorem dX7_order_35 : decode cX7_order 35 = .ok (.aload_n 0, 1) := by decide +kernel
theorem dX7_order_36 : decode cX7_order 36 = .ok (.getfield 173, 3) := by decide +kernel
theorem dX7_order_39 : decode cX7_order 39 = .ok (.bipush 8, 2) := by decide +kernel
theorem dX7_order_41 : decode cX7_order 41 = .ok (.if_icmp .ge 11, 3) := by decide +kernel
theorem dX7_order_44 : decode cX7_order 44 = .ok (.aload 5, 2) := by decide +kernel
theorem dX7_order_46 : decode cX7_order 46 = .ok (.getfield 137, 3) := by decide +kernel
theorem dX7_order_49 : decode cX7_order 49 = .ok (.ifCond .ne 13, 3) := by decide +kernel
theorem dX7_order_52 : decode cX7_order 52 = .ok (.new 61, 3) := by decide +kernel
theorem dX7_order_55 : decode cX7_order 55 = .ok (.dup, 1) := by decide +kernel
theorem dX7_order_56 : decode cX7_order 56 = .ok (.ldc 176, 2) := by decide +kernel
theorem dX7_order_58 : decode cX7_order 58 = .ok (.invokespecial 65, 3) := by decide +kernel
theorem dX7_order_61 : decode cX7_order 61 = .ok (.athrow, 1) := by decide +kernel
theorem dX7_order_62 : decode cX7_order 62 = .ok (.aload_n 0, 1) := by decide +kernel
theorem dX7_order_63 : decode cX7_order 63 = .ok (.getfield 35, 3) := by decide +kernel
theorem dX7_order_66 : decode cX7_order 66 = .ok (.aload_n 0, 1) := by decide +kernel
theorem dX7_order_67 : decode cX7_order 67 = .ok (.getfield 173, 3) := by decide +kernel
theorem dX7_order_70 : decode cX7_order 70 = .ok (.new 33, 3) := by decide +kernel
theorem dX7_order_73 : decode cX7_order 73 = .ok (.dup, 1) := by decide +kernel
theorem dX7_order_74 : decode cX7_order 74 = .ok (.aload 4, 2) := by decide +kernel
theorem dX7_order_76 : decode cX7_order 76 = .ok (.aload 5, 2) := by decide +kernel
theorem dX7_order_78 : decode cX7_order 78 = .ok (.aload_n 0, 1) := by decide +kernel
theorem dX7_order_79 : decode cX7_order 79 = .ok (.getfield 178, 3) := by decide +kernel
theorem dX7_order_82 : decode cX7_order 82 = .ok (.d2i, 1) := by decide +kernel
theorem dX7_order_83 : decode cX7_order 83 = .ok (.iload_n 3, 1) := by decide +kernel
theorem dX7_order_84 : decode cX7_order 84 = .ok (.iadd, 1) := by decide +kernel
theorem dX7_order_85 : decode cX7_order 85 = .ok (.invokespecial 181, 3) := by decide +kernel
theorem dX7_order_88 : decode cX7_order 88 = .ok (.aastore, 1) := by decide +kernel
theorem dX7_order_89 : decode cX7_order 89 = .ok (.aload_n 0, 1) := by decide +kernel
theorem dX7_order_90 : decode cX7_order 90 = .ok (.dup, 1) := by decide +kernel
theorem dX7_order_91 : decode cX7_order 91 = .ok (.getfield 173, 3) := by decide +kernel
theorem dX7_order_94 : decode cX7_order 94 = .ok (.iconst 1, 1) := by decide +kernel
theorem dX7_order_95 : decode cX7_order 95 = .ok (.iadd, 1) := by decide +kernel
theorem dX7_order_96 : decode cX7_order 96 = .ok (.putfield 173, 3) := by decide +kernel
theorem dX7_order_99 : decode cX7_order 99 = .ok (.aload 5, 2) := by decide +kernel
theorem dX7_order_101 : decode cX7_order 101 = .ok (.iconst 1, 1) := by decide +kernel
theorem dX7_order_102 : decode cX7_order 102 = .ok (.putfield 140, 3) := by decide +kernel
theorem dX7_order_105 : decode cX7_order 105 = .ok (.aload_n 0, 1) := by decide +kernel
theorem dX7_order_106 : decode cX7_order 106 = .ok (.getfield 173, 3) := by decide +kernel
theorem dX7_order_109 : decode cX7_order 109 = .ok (.iconst 1, 1) := by decide +kernel
theorem dX7_order_110 : decode cX7_order 110 = .ok (.isub, 1) := by decide +kernel
theorem dX7_order_111 : decode cX7_order 111 = .ok (.ireturn, 1) := by decide +kernel
theorem dX7_cut_0 : decode cX7_cut 0 = .ok (.aload_n 0, 1) := by decide +kernel
theorem dX7_cut_1 : decode cX7_cut 1 = .ok (.iload_n 1, 1) := by decide +kernel
theorem dX7_cut_2 : decode cX7_cut 2 = .ok (.invokevirtual 184, 3) := by decide +kernel
theorem dX7_cut_5 : decode cX7_cut 5 = .ok (.astore 4, 2) := by decide +kernel
theorem dX7_cut_7 : decode cX7_cut 7 = .ok (.aload_n 0, 1) := by decide +kernel
theorem dX7_cut_8 : decode cX7_cut 8 = .ok (.iload_n 2, 1) := by decide +kernel
theorem dX7_cut_9 : decode cX7_cut 9 = .ok (.invokevirtual 188, 3) := by decide +kernel
theorem dX7_cut_12 : decode cX7_cut 12 = .ok (.astore 5, 2) := by decide +kernel
theorem dX7_cut_14 : decode cX7_cut 14 = .ok (.aload_n 0, 1) := by decide +kernel
theorem dX7_cut_15 : decode cX7_cut 15 = .ok (.iload_n 3, 1) := by decide +kernel
theorem dX7_cut_16 : decode cX7_cut 16 = .ok (.invokevirtual 70, 3) := by decide +kernel
theorem dX7_cut_19 : decode cX7_cut 19 = .ok (.astore 6, 2) := by decide +kernel
theorem dX7_cut_21 : decode cX7_cut 21 = .ok (.iload_n 1, 1) := by decide +kernel
theorem dX7_cut_22 : decode cX7_cut 22 = .ok (.iload_n 2, 1) := by decide +kernel
theorem dX7_cut_23 : decode cX7_cut 23 = .ok (.if_icmp .ne 13, 3) := by decide +kernel
theorem dX7_cut_26 : decode cX7_cut 26 = .ok (.new 50, 3) := by decide +kernel
theorem dX7_cut_29 : decode cX7_cut 29 = .ok (.dup, 1) := by decide +kernel
theorem dX7_cut_30 : decode cX7_cut 30 = .ok (.ldc 191, 2) := by decide +kernel
theorem dX7_cut_32 : decode cX7_cut 32 = .ok (.invokespecial 54, 3) := by decide +kernel
theorem dX7_cut_35 : decode cX7_cut 35 = .ok (.athrow, 1) := by decide +kernel
theorem dX7_cut_36 : decode cX7_cut 36 = .ok (.aload_n 0, 1) := by decide +kernel
theorem dX7_cut_37 : decode cX7_cut 37 = .ok (.getfield 193, 3) := by decide +kernel
theorem dX7_cut_40 : decode cX7_cut 40 = .ok (.ifCond .ne 24, 3) := by decide +kernel
theorem dX7_cut_43 : decode cX7_cut 43 = .ok (.aload 4, 2) := by decide +kernel
theorem dX7_cut_45 : decode cX7_cut 45 = .ok (.getfield 196, 3) := by decide +kernel
theorem dX7_cut_48 : decode cX7_cut 48 = .ok (.ifCond .ne 16, 3) := by decide +kernel
theorem dX7_cut_51 : decode cX7_cut 51 = .ok (.aload 5, 2) := by decide +kernel
theorem dX7_cut_53 : decode cX7_cut 53 = .ok (.ifnull 21, 3) := by decide +kernel
theorem dX7_cut_56 : decode cX7_cut 56 = .ok (.aload 5, 2) := by decide +kernel
theorem dX7_cut_58 : decode cX7_cut 58 = .ok (.getfield 196, 3) := by decide +kernel
theorem dX7_cut_61 : decode cX7_cut 61 = .ok (.ifCond .eq 13, 3) := by decide +kernel
theorem dX7_cut_64 : decode cX7_cut 64 = .ok (.new 61, 3) := by decide +kernel
theorem dX7_cut_67 : decode cX7_cut 67 = .ok (.dup, 1) := by decide +kernel
theorem dX7_cut_68 : decode cX7_cut 68 = .ok (.ldc 199, 2) := by decide +kernel
theorem dX7_cut_70 : decode cX7_cut 70 = .ok (.invokespecial 65, 3) := by decide +kernel
theorem dX7_cut_73 : decode cX7_cut 73 = .ok (.athrow, 1) := by decide +kernel
theorem dX7_cut_74 : decode cX7_cut 74 = .ok (.aload_n 0, 1) := by decide +kernel
theorem dX7_cut_75 : decode cX7_cut 75 = .ok (.getfield 42, 3) := by decide +kernel
theorem dX7_cut_78 : decode cX7_cut 78 = .ok (.aload 4, 2) := by decide +kernel
theorem dX7_cut_80 : decode cX7_cut 80 = .ok (.aload 5, 2) := by decide +kernel
theorem dX7_cut_82 : decode cX7_cut 82 = .ok (.aload 6, 2) := by decide +kernel
theorem dX7_cut_84 : decode cX7_cut 84 = .ok (.invokevirtual 201, 3) := by decide +kernel
theorem dX7_cut_87 : decode cX7_cut 87 = .ok (.ifCond .ne 7, 3) := by decide +kernel
theorem dX7_cut_90 : decode cX7_cut 90 = .ok (.ldc2_w 205, 3) := by decide +kernel
theorem dX7_cut_93 : decode cX7_cut 93 = .ok (.dreturn, 1) := by decide +kernel
theorem dX7_cut_94 : decode cX7_cut 94 = .ok (.aload_n 0, 1) := by decide +kernel
theorem dX7_cut_95 : decode cX7_cut 95 = .ok (.getfield 42, 3) := by decide +kernel
theorem dX7_cut_98 : decode cX7_cut 98 = .ok (.getfield 207, 3) := by decide +kernel
theorem dX7_cut_101 : decode cX7_cut 101 = .ok (.dstore 7, 2) := by decide +kernel
theorem dX7_cut_103 : decode cX7_cut 103 = .ok (.aload 6, 2) := by decide +kernel
theorem dX7_cut_105 : decode cX7_cut 105 = .ok (.getfield 82, 3) := by decide +kernel
theorem dX7_cut_108 : decode cX7_cut 108 = .ok (.dload 7, 2) := by decide +kernel
theorem dX7_cut_110 : decode cX7_cut 110 = .ok (.dcmp .g, 1) := by decide +kernel
theorem dX7_cut_111 : decode cX7_cut 111 = .ok (.ifCond .ge 7, 3) := by decide +kernel
theorem dX7_cut_114 : decode cX7_cut 114 = .ok (.ldc2_w 210, 3) := by decide +kernel
theorem dX7_cut_117 : decode cX7_cut 117 = .ok (.dreturn, 1) := by decide +kernel
theorem dX7_cut_118 : decode cX7_cut 118 = .ok (.aload 6, 2) := by decide +kernel
theorem dX7_cut_120 : decode cX7_cut 120 = .ok (.aload 6, 2) := by decide +kernel
theorem dX7_cut_122 : decode cX7_cut 122 = .ok (.getfield 82, 3) := by decide +kernel
theorem dX7_cut_125 : decode cX7_cut 125 = .ok (.dload 7, 2) := by decide +kernel
theorem dX7_cut_127 : decode cX7_cut 127 = .ok (.dsub, 1) := by decide +kernel
theorem dX7_cut_128 : decode cX7_cut 128 = .ok (.putfield 82, 3) := by decide +kernel
theorem dX7_cut_131 : decode cX7_cut 131 = .ok (.aload 5, 2) := by decide +kernel
theorem dX7_cut_133 : decode cX7_cut 133 = .ok (.ifnonnull 19, 3) := by decide +kernel
theorem dX7_cut_136 : decode cX7_cut 136 = .ok (.aload 4, 2) := by decide +kernel
theorem dX7_cut_138 : decode cX7_cut 138 = .ok (.iload_n 3, 1) := by decide +kernel
theorem dX7_cut_139 : decode cX7_cut 139 = .ok (.aload 6, 2) := by decide +kernel
theorem dX7_cut_141 : decode cX7_cut 141 = .ok (.dload 7, 2) := by decide +kernel
theorem dX7_cut_143 : decode cX7_cut 143 = .ok (.invokestatic 212, 3) := by decide +kernel
theorem dX7_cut_146 : decode cX7_cut 146 = .ok (.invokevirtual 216, 3) := by decide +kernel
theorem dX7_cut_149 : decode cX7_cut 149 = .ok (.goto 32, 3) := by decide +kernel
theorem dX7_cut_152 : decode cX7_cut 152 = .ok (.aload 6, 2) := by decide +kernel
theorem dX7_cut_154 : decode cX7_cut 154 = .ok (.dload 7, 2) := by decide +kernel
theorem dX7_cut_156 : decode cX7_cut 156 = .ok (.ldc2_w 219, 3) := by decide +kernel
theorem dX7_cut_159 : decode cX7_cut 159 = .ok (.ddiv, 1) := by decide +kernel
theorem dX7_cut_160 : decode cX7_cut 160 = .ok (.invokestatic 212, 3) := by decide +kernel
theorem dX7_cut_163 : decode cX7_cut 163 = .ok (.istore 9, 2) := by decide +kernel
theorem dX7_cut_165 : decode cX7_cut 165 = .ok (.aload 4, 2) := by decide +kernel
theorem dX7_cut_167 : decode cX7_cut 167 = .ok (.iload_n 3, 1) := by decide +kernel
theorem dX7_cut_168 : decode cX7_cut 168 = .ok (.iload 9, 2) := by decide +kernel
theorem dX7_cut_170 : decode cX7_cut 170 = .ok (.invokevirtual 216, 3) := by decide +kernel
theorem dX7_cut_173 : decode cX7_cut 173 = .ok (.aload 5, 2) := by decide +kernel
theorem dX7_cut_175 : decode cX7_cut 175 = .ok (.iload_n 3, 1) := by decide +kernel
theorem dX7_cut_176 : decode cX7_cut 176 = .ok (.iload 9, 2) := by decide +kernel
theorem dX7_cut_178 : decode cX7_cut 178 = .ok (.invokevirtual 216, 3) := by decide +kernel
theorem dX7_cut_181 : decode cX7_cut 181 = .ok (.aload_n 0, 1) := by decide +kernel
theorem dX7_cut_182 : decode cX7_cut 182 = .ok (.ldc2_w 221, 3) := by decide +kernel
theorem dX7_cut_185 : decode cX7_cut 185 = .ok (.aload_n 0, 1) := by decide +kernel
theorem dX7_cut_186 : decode cX7_cut 186 = .ok (.getfield 42, 3) := by decide +kernel
theorem dX7_cut_189 : decode cX7_cut 189 = .ok (.getfield 223, 3) := by decide +kernel
theorem dX7_cut_192 : decode cX7_cut 192 = .ok (.i2d, 1) := by decide +kernel
theorem dX7_cut_193 : decode cX7_cut 193 = .ok (.dmul, 1) := by decide +kernel
theorem dX7_cut_194 : decode cX7_cut 194 = .ok (.invokevirtual 226, 3) := by decide +kernel
theorem dX7_cut_197 : decode cX7_cut 197 = .ok (.aload 6, 2) := by decide +kernel
theorem dX7_cut_199 : decode cX7_cut 199 = .ok (.getfield 82, 3) := by decide +kernel
theorem dX7_cut_202 : decode cX7_cut 202 = .ok (.dreturn, 1) := by decide +kernel
theorem dX7_sew_0 : decode cX7_sew 0 = .ok (.aload_n 0, 1) := by decide +kernel
theorem dX7_sew_1 : decode cX7_sew 1 = .ok (.iload_n 1, 1) := by decide +kernel
theorem dX7_sew_2 : decode cX7_sew 2 = .ok (.invokevirtual 184, 3) := by decide +kernel
theorem dX7_sew_5 : decode cX7_sew 5 = .ok (.astore_n 3, 1) := by decide +kernel
theorem dX7_sew_6 : decode cX7_sew 6 = .ok (.aload_n 0, 1) := by decide +kernel
theorem dX7_sew_7 : decode cX7_sew 7 = .ok (.iload_n 2, 1) := by decide +kernel
theorem dX7_sew_8 : decode cX7_sew 8 = .ok (.invokevirtual 230, 3) := by decide +kernel
theorem dX7_sew_11 : decode cX7_sew 11 = .ok (.astore 4, 2) := by decide +kernel
theorem dX7_sew_13 : decode cX7_sew 13 = .ok (.aload_n 0, 1) := by decide +kernel
theorem dX7_sew_14 : decode cX7_sew 14 = .ok (.getfield 193, 3) := by decide +kernel
theorem dX7_sew_17 : decode cX7_sew 17 = .ok (.ifCond .ne 11, 3) := by decide +kernel
theorem dX7_sew_20 : decode cX7_sew 20 = .ok (.aload_n 3, 1) := by decide +kernel
theorem dX7_sew_21 : decode cX7_sew 21 = .ok (.getfield 196, 3) := by decide +kernel
theorem dX7_sew_24 : decode cX7_sew 24 = .ok (.iconst 1, 1) := by decide +kernel
theorem dX7_sew_25 : decode cX7_sew 25 = .ok (.if_icmp .eq 13, 3) := by decide +kernel
theorem dX7_sew_28 : decode cX7_sew 28 = .ok (.new 61, 3) := by decide +kernel
theorem dX7_sew_31 : decode cX7_sew 31 = .ok (.dup, 1) := by decide +kernel
theorem dX7_sew_32 : decode cX7_sew 32 = .ok (.ldc 234, 2) := by decide +kernel
theorem dX7_sew_34 : decode cX7_sew 34 = .ok (.invokespecial 65, 3) := by decide +kernel
theorem dX7_sew_37 : decode cX7_sew 37 = .ok (.athrow, 1) := by decide +kernel
theorem dX7_sew_38 : decode cX7_sew 38 = .ok (.aload 4, 2) := by decide +kernel
theorem dX7_sew_40 : decode cX7_sew 40 = .ok (.aload_n 0, 1) := by decide +kernel
theorem dX7_sew_41 : decode cX7_sew 41 = .ok (.aload_n 3, 1) := by decide +kernel
theorem dX7_sew_42 : decode cX7_sew 42 = .ok (.aload 4, 2) := by decide +kernel
theorem dX7_sew_44 : decode cX7_sew 44 = .ok (.invokevirtual 236, 3) := by decide +kernel
theorem dX7_sew_47 : decode cX7_sew 47 = .ok (.putfield 240, 3) := by decide +kernel
theorem dX7_sew_50 : decode cX7_sew 50 = .ok (.aload_n 3, 1) := by decide +kernel
theorem dX7_sew_51 : decode cX7_sew 51 = .ok (.aload 4, 2) := by decide +kernel
theorem dX7_sew_53 : decode cX7_sew 53 = .ok (.getfield 240, 3) := by decide +kernel
theorem dX7_sew_56 : decode cX7_sew 56 = .ok (.putfield 243, 3) := by decide +kernel
theorem dX7_sew_59 : decode cX7_sew 59 = .ok (.aload_n 3, 1) := by decide +kernel
theorem dX7_sew_60 : decode cX7_sew 60 = .ok (.iload_n 2, 1) := by decide +kernel
theorem dX7_sew_61 : decode cX7_sew 61 = .ok (.putfield 246, 3) := by decide +kernel
theorem dX7_sew_64 : decode cX7_sew 64 = .ok (.aload_n 3, 1) := by decide +kernel
theorem dX7_sew_65 : decode cX7_sew 65 = .ok (.iconst 2, 1) := by decide +kernel
theorem dX7_sew_66 : decode cX7_sew 66 = .ok (.putfield 196, 3) := by decide +kernel
theorem dX7_sew_69 : decode cX7_sew 69 = .ok (.aload_n 3, 1) := by decide +kernel
theorem dX7_sew_70 : decode cX7_sew 70 = .ok (.getfield 243, 3) := by decide +kernel
theorem dX7_sew_73 : decode cX7_sew 73 = .ok (.dreturn, 1) := by decide +kernel
theorem dX7_fit_0 : decode cX7_fit 0 = .ok (.aload_n 0, 1) := by decide +kernel
theorem dX7_fit_1 : decode cX7_fit 1 = .ok (.iload_n 1, 1) := by decide +kernel
theorem dX7_fit_2 : decode cX7_fit 2 = .ok (.invokevirtual 184, 3) := by decide +kernel
theorem dX7_fit_5 : decode cX7_fit 5 = .ok (.astore_n 2, 1) := by decide +kernel
theorem dX7_fit_6 : decode cX7_fit 6 = .ok (.aload_n 0, 1) := by decide +kernel
theorem dX7_fit_7 : decode cX7_fit 7 = .ok (.getfield 193, 3) := by decide +kernel
theorem dX7_fit_10 : decode cX7_fit 10 = .ok (.ifCond .ne 11, 3) := by decide +kernel
theorem dX7_fit_13 : decode cX7_fit 13 = .ok (.aload_n 2, 1) := by decide +kernel
theorem dX7_fit_14 : decode cX7_fit 14 = .ok (.getfield 196, 3) := by decide +kernel
theorem dX7_fit_17 : decode cX7_fit 17 = .ok (.iconst 2, 1) := by decide +kernel
theorem dX7_fit_18 : decode cX7_fit 18 = .ok (.if_icmp .eq 13, 3) := by decide +kernel
theorem dX7_fit_21 : decode cX7_fit 21 = .ok (.new 61, 3) := by decide +kernel
theorem dX7_fit_24 : decode cX7_fit 24 = .ok (.dup, 1) := by decide +kernel
theorem dX7_fit_25 : decode cX7_fit 25 = .ok (.ldc 249, 2) := by decide +kernel
theorem dX7_fit_27 : decode cX7_fit 27 = .ok (.invokespecial 65, 3) := by decide +kernel
theorem dX7_fit_30 : decode cX7_fit 30 = .ok (.athrow, 1) := by decide +kernel
theorem dX7_fit_31 : decode cX7_fit 31 = .ok (.aload_n 2, 1) := by decide +kernel
theorem dX7_fit_32 : decode cX7_fit 32 = .ok (.getfield 243, 3) := by decide +kernel
theorem dX7_fit_35 : decode cX7_fit 35 = .ok (.aload_n 0, 1) := by decide +kernel
theorem dX7_fit_36 : decode cX7_fit 36 = .ok (.getfield 178, 3) := by decide +kernel
theorem dX7_fit_39 : decode cX7_fit 39 = .ok (.dcmp .l, 1) := by decide +kernel
theorem dX7_fit_40 : decode cX7_fit 40 = .ok (.ifCond .le 6, 3) := by decide +kernel
theorem dX7_fit_43 : decode cX7_fit 43 = .ok (.bipush (-2), 2) := by decide +kernel
theorem dX7_fit_45 : decode cX7_fit 45 = .ok (.ireturn, 1) := by decide +kernel
theorem dX7_fit_46 : decode cX7_fit 46 = .ok (.aload_n 2, 1) := by decide +kernel
theorem dX7_fit_47 : decode cX7_fit 47 = .ok (.invokevirtual 251, 3) := by decide +kernel
theorem dX7_fit_50 : decode cX7_fit 50 = .ok (.istore_n 3, 1) := by decide +kernel
theorem dX7_fit_51 : decode cX7_fit 51 = .ok (.iload_n 3, 1) := by decide +kernel
theorem dX7_fit_52 : decode cX7_fit 52 = .ok (.iconst 1, 1) := by decide +kernel
theorem dX7_fit_53 : decode cX7_fit 53 = .ok (.if_icmp .ne 11, 3) := by decide +kernel
theorem dX7_fit_56 : decode cX7_fit 56 = .ok (.aload_n 0, 1) := by decide +kernel
theorem dX7_fit_57 : decode cX7_fit 57 = .ok (.dconst 1, 1) := by decide +kernel
theorem dX7_fit_58 : decode cX7_fit 58 = .ok (.invokevirtual 226, 3) := by decide +kernel
theorem dX7_fit_61 : decode cX7_fit 61 = .ok (.goto 15, 3) := by decide +kernel
theorem dX7_fit_64 : decode cX7_fit 64 = .ok (.iload_n 3, 1) := by decide +kernel
theorem dX7_fit_65 : decode cX7_fit 65 = .ok (.iconst 2, 1) := by decide +kernel
theorem dX7_fit_66 : decode cX7_fit 66 = .ok (.if_icmp .ne 10, 3) := by decide +kernel
theorem dX7_fit_69 : decode cX7_fit 69 = .ok (.aload_n 0, 1) := by decide +kernel
theorem dX7_fit_70 : decode cX7_fit 70 = .ok (.ldc2_w 255, 3) := by decide +kernel
theorem dX7_fit_73 : decode cX7_fit 73 = .ok (.invokevirtual 226, 3) := by decide +kernel
theorem dX7_fit_76 : decode cX7_fit 76 = .ok (.aload_n 2, 1) := by decide +kernel
theorem dX7_fit_77 : decode cX7_fit 77 = .ok (.iload_n 3, 1) := by decide +kernel
theorem dX7_fit_78 : decode cX7_fit 78 = .ok (.putfield 257, 3) := by decide +kernel
theorem dX7_fit_81 : decode cX7_fit 81 = .ok (.aload_n 2, 1) := by decide +kernel
theorem dX7_fit_82 : decode cX7_fit 82 = .ok (.iload_n 3, 1) := by decide +kernel
theorem dX7_fit_83 : decode cX7_fit 83 = .ok (.iconst 3, 1) := by decide +kernel
theorem dX7_fit_84 : decode cX7_fit 84 = .ok (.if_icmp .ne 7, 3) := by decide +kernel
theorem dX7_fit_87 : decode cX7_fit 87 = .ok (.iconst 5, 1) := by decide +kernel
theorem dX7_fit_88 : decode cX7_fit 88 = .ok (.goto 4, 3) := by decide +kernel
theorem dX7_fit_91 : decode cX7_fit 91 = .ok (.iconst 3, 1) := by decide +kernel
theorem dX7_fit_92 : decode cX7_fit 92 = .ok (.putfield 196, 3) := by decide +kernel
theorem dX7_fit_95 : decode cX7_fit 95 = .ok (.iload_n 3, 1) := by decide +kernel
theorem dX7_fit_96 : decode cX7_fit 96 = .ok (.ireturn, 1) := by decide +kernel
theorem dX7_give_0 : decode cX7_give 0 = .ok (.aload_n 0, 1) := by decide +kernel
theorem dX7_give_1 : decode cX7_give 1 = .ok (.iload_n 1, 1) := by decide +kernel
theorem dX7_give_2 : decode cX7_give 2 = .ok (.invokevirtual 184, 3) := by decide +kernel
theorem dX7_give_5 : decode cX7_give 5 = .ok (.astore_n 2, 1) := by decide +kernel
theorem dX7_give_6 : decode cX7_give 6 = .ok (.aload_n 0, 1) := by decide +kernel
theorem dX7_give_7 : decode cX7_give 7 = .ok (.getfield 193, 3) := by decide +kernel
theorem dX7_give_10 : decode cX7_give 10 = .ok (.ifCond .ne 11, 3) := by decide +kernel
theorem dX7_give_13 : decode cX7_give 13 = .ok (.aload_n 2, 1) := by decide +kernel
theorem dX7_give_14 : decode cX7_give 14 = .ok (.getfield 196, 3) := by decide +kernel
theorem dX7_give_17 : decode cX7_give 17 = .ok (.iconst 3, 1) := by decide +kernel
theorem dX7_give_18 : decode cX7_give 18 = .ok (.if_icmp .eq 14, 3) := by decide +kernel
theorem dX7_give_21 : decode cX7_give 21 = .ok (.new 61, 3) := by decide +kernel
theorem dX7_give_24 : decode cX7_give 24 = .ok (.dup, 1) := by decide +kernel
theorem dX7_give_25 : decode cX7_give 25 = .ok (.ldc_w 260, 3) := by decide +kernel
theorem dX7_give_28 : decode cX7_give 28 = .ok (.invokespecial 65, 3) := by decide +kernel
theorem dX7_give_31 : decode cX7_give 31 = .ok (.athrow, 1) := by decide +kernel
theorem dX7_give_32 : decode cX7_give 32 = .ok (.aload_n 0, 1) := by decide +kernel
theorem dX7_give_33 : decode cX7_give 33 = .ok (.getfield 178, 3) := by decide +kernel
theorem dX7_give_36 : decode cX7_give 36 = .ok (.aload_n 2, 1) := by decide +kernel
theorem dX7_give_37 : decode cX7_give 37 = .ok (.getfield 262, 3) := by decide +kernel
theorem dX7_give_40 : decode cX7_give 40 = .ok (.i2d, 1) := by decide +kernel
theorem dX7_give_41 : decode cX7_give 41 = .ok (.dcmp .l, 1) := by decide +kernel
theorem dX7_give_42 : decode cX7_give 42 = .ok (.ifCond .le 21, 3) := by decide +kernel
theorem dX7_give_45 : decode cX7_give 45 = .ok (.aload_n 0, 1) := by decide +kernel
theorem dX7_give_46 : decode cX7_give 46 = .ok (.getfield 178, 3) := by decide +kernel
theorem dX7_give_49 : decode cX7_give 49 = .ok (.aload_n 2, 1) := by decide +kernel
theorem dX7_give_50 : decode cX7_give 50 = .ok (.getfield 262, 3) := by decide +kernel
theorem dX7_give_53 : decode cX7_give 53 = .ok (.i2d, 1) := by decide +kernel
theorem dX7_give_54 : decode cX7_give 54 = .ok (.dsub, 1) := by decide +kernel
theorem dX7_give_55 : decode cX7_give 55 = .ok (.ldc2_w 265, 3) := by decide +kernel
theorem dX7_give_58 : decode cX7_give 58 = .ok (.ddiv, 1) := by decide +kernel
theorem dX7_give_59 : decode cX7_give 59 = .ok (.d2i, 1) := by decide +kernel
theorem dX7_give_60 : decode cX7_give 60 = .ok (.goto 4, 3) := by decide +kernel
theorem dX7_give_63 : decode cX7_give 63 = .ok (.iconst 0, 1) := by decide +kernel
theorem dX7_give_64 : decode cX7_give 64 = .ok (.istore_n 3, 1) := by decide +kernel
theorem dX7_give_65 : decode cX7_give 65 = .ok (.bipush 20, 2) := by decide +kernel
theorem dX7_give_67 : decode cX7_give 67 = .ok (.iconst 5, 1) := by decide +kernel
theorem dX7_give_68 : decode cX7_give 68 = .ok (.aload_n 2, 1) := by decide +kernel
theorem dX7_give_69 : decode cX7_give 69 = .ok (.getfield 267, 3) := by decide +kernel
theorem dX7_give_72 : decode cX7_give 72 = .ok (.getfield 157, 3) := by decide +kernel
theorem dX7_give_75 : decode cX7_give 75 = .ok (.imul, 1) := by decide +kernel
theorem dX7_give_76 : decode cX7_give 76 = .ok (.iadd, 1) := by decide +kernel
theorem dX7_give_77 : decode cX7_give 77 = .ok (.aload_n 2, 1) := by decide +kernel
theorem dX7_give_78 : decode cX7_give 78 = .ok (.getfield 271, 3) := by decide +kernel
theorem dX7_give_81 : decode cX7_give 81 = .ok (.isub, 1) := by decide +kernel
theorem dX7_give_82 : decode cX7_give 82 = .ok (.iconst 3, 1) := by decide +kernel
theorem dX7_give_83 : decode cX7_give 83 = .ok (.iload_n 3, 1) := by decide +kernel
theorem dX7_give_84 : decode cX7_give 84 = .ok (.imul, 1) := by decide +kernel
theorem dX7_give_85 : decode cX7_give 85 = .ok (.isub, 1) := by decide +kernel
theorem dX7_give_86 : decode cX7_give 86 = .ok (.istore 4, 2) := by decide +kernel
theorem dX7_give_88 : decode cX7_give 88 = .ok (.aload_n 0, 1) := by decide +kernel
theorem dX7_give_89 : decode cX7_give 89 = .ok (.dup, 1) := by decide +kernel
theorem dX7_give_90 : decode cX7_give 90 = .ok (.getfield 274, 3) := by decide +kernel
theorem dX7_give_93 : decode cX7_give 93 = .ok (.iload 4, 2) := by decide +kernel
theorem dX7_give_95 : decode cX7_give 95 = .ok (.iadd, 1) := by decide +kernel
theorem dX7_give_96 : decode cX7_give 96 = .ok (.putfield 274, 3) := by decide +kernel
theorem dX7_give_99 : decode cX7_give 99 = .ok (.aload_n 2, 1) := by decide +kernel
theorem dX7_give_100 : decode cX7_give 100 = .ok (.iconst 4, 1) := by decide +kernel
theorem dX7_give_101 : decode cX7_give 101 = .ok (.putfield 196, 3) := by decide +kernel
theorem dX7_give_104 : decode cX7_give 104 = .ok (.iload 4, 2) := by decide +kernel
theorem dX7_give_106 : decode cX7_give 106 = .ok (.ireturn, 1) := by decide +kernel
theorem dX7_pass_0 : decode cX7_pass 0 = .ok (.iload_n 1, 1) := by decide +kernel
theorem dX7_pass_1 : decode cX7_pass 1 = .ok (.iconst 1, 1) := by decide +kernel
theorem dX7_pass_2 : decode cX7_pass 2 = .ok (.bipush 100, 2) := by decide +kernel
theorem dX7_pass_4 : decode cX7_pass 4 = .ok (.invokestatic 46, 3) := by decide +kernel
theorem dX7_pass_7 : decode cX7_pass 7 = .ok (.ifCond .eq 14, 3) := by decide +kernel
theorem dX7_pass_10 : decode cX7_pass 10 = .ok (.new 50, 3) := by decide +kernel
theorem dX7_pass_13 : decode cX7_pass 13 = .ok (.dup, 1) := by decide +kernel
theorem dX7_pass_14 : decode cX7_pass 14 = .ok (.ldc_w 277, 3) := by decide +kernel
theorem dX7_pass_17 : decode cX7_pass 17 = .ok (.invokespecial 54, 3) := by decide +kernel
theorem dX7_pass_20 : decode cX7_pass 20 = .ok (.athrow, 1) := by decide +kernel
theorem dX7_pass_21 : decode cX7_pass 21 = .ok (.aload_n 0, 1) := by decide +kernel
theorem dX7_pass_22 : decode cX7_pass 22 = .ok (.iload_n 1, 1) := by decide +kernel
theorem dX7_pass_23 : decode cX7_pass 23 = .ok (.i2d, 1) := by decide +kernel
theorem dX7_pass_24 : decode cX7_pass 24 = .ok (.invokevirtual 226, 3) := by decide +kernel
theorem dX7_pass_27 : decode cX7_pass 27 = .ok (.aload_n 0, 1) := by decide +kernel
theorem dX7_pass_28 : decode cX7_pass 28 = .ok (.getfield 178, 3) := by decide +kernel
theorem dX7_pass_31 : decode cX7_pass 31 = .ok (.dreturn, 1) := by decide +kernel
theorem dX7_shut_0 : decode cX7_shut 0 = .ok (.aload_n 0, 1) := by decide +kernel
theorem dX7_shut_1 : decode cX7_shut 1 = .ok (.getfield 193, 3) := by decide +kernel
theorem dX7_shut_4 : decode cX7_shut 4 = .ok (.istore_n 2, 1) := by decide +kernel
theorem dX7_shut_5 : decode cX7_shut 5 = .ok (.aload_n 0, 1) := by decide +kernel
theorem dX7_shut_6 : decode cX7_shut 6 = .ok (.iload_n 1, 1) := by decide +kernel
theorem dX7_shut_7 : decode cX7_shut 7 = .ok (.putfield 193, 3) := by decide +kernel
theorem dX7_shut_10 : decode cX7_shut 10 = .ok (.iload_n 2, 1) := by decide +kernel
theorem dX7_shut_11 : decode cX7_shut 11 = .ok (.ireturn, 1) := by decide +kernel
theorem dX7_bell_0 : decode cX7_bell 0 = .ok (.aload_n 0, 1) := by decide +kernel
theorem dX7_bell_1 : decode cX7_bell 1 = .ok (.dup, 1) := by decide +kernel
theorem dX7_bell_2 : decode cX7_bell 2 = .ok (.getfield 279, 3) := by decide +kernel
theorem dX7_bell_5 : decode cX7_bell 5 = .ok (.iconst 1, 1) := by decide +kernel
theorem dX7_bell_6 : decode cX7_bell 6 = .ok (.iadd, 1) := by decide +kernel
theorem dX7_bell_7 : decode cX7_bell 7 = .ok (.putfield 279, 3) := by decide +kernel
theorem dX7_bell_10 : decode cX7_bell 10 = .ok (.aload_n 0, 1) := by decide +kernel
theorem dX7_bell_11 : decode cX7_bell 11 = .ok (.getfield 279, 3) := by decide +kernel
theorem dX7_bell_14 : decode cX7_bell 14 = .ok (.ireturn, 1) := by decide +kernel
theorem dX7_ofCloth_0 : decode cX7_ofCloth 0 = .ok (.aload_n 0, 1) := by decide +kernel
theorem dX7_ofCloth_1 : decode cX7_ofCloth 1 = .ok (.iload_n 1, 1) := by decide +kernel
theorem dX7_ofCloth_2 : decode cX7_ofCloth 2 = .ok (.invokevirtual 70, 3) := by decide +kernel
theorem dX7_ofCloth_5 : decode cX7_ofCloth 5 = .ok (.astore_n 3, 1) := by decide +kernel
theorem dX7_ofCloth_6 : decode cX7_ofCloth 6 = .ok (.iload_n 2, 1) := by decide +kernel
theorem dX7_ofCloth_7 : decode cX7_ofCloth 7 = .ok (.tableswitch 78 0 5 #[37, 42, 47, 53, 59, 72], 37) := by decide +kernel
theorem dX7_ofCloth_44 : decode cX7_ofCloth 44 = .ok (.aload_n 3, 1) := by decide +kernel
theorem dX7_ofCloth_45 : decode cX7_ofCloth 45 = .ok (.getfield 78, 3) := by decide +kernel
theorem dX7_ofCloth_48 : decode cX7_ofCloth 48 = .ok (.dreturn, 1) := by decide +kernel
theorem dX7_ofCloth_49 : decode cX7_ofCloth 49 = .ok (.aload_n 3, 1) := by decide +kernel
theorem dX7_ofCloth_50 : decode cX7_ofCloth 50 = .ok (.getfield 82, 3) := by decide +kernel
theorem dX7_ofCloth_53 : decode cX7_ofCloth 53 = .ok (.dreturn, 1) := by decide +kernel
theorem dX7_ofCloth_54 : decode cX7_ofCloth 54 = .ok (.aload_n 3, 1) := by decide +kernel
theorem dX7_ofCloth_55 : decode cX7_ofCloth 55 = .ok (.getfield 85, 3) := by decide +kernel
theorem dX7_ofCloth_58 : decode cX7_ofCloth 58 = .ok (.f2d, 1) := by decide +kernel
theorem dX7_ofCloth_59 : decode cX7_ofCloth 59 = .ok (.dreturn, 1) := by decide +kernel
theorem dX7_ofCloth_60 : decode cX7_ofCloth 60 = .ok (.aload_n 3, 1) := by decide +kernel
theorem dX7_ofCloth_61 : decode cX7_ofCloth 61 = .ok (.getfield 282, 3) := by decide +kernel
theorem dX7_ofCloth_64 : decode cX7_ofCloth 64 = .ok (.i2d, 1) := by decide +kernel
theorem dX7_ofCloth_65 : decode cX7_ofCloth 65 = .ok (.dreturn, 1) := by decide +kernel
theorem dX7_ofCloth_66 : decode cX7_ofCloth 66 = .ok (.aload_n 3, 1) := by decide +kernel
theorem dX7_ofCloth_67 : decode cX7_ofCloth 67 = .ok (.getfield 285, 3) := by decide +kernel
theorem dX7_ofCloth_70 : decode cX7_ofCloth 70 = .ok (.ifCond .eq 7, 3) := by decide +kernel
theorem dX7_ofCloth_73 : decode cX7_ofCloth 73 = .ok (.dconst 1, 1) := by decide +kernel
theorem dX7_ofCloth_74 : decode cX7_ofCloth 74 = .ok (.goto 4, 3) := by decide +kernel
theorem dX7_ofCloth_77 : decode cX7_ofCloth 77 = .ok (.dconst 0, 1) := by decide +kernel
theorem dX7_ofCloth_78 : decode cX7_ofCloth 78 = .ok (.dreturn, 1) := by decide +kernel
theorem dX7_ofCloth_79 : decode cX7_ofCloth 79 = .ok (.aload_n 3, 1) := by decide +kernel
theorem dX7_ofCloth_80 : decode cX7_ofCloth 80 = .ok (.getfield 288, 3) := by decide +kernel
theorem dX7_ofCloth_83 : decode cX7_ofCloth 83 = .ok (.i2d, 1) := by decide +kernel
theorem dX7_ofCloth_84 : decode cX7_ofCloth 84 = .ok (.dreturn, 1) := by decide +kernel
theorem dX7_ofCloth_85 : decode cX7_ofCloth 85 = .ok (.new 50, 3) := by decide +kernel
theorem dX7_ofCloth_88 : decode cX7_ofCloth 88 = .ok (.dup, 1) := by decide +kernel
theorem dX7_ofCloth_89 : decode cX7_ofCloth 89 = .ok (.ldc_w 291, 3) := by decide +kernel
theorem dX7_ofCloth_92 : decode cX7_ofCloth 92 = .ok (.invokespecial 54, 3) := by decide +kernel
theorem dX7_ofCloth_95 : decode cX7_ofCloth 95 = .ok (.athrow, 1) := by decide +kernel
theorem dX7_size_0 : decode cX7_size 0 = .ok (.aload_n 0, 1) := by decide +kernel
theorem dX7_size_1 : decode cX7_size 1 = .ok (.iload_n 1, 1) := by decide +kernel
theorem dX7_size_2 : decode cX7_size 2 = .ok (.invokevirtual 128, 3) := by decide +kernel
theorem dX7_size_5 : decode cX7_size 5 = .ok (.astore 5, 2) := by decide +kernel
theorem dX7_size_7 : decode cX7_size 7 = .ok (.iload_n 2, 1) := by decide +kernel
theorem dX7_size_8 : decode cX7_size 8 = .ok (.ifCond .lt 12, 3) := by decide +kernel
theorem dX7_size_11 : decode cX7_size 11 = .ok (.iload_n 2, 1) := by decide +kernel
theorem dX7_size_12 : decode cX7_size 12 = .ok (.aload 5, 2) := by decide +kernel
theorem dX7_size_14 : decode cX7_size 14 = .ok (.getfield 137, 3) := by decide +kernel
theorem dX7_size_17 : decode cX7_size 17 = .ok (.if_icmp .lt 14, 3) := by decide +kernel
theorem dX7_size_20 : decode cX7_size 20 = .ok (.new 107, 3) := by decide +kernel
theorem dX7_size_23 : decode cX7_size 23 = .ok (.dup, 1) := by decide +kernel
theorem dX7_size_24 : decode cX7_size 24 = .ok (.ldc_w 293, 3) := by decide +kernel
theorem dX7_size_27 : decode cX7_size 27 = .ok (.invokespecial 111, 3) := by decide +kernel
theorem dX7_size_30 : decode cX7_size 30 = .ok (.athrow, 1) := by decide +kernel
theorem dX7_size_31 : decode cX7_size 31 = .ok (.aload_n 0, 1) := by decide +kernel
theorem dX7_size_32 : decode cX7_size 32 = .ok (.iload_n 3, 1) := by decide +kernel
theorem dX7_size_33 : decode cX7_size 33 = .ok (.invokevirtual 103, 3) := by decide +kernel
theorem dX7_size_36 : decode cX7_size 36 = .ok (.astore 6, 2) := by decide +kernel
theorem dX7_size_38 : decode cX7_size 38 = .ok (.aload 5, 2) := by decide +kernel
theorem dX7_size_40 : decode cX7_size 40 = .ok (.getfield 146, 3) := by decide +kernel
theorem dX7_size_43 : decode cX7_size 43 = .ok (.iload_n 2, 1) := by decide +kernel
theorem dX7_size_44 : decode cX7_size 44 = .ok (.aaload, 1) := by decide +kernel
theorem dX7_size_45 : decode cX7_size 45 = .ok (.astore 7, 2) := by decide +kernel
theorem dX7_size_47 : decode cX7_size 47 = .ok (.iload 4, 2) := by decide +kernel
theorem dX7_size_49 : decode cX7_size 49 = .ok (.ifCond .eq 13, 3) := by decide +kernel
theorem dX7_size_52 : decode cX7_size 52 = .ok (.aload 7, 2) := by decide +kernel
theorem dX7_size_54 : decode cX7_size 54 = .ok (.aload 6, 2) := by decide +kernel
theorem dX7_size_56 : decode cX7_size 56 = .ok (.invokevirtual 295, 3) := by decide +kernel
theorem dX7_size_59 : decode cX7_size 59 = .ok (.goto 10, 3) := by decide +kernel
theorem dX7_size_62 : decode cX7_size 62 = .ok (.aload 7, 2) := by decide +kernel
theorem dX7_size_64 : decode cX7_size 64 = .ok (.aload 6, 2) := by decide +kernel
theorem dX7_size_66 : decode cX7_size 66 = .ok (.invokevirtual 299, 3) := by decide +kernel
theorem dX7_size_69 : decode cX7_size 69 = .ok (.dreturn, 1) := by decide +kernel
theorem dX7_ofOrder_0 : decode cX7_ofOrder 0 = .ok (.aload_n 0, 1) := by decide +kernel
theorem dX7_ofOrder_1 : decode cX7_ofOrder 1 = .ok (.iload_n 1, 1) := by decide +kernel
theorem dX7_ofOrder_2 : decode cX7_ofOrder 2 = .ok (.invokevirtual 184, 3) := by decide +kernel
theorem dX7_ofOrder_5 : decode cX7_ofOrder 5 = .ok (.astore_n 3, 1) := by decide +kernel
theorem dX7_ofOrder_6 : decode cX7_ofOrder 6 = .ok (.iload_n 2, 1) := by decide +kernel
theorem dX7_ofOrder_7 : decode cX7_ofOrder 7 = .ok (.tableswitch 94 0 7 #[45, 53, 61, 66, 71, 76, 84, 89], 45) := by decide +kernel
theorem dX7_ofOrder_52 : decode cX7_ofOrder 52 = .ok (.aload_n 3, 1) := by decide +kernel
theorem dX7_ofOrder_53 : decode cX7_ofOrder 53 = .ok (.getfield 302, 3) := by decide +kernel
theorem dX7_ofOrder_56 : decode cX7_ofOrder 56 = .ok (.getfield 306, 3) := by decide +kernel
theorem dX7_ofOrder_59 : decode cX7_ofOrder 59 = .ok (.ireturn, 1) := by decide +kernel
theorem dX7_ofOrder_60 : decode cX7_ofOrder 60 = .ok (.aload_n 3, 1) := by decide +kernel
theorem dX7_ofOrder_61 : decode cX7_ofOrder 61 = .ok (.getfield 267, 3) := by decide +kernel
theorem dX7_ofOrder_64 : decode cX7_ofOrder 64 = .ok (.getfield 309, 3) := by decide +kernel
theorem dX7_ofOrder_67 : decode cX7_ofOrder 67 = .ok (.ireturn, 1) := by decide +kernel
theorem dX7_ofOrder_68 : decode cX7_ofOrder 68 = .ok (.aload_n 3, 1) := by decide +kernel
theorem dX7_ofOrder_69 : decode cX7_ofOrder 69 = .ok (.getfield 262, 3) := by decide +kernel
theorem dX7_ofOrder_72 : decode cX7_ofOrder 72 = .ok (.ireturn, 1) := by decide +kernel
theorem dX7_ofOrder_73 : decode cX7_ofOrder 73 = .ok (.aload_n 3, 1) := by decide +kernel
theorem dX7_ofOrder_74 : decode cX7_ofOrder 74 = .ok (.getfield 196, 3) := by decide +kernel
theorem dX7_ofOrder_77 : decode cX7_ofOrder 77 = .ok (.ireturn, 1) := by decide +kernel
theorem dX7_ofOrder_78 : decode cX7_ofOrder 78 = .ok (.aload_n 3, 1) := by decide +kernel
theorem dX7_ofOrder_79 : decode cX7_ofOrder 79 = .ok (.getfield 310, 3) := by decide +kernel
theorem dX7_ofOrder_82 : decode cX7_ofOrder 82 = .ok (.ireturn, 1) := by decide +kernel
theorem dX7_ofOrder_83 : decode cX7_ofOrder 83 = .ok (.aload_n 3, 1) := by decide +kernel
theorem dX7_ofOrder_84 : decode cX7_ofOrder 84 = .ok (.getfield 267, 3) := by decide +kernel
theorem dX7_ofOrder_87 : decode cX7_ofOrder 87 = .ok (.getfield 157, 3) := by decide +kernel
theorem dX7_ofOrder_90 : decode cX7_ofOrder 90 = .ok (.ireturn, 1) := by decide +kernel
theorem dX7_ofOrder_91 : decode cX7_ofOrder 91 = .ok (.aload_n 3, 1) := by decide +kernel
theorem dX7_ofOrder_92 : decode cX7_ofOrder 92 = .ok (.getfield 257, 3) := by decide +kernel
theorem dX7_ofOrder_95 : decode cX7_ofOrder 95 = .ok (.ireturn, 1) := by decide +kernel
theorem dX7_ofOrder_96 : decode cX7_ofOrder 96 = .ok (.aload_n 3, 1) := by decide +kernel
theorem dX7_ofOrder_97 : decode cX7_ofOrder 97 = .ok (.getfield 246, 3) := by decide +kernel
theorem dX7_ofOrder_100 : decode cX7_ofOrder 100 = .ok (.ireturn, 1) := by decide +kernel
theorem dX7_ofOrder_101 : decode cX7_ofOrder 101 = .ok (.new 50, 3) := by decide +kernel
theorem dX7_ofOrder_104 : decode cX7_ofOrder 104 = .ok (.dup, 1) := by decide +kernel
theorem dX7_ofOrder_105 : decode cX7_ofOrder 105 = .ok (.ldc_w 313, 3) := by decide +kernel
theorem dX7_ofOrder_108 : decode cX7_ofOrder 108 = .ok (.invokespecial 54, 3) := by decide +kernel
theorem dX7_ofOrder_111 : decode cX7_ofOrder 111 = .ok (.athrow, 1) := by decide +kernel
theorem dX7_tight_0 : decode cX7_tight 0 = .ok (.aload_n 0, 1) := by decide +kernel
theorem dX7_tight_1 : decode cX7_tight 1 = .ok (.iload_n 1, 1) := by decide +kernel
theorem dX7_tight_2 : decode cX7_tight 2 = .ok (.invokevirtual 184, 3) := by decide +kernel
theorem dX7_tight_5 : decode cX7_tight 5 = .ok (.iload_n 2, 1) := by decide +kernel
theorem dX7_tight_6 : decode cX7_tight 6 = .ok (.invokevirtual 315, 3) := by decide +kernel
theorem dX7_tight_9 : decode cX7_tight 9 = .ok (.dreturn, 1) := by decide +kernel
theorem dX7_ready_0 : decode cX7_ready 0 = .ok (.aload_n 0, 1) := by decide +kernel
theorem dX7_ready_1 : decode cX7_ready 1 = .ok (.iload_n 1, 1) := by decide +kernel
theorem dX7_ready_2 : decode cX7_ready 2 = .ok (.invokevirtual 184, 3) := by decide +kernel
theorem dX7_ready_5 : decode cX7_ready 5 = .ok (.getfield 243, 3) := by decide +kernel
theorem dX7_ready_8 : decode cX7_ready 8 = .ok (.dreturn, 1) := by decide +kernel
theorem dX7_free_0 : decode cX7_free 0 = .ok (.aload_n 0, 1) := by decide +kernel
theorem dX7_free_1 : decode cX7_free 1 = .ok (.iload_n 1, 1) := by decide +kernel
theorem dX7_free_2 : decode cX7_free 2 = .ok (.invokevirtual 230, 3) := by decide +kernel
theorem dX7_free_5 : decode cX7_free 5 = .ok (.getfield 240, 3) := by decide +kernel
theorem dX7_free_8 : decode cX7_free 8 = .ok (.dreturn, 1) := by decide +kernel
theorem dX7_clock_0 : decode cX7_clock 0 = .ok (.aload_n 0, 1) := by decide +kernel
theorem dX7_clock_1 : decode cX7_clock 1 = .ok (.getfield 178, 3) := by decide +kernel
theorem dX7_clock_4 : decode cX7_clock 4 = .ok (.dreturn, 1) := by decide +kernel
theorem dX7_many_0 : decode cX7_many 0 = .ok (.iload_n 1, 1) := by decide +kernel
theorem dX7_many_1 : decode cX7_many 1 = .ok (.tableswitch 127 0 13 #[71, 76, 81, 86, 91, 96, 96, 96, 96, 96, 96, 104, 109, 122], 71) := by decide +kernel
theorem dX7_many_72 : decode cX7_many 72 = .ok (.aload_n 0, 1) := by decide +kernel
theorem dX7_many_73 : decode cX7_many 73 = .ok (.getfield 57, 3) := by decide +kernel
theorem dX7_many_76 : decode cX7_many 76 = .ok (.ireturn, 1) := by decide +kernel
theorem dX7_many_77 : decode cX7_many 77 = .ok (.aload_n 0, 1) := by decide +kernel
theorem dX7_many_78 : decode cX7_many 78 = .ok (.getfield 95, 3) := by decide +kernel
theorem dX7_many_81 : decode cX7_many 81 = .ok (.ireturn, 1) := by decide +kernel
theorem dX7_many_82 : decode cX7_many 82 = .ok (.aload_n 0, 1) := by decide +kernel
theorem dX7_many_83 : decode cX7_many 83 = .ok (.getfield 120, 3) := by decide +kernel
theorem dX7_many_86 : decode cX7_many 86 = .ok (.ireturn, 1) := by decide +kernel
theorem dX7_many_87 : decode cX7_many 87 = .ok (.aload_n 0, 1) := by decide +kernel
theorem dX7_many_88 : decode cX7_many 88 = .ok (.getfield 162, 3) := by decide +kernel
theorem dX7_many_91 : decode cX7_many 91 = .ok (.ireturn, 1) := by decide +kernel
theorem dX7_many_92 : decode cX7_many 92 = .ok (.aload_n 0, 1) := by decide +kernel
theorem dX7_many_93 : decode cX7_many 93 = .ok (.getfield 173, 3) := by decide +kernel
theorem dX7_many_96 : decode cX7_many 96 = .ok (.ireturn, 1) := by decide +kernel
theorem dX7_many_97 : decode cX7_many 97 = .ok (.aload_n 0, 1) := by decide +kernel
theorem dX7_many_98 : decode cX7_many 98 = .ok (.iload_n 1, 1) := by decide +kernel
theorem dX7_many_99 : decode cX7_many 99 = .ok (.iconst 5, 1) := by decide +kernel
theorem dX7_many_100 : decode cX7_many 100 = .ok (.isub, 1) := by decide +kernel
theorem dX7_many_101 : decode cX7_many 101 = .ok (.invokevirtual 319, 3) := by decide +kernel
theorem dX7_many_104 : decode cX7_many 104 = .ok (.ireturn, 1) := by decide +kernel
theorem dX7_many_105 : decode cX7_many 105 = .ok (.aload_n 0, 1) := by decide +kernel
theorem dX7_many_106 : decode cX7_many 106 = .ok (.getfield 274, 3) := by decide +kernel
theorem dX7_many_109 : decode cX7_many 109 = .ok (.ireturn, 1) := by decide +kernel
theorem dX7_many_110 : decode cX7_many 110 = .ok (.aload_n 0, 1) := by decide +kernel
theorem dX7_many_111 : decode cX7_many 111 = .ok (.getfield 193, 3) := by decide +kernel
theorem dX7_many_114 : decode cX7_many 114 = .ok (.ifCond .eq 7, 3) := by decide +kernel
theorem dX7_many_117 : decode cX7_many 117 = .ok (.iconst 1, 1) := by decide +kernel
theorem dX7_many_118 : decode cX7_many 118 = .ok (.goto 4, 3) := by decide +kernel
theorem dX7_many_121 : decode cX7_many 121 = .ok (.iconst 0, 1) := by decide +kernel
theorem dX7_many_122 : decode cX7_many 122 = .ok (.ireturn, 1) := by decide +kernel
theorem dX7_many_123 : decode cX7_many 123 = .ok (.aload_n 0, 1) := by decide +kernel
theorem dX7_many_124 : decode cX7_many 124 = .ok (.getfield 279, 3) := by decide +kernel
theorem dX7_many_127 : decode cX7_many 127 = .ok (.ireturn, 1) := by decide +kernel
theorem dX7_many_128 : decode cX7_many 128 = .ok (.new 50, 3) := by decide +kernel
theorem dX7_many_131 : decode cX7_many 131 = .ok (.dup, 1) := by decide +kernel
theorem dX7_many_132 : decode cX7_many 132 = .ok (.ldc_w 322, 3) := by decide +kernel
theorem dX7_many_135 : decode cX7_many 135 = .ok (.invokespecial 54, 3) := by decide +kernel
theorem dX7_many_138 : decode cX7_many 138 = .ok (.athrow, 1) := by decide +kernel
theorem dX7_lay_0 : decode cX7_lay 0 = .ok (.aload_n 0, 1) := by decide +kernel
theorem dX7_lay_1 : decode cX7_lay 1 = .ok (.iload_n 1, 1) := by decide +kernel
theorem dX7_lay_2 : decode cX7_lay 2 = .ok (.invokevirtual 184, 3) := by decide +kernel
theorem dX7_lay_5 : decode cX7_lay 5 = .ok (.astore 5, 2) := by decide +kernel
theorem dX7_lay_7 : decode cX7_lay 7 = .ok (.aload_n 0, 1) := by decide +kernel
theorem dX7_lay_8 : decode cX7_lay 8 = .ok (.iload_n 2, 1) := by decide +kernel
theorem dX7_lay_9 : decode cX7_lay 9 = .ok (.invokevirtual 188, 3) := by decide +kernel
theorem dX7_lay_12 : decode cX7_lay 12 = .ok (.astore 6, 2) := by decide +kernel
theorem dX7_lay_14 : decode cX7_lay 14 = .ok (.aload_n 0, 1) := by decide +kernel
theorem dX7_lay_15 : decode cX7_lay 15 = .ok (.iload_n 3, 1) := by decide +kernel
theorem dX7_lay_16 : decode cX7_lay 16 = .ok (.invokevirtual 70, 3) := by decide +kernel
theorem dX7_lay_19 : decode cX7_lay 19 = .ok (.astore 7, 2) := by decide +kernel
theorem dX7_lay_21 : decode cX7_lay 21 = .ok (.iload_n 1, 1) := by decide +kernel
theorem dX7_lay_22 : decode cX7_lay 22 = .ok (.iload_n 2, 1) := by decide +kernel
theorem dX7_lay_23 : decode cX7_lay 23 = .ok (.if_icmp .eq 13, 3) := by decide +kernel
theorem dX7_lay_26 : decode cX7_lay 26 = .ok (.iload 4, 2) := by decide +kernel
theorem dX7_lay_28 : decode cX7_lay 28 = .ok (.iconst 0, 1) := by decide +kernel
theorem dX7_lay_29 : decode cX7_lay 29 = .ok (.iconst 3, 1) := by decide +kernel
theorem dX7_lay_30 : decode cX7_lay 30 = .ok (.invokestatic 46, 3) := by decide +kernel
theorem dX7_lay_33 : decode cX7_lay 33 = .ok (.ifCond .eq 14, 3) := by decide +kernel
theorem dX7_lay_36 : decode cX7_lay 36 = .ok (.new 50, 3) := by decide +kernel
theorem dX7_lay_39 : decode cX7_lay 39 = .ok (.dup, 1) := by decide +kernel
theorem dX7_lay_40 : decode cX7_lay 40 = .ok (.ldc_w 324, 3) := by decide +kernel
theorem dX7_lay_43 : decode cX7_lay 43 = .ok (.invokespecial 54, 3) := by decide +kernel
theorem dX7_lay_46 : decode cX7_lay 46 = .ok (.athrow, 1) := by decide +kernel
theorem dX7_lay_47 : decode cX7_lay 47 = .ok (.aload_n 0, 1) := by decide +kernel
theorem dX7_lay_48 : decode cX7_lay 48 = .ok (.getfield 42, 3) := by decide +kernel
theorem dX7_lay_51 : decode cX7_lay 51 = .ok (.aload 5, 2) := by decide +kernel
theorem dX7_lay_53 : decode cX7_lay 53 = .ok (.aload 6, 2) := by decide +kernel
theorem dX7_lay_55 : decode cX7_lay 55 = .ok (.aload 7, 2) := by decide +kernel
theorem dX7_lay_57 : decode cX7_lay 57 = .ok (.invokevirtual 201, 3) := by decide +kernel
theorem dX7_lay_60 : decode cX7_lay 60 = .ok (.ifCond .ne 7, 3) := by decide +kernel
theorem dX7_lay_63 : decode cX7_lay 63 = .ok (.ldc2_w 326, 3) := by decide +kernel
theorem dX7_lay_66 : decode cX7_lay 66 = .ok (.dreturn, 1) := by decide +kernel
theorem dX7_lay_67 : decode cX7_lay 67 = .ok (.iload 4, 2) := by decide +kernel
theorem dX7_lay_69 : decode cX7_lay 69 = .ok (.tableswitch 52 0 2 #[27, 35, 43], 27) := by decide +kernel
theorem dX7_lay_96 : decode cX7_lay 96 = .ok (.aload_n 0, 1) := by decide +kernel
theorem dX7_lay_97 : decode cX7_lay 97 = .ok (.getfield 42, 3) := by decide +kernel
theorem dX7_lay_100 : decode cX7_lay 100 = .ok (.getfield 207, 3) := by decide +kernel
theorem dX7_lay_103 : decode cX7_lay 103 = .ok (.dreturn, 1) := by decide +kernel
theorem dX7_lay_104 : decode cX7_lay 104 = .ok (.aload_n 0, 1) := by decide +kernel
theorem dX7_lay_105 : decode cX7_lay 105 = .ok (.getfield 42, 3) := by decide +kernel
theorem dX7_lay_108 : decode cX7_lay 108 = .ok (.invokevirtual 328, 3) := by decide +kernel
theorem dX7_lay_111 : decode cX7_lay 111 = .ok (.dreturn, 1) := by decide +kernel
theorem dX7_lay_112 : decode cX7_lay 112 = .ok (.aload_n 0, 1) := by decide +kernel
theorem dX7_lay_113 : decode cX7_lay 113 = .ok (.getfield 42, 3) := by decide +kernel
theorem dX7_lay_116 : decode cX7_lay 116 = .ok (.getfield 331, 3) := by decide +kernel
theorem dX7_lay_119 : decode cX7_lay 119 = .ok (.i2d, 1) := by decide +kernel
theorem dX7_lay_120 : decode cX7_lay 120 = .ok (.dreturn, 1) := by decide +kernel
theorem dX7_lay_121 : decode cX7_lay 121 = .ok (.aload_n 0, 1) := by decide +kernel
theorem dX7_lay_122 : decode cX7_lay 122 = .ok (.getfield 42, 3) := by decide +kernel
theorem dX7_lay_125 : decode cX7_lay 125 = .ok (.getfield 334, 3) := by decide +kernel
theorem dX7_lay_128 : decode cX7_lay 128 = .ok (.i2d, 1) := by decide +kernel
theorem dX7_lay_129 : decode cX7_lay 129 = .ok (.dreturn, 1) := by decide +kernel
theorem dX7_best_0 : decode cX7_best 0 = .ok (.aload_n 0, 1) := by decide +kernel
theorem dX7_best_1 : decode cX7_best 1 = .ok (.iload_n 1, 1) := by decide +kernel
theorem dX7_best_2 : decode cX7_best 2 = .ok (.invokevirtual 184, 3) := by decide +kernel
theorem dX7_best_5 : decode cX7_best 5 = .ok (.astore_n 2, 1) := by decide +kernel
theorem dX7_best_6 : decode cX7_best 6 = .ok (.iconst (-1), 1) := by decide +kernel
theorem dX7_best_7 : decode cX7_best 7 = .ok (.istore_n 3, 1) := by decide +kernel
theorem dX7_best_8 : decode cX7_best 8 = .ok (.dconst 0, 1) := by decide +kernel
theorem dX7_best_9 : decode cX7_best 9 = .ok (.dstore 4, 2) := by decide +kernel
theorem dX7_best_11 : decode cX7_best 11 = .ok (.iconst 0, 1) := by decide +kernel
theorem dX7_best_12 : decode cX7_best 12 = .ok (.istore 6, 2) := by decide +kernel
theorem dX7_best_14 : decode cX7_best 14 = .ok (.iload 6, 2) := by decide +kernel
theorem dX7_best_16 : decode cX7_best 16 = .ok (.aload_n 0, 1) := by decide +kernel
theorem dX7_best_17 : decode cX7_best 17 = .ok (.getfield 57, 3) := by decide +kernel
theorem dX7_best_20 : decode cX7_best 20 = .ok (.if_icmp .ge 84, 3) := by decide +kernel
theorem dX7_best_23 : decode cX7_best 23 = .ok (.aload_n 0, 1) := by decide +kernel
theorem dX7_best_24 : decode cX7_best 24 = .ok (.getfield 11, 3) := by decide +kernel
theorem dX7_best_27 : decode cX7_best 27 = .ok (.iload 6, 2) := by decide +kernel
theorem dX7_best_29 : decode cX7_best 29 = .ok (.aaload, 1) := by decide +kernel
theorem dX7_best_30 : decode cX7_best 30 = .ok (.astore 7, 2) := by decide +kernel
theorem dX7_best_32 : decode cX7_best 32 = .ok (.aload_n 0, 1) := by decide +kernel
theorem dX7_best_33 : decode cX7_best 33 = .ok (.getfield 42, 3) := by decide +kernel
theorem dX7_best_36 : decode cX7_best 36 = .ok (.aload_n 2, 1) := by decide +kernel
theorem dX7_best_37 : decode cX7_best 37 = .ok (.aconst_null, 1) := by decide +kernel
theorem dX7_best_38 : decode cX7_best 38 = .ok (.aload 7, 2) := by decide +kernel
theorem dX7_best_40 : decode cX7_best 40 = .ok (.invokevirtual 201, 3) := by decide +kernel
theorem dX7_best_43 : decode cX7_best 43 = .ok (.ifCond .eq 55, 3) := by decide +kernel
theorem dX7_best_46 : decode cX7_best 46 = .ok (.aload 7, 2) := by decide +kernel
theorem dX7_best_48 : decode cX7_best 48 = .ok (.getfield 82, 3) := by decide +kernel
theorem dX7_best_51 : decode cX7_best 51 = .ok (.aload_n 0, 1) := by decide +kernel
theorem dX7_best_52 : decode cX7_best 52 = .ok (.getfield 42, 3) := by decide +kernel
theorem dX7_best_55 : decode cX7_best 55 = .ok (.getfield 207, 3) := by decide +kernel
theorem dX7_best_58 : decode cX7_best 58 = .ok (.dcmp .l, 1) := by decide +kernel
theorem dX7_best_59 : decode cX7_best 59 = .ok (.ifCond .lt 39, 3) := by decide +kernel
theorem dX7_best_62 : decode cX7_best 62 = .ok (.aload 7, 2) := by decide +kernel
theorem dX7_best_64 : decode cX7_best 64 = .ok (.getfield 288, 3) := by decide +kernel
theorem dX7_best_67 : decode cX7_best 67 = .ok (.i2d, 1) := by decide +kernel
theorem dX7_best_68 : decode cX7_best 68 = .ok (.aload_n 0, 1) := by decide +kernel
theorem dX7_best_69 : decode cX7_best 69 = .ok (.getfield 42, 3) := by decide +kernel
theorem dX7_best_72 : decode cX7_best 72 = .ok (.getfield 207, 3) := by decide +kernel
theorem dX7_best_75 : decode cX7_best 75 = .ok (.dmul, 1) := by decide +kernel
theorem dX7_best_76 : decode cX7_best 76 = .ok (.dstore 8, 2) := by decide +kernel
theorem dX7_best_78 : decode cX7_best 78 = .ok (.iload_n 3, 1) := by decide +kernel
theorem dX7_best_79 : decode cX7_best 79 = .ok (.iconst (-1), 1) := by decide +kernel
theorem dX7_best_80 : decode cX7_best 80 = .ok (.if_icmp .eq 11, 3) := by decide +kernel
theorem dX7_best_83 : decode cX7_best 83 = .ok (.dload 8, 2) := by decide +kernel
theorem dX7_best_85 : decode cX7_best 85 = .ok (.dload 4, 2) := by decide +kernel
theorem dX7_best_87 : decode cX7_best 87 = .ok (.dcmp .g, 1) := by decide +kernel
theorem dX7_best_88 : decode cX7_best 88 = .ok (.ifCond .ge 10, 3) := by decide +kernel
theorem dX7_best_91 : decode cX7_best 91 = .ok (.iload 6, 2) := by decide +kernel
theorem dX7_best_93 : decode cX7_best 93 = .ok (.istore_n 3, 1) := by decide +kernel
theorem dX7_best_94 : decode cX7_best 94 = .ok (.dload 8, 2) := by decide +kernel
theorem dX7_best_96 : decode cX7_best 96 = .ok (.dstore 4, 2) := by decide +kernel
theorem dX7_best_98 : decode cX7_best 98 = .ok (.iinc 6 1, 3) := by decide +kernel
theorem dX7_best_101 : decode cX7_best 101 = .ok (.goto (-87), 3) := by decide +kernel
theorem dX7_best_104 : decode cX7_best 104 = .ok (.iload_n 3, 1) := by decide +kernel
theorem dX7_best_105 : decode cX7_best 105 = .ok (.ireturn, 1) := by decide +kernel
theorem dX7_mate_0 : decode cX7_mate 0 = .ok (.aload_n 0, 1) := by decide +kernel
theorem dX7_mate_1 : decode cX7_mate 1 = .ok (.iload_n 1, 1) := by decide +kernel
theorem dX7_mate_2 : decode cX7_mate 2 = .ok (.invokevirtual 184, 3) := by decide +kernel
theorem dX7_mate_5 : decode cX7_mate 5 = .ok (.astore_n 3, 1) := by decide +kernel
theorem dX7_mate_6 : decode cX7_mate 6 = .ok (.aload_n 0, 1) := by decide +kernel
theorem dX7_mate_7 : decode cX7_mate 7 = .ok (.iload_n 2, 1) := by decide +kernel
theorem dX7_mate_8 : decode cX7_mate 8 = .ok (.invokevirtual 70, 3) := by decide +kernel
theorem dX7_mate_11 : decode cX7_mate 11 = .ok (.astore 4, 2) := by decide +kernel
theorem dX7_mate_13 : decode cX7_mate 13 = .ok (.iconst (-1), 1) := by decide +kernel
theorem dX7_mate_14 : decode cX7_mate 14 = .ok (.istore 5, 2) := by decide +kernel
theorem dX7_mate_16 : decode cX7_mate 16 = .ok (.dconst 0, 1) := by decide +kernel
theorem dX7_mate_17 : decode cX7_mate 17 = .ok (.dstore 6, 2) := by decide +kernel
theorem dX7_mate_19 : decode cX7_mate 19 = .ok (.iconst 0, 1) := by decide +kernel
theorem dX7_mate_20 : decode cX7_mate 20 = .ok (.istore 8, 2) := by decide +kernel
theorem dX7_mate_22 : decode cX7_mate 22 = .ok (.iload 8, 2) := by decide +kernel
theorem dX7_mate_24 : decode cX7_mate 24 = .ok (.aload_n 0, 1) := by decide +kernel
theorem dX7_mate_25 : decode cX7_mate 25 = .ok (.getfield 173, 3) := by decide +kernel
theorem dX7_mate_28 : decode cX7_mate 28 = .ok (.if_icmp .ge 60, 3) := by decide +kernel
theorem dX7_mate_31 : decode cX7_mate 31 = .ok (.iload 8, 2) := by decide +kernel
theorem dX7_mate_33 : decode cX7_mate 33 = .ok (.iload_n 1, 1) := by decide +kernel
theorem dX7_mate_34 : decode cX7_mate 34 = .ok (.if_icmp .eq 48, 3) := by decide +kernel
theorem dX7_mate_37 : decode cX7_mate 37 = .ok (.aload_n 0, 1) := by decide +kernel
theorem dX7_mate_38 : decode cX7_mate 38 = .ok (.getfield 35, 3) := by decide +kernel
theorem dX7_mate_41 : decode cX7_mate 41 = .ok (.iload 8, 2) := by decide +kernel
theorem dX7_mate_43 : decode cX7_mate 43 = .ok (.aaload, 1) := by decide +kernel
theorem dX7_mate_44 : decode cX7_mate 44 = .ok (.getfield 196, 3) := by decide +kernel
theorem dX7_mate_47 : decode cX7_mate 47 = .ok (.ifCond .ne 35, 3) := by decide +kernel
theorem dX7_mate_50 : decode cX7_mate 50 = .ok (.aload_n 0, 1) := by decide +kernel
theorem dX7_mate_51 : decode cX7_mate 51 = .ok (.aload_n 3, 1) := by decide +kernel
theorem dX7_mate_52 : decode cX7_mate 52 = .ok (.aload_n 0, 1) := by decide +kernel
theorem dX7_mate_53 : decode cX7_mate 53 = .ok (.getfield 35, 3) := by decide +kernel
theorem dX7_mate_56 : decode cX7_mate 56 = .ok (.iload 8, 2) := by decide +kernel
theorem dX7_mate_58 : decode cX7_mate 58 = .ok (.aaload, 1) := by decide +kernel
theorem dX7_mate_59 : decode cX7_mate 59 = .ok (.aload 4, 2) := by decide +kernel
theorem dX7_mate_61 : decode cX7_mate 61 = .ok (.invokevirtual 337, 3) := by decide +kernel
theorem dX7_mate_64 : decode cX7_mate 64 = .ok (.dstore 9, 2) := by decide +kernel
theorem dX7_mate_66 : decode cX7_mate 66 = .ok (.dload 9, 2) := by decide +kernel
theorem dX7_mate_68 : decode cX7_mate 68 = .ok (.dload 6, 2) := by decide +kernel
theorem dX7_mate_70 : decode cX7_mate 70 = .ok (.dcmp .l, 1) := by decide +kernel
theorem dX7_mate_71 : decode cX7_mate 71 = .ok (.ifCond .le 11, 3) := by decide +kernel
theorem dX7_mate_74 : decode cX7_mate 74 = .ok (.iload 8, 2) := by decide +kernel
theorem dX7_mate_76 : decode cX7_mate 76 = .ok (.istore 5, 2) := by decide +kernel
theorem dX7_mate_78 : decode cX7_mate 78 = .ok (.dload 9, 2) := by decide +kernel
theorem dX7_mate_80 : decode cX7_mate 80 = .ok (.dstore 6, 2) := by decide +kernel
theorem dX7_mate_82 : decode cX7_mate 82 = .ok (.iinc 8 1, 3) := by decide +kernel
theorem dX7_mate_85 : decode cX7_mate 85 = .ok (.goto (-63), 3) := by decide +kernel
theorem dX7_mate_88 : decode cX7_mate 88 = .ok (.iload 5, 2) := by decide +kernel
theorem dX7_mate_90 : decode cX7_mate 90 = .ok (.ireturn, 1) := by decide +kernel
theorem dX7_soonest_0 : decode cX7_soonest 0 = .ok (.aload_n 0, 1) := by decide +kernel
theorem dX7_soonest_1 : decode cX7_soonest 1 = .ok (.iload_n 1, 1) := by decide +kernel
theorem dX7_soonest_2 : decode cX7_soonest 2 = .ok (.invokevirtual 184, 3) := by decide +kernel
theorem dX7_soonest_5 : decode cX7_soonest 5 = .ok (.astore_n 2, 1) := by decide +kernel
theorem dX7_soonest_6 : decode cX7_soonest 6 = .ok (.iconst (-1), 1) := by decide +kernel
theorem dX7_soonest_7 : decode cX7_soonest 7 = .ok (.istore_n 3, 1) := by decide +kernel
theorem dX7_soonest_8 : decode cX7_soonest 8 = .ok (.dconst 0, 1) := by decide +kernel
theorem dX7_soonest_9 : decode cX7_soonest 9 = .ok (.dstore 4, 2) := by decide +kernel
theorem dX7_soonest_11 : decode cX7_soonest 11 = .ok (.iconst 0, 1) := by decide +kernel
theorem dX7_soonest_12 : decode cX7_soonest 12 = .ok (.istore 6, 2) := by decide +kernel
theorem dX7_soonest_14 : decode cX7_soonest 14 = .ok (.iload 6, 2) := by decide +kernel
theorem dX7_soonest_16 : decode cX7_soonest 16 = .ok (.aload_n 0, 1) := by decide +kernel
theorem dX7_soonest_17 : decode cX7_soonest 17 = .ok (.getfield 162, 3) := by decide +kernel
theorem dX7_soonest_20 : decode cX7_soonest 20 = .ok (.if_icmp .ge 43, 3) := by decide +kernel
theorem dX7_soonest_23 : decode cX7_soonest 23 = .ok (.aload_n 0, 1) := by decide +kernel
theorem dX7_soonest_24 : decode cX7_soonest 24 = .ok (.aload_n 2, 1) := by decide +kernel
theorem dX7_soonest_25 : decode cX7_soonest 25 = .ok (.aload_n 0, 1) := by decide +kernel
theorem dX7_soonest_26 : decode cX7_soonest 26 = .ok (.getfield 29, 3) := by decide +kernel
theorem dX7_soonest_29 : decode cX7_soonest 29 = .ok (.iload 6, 2) := by decide +kernel
theorem dX7_soonest_31 : decode cX7_soonest 31 = .ok (.aaload, 1) := by decide +kernel
theorem dX7_soonest_32 : decode cX7_soonest 32 = .ok (.invokevirtual 236, 3) := by decide +kernel
theorem dX7_soonest_35 : decode cX7_soonest 35 = .ok (.dstore 7, 2) := by decide +kernel
theorem dX7_soonest_37 : decode cX7_soonest 37 = .ok (.iload_n 3, 1) := by decide +kernel
theorem dX7_soonest_38 : decode cX7_soonest 38 = .ok (.iconst (-1), 1) := by decide +kernel
theorem dX7_soonest_39 : decode cX7_soonest 39 = .ok (.if_icmp .eq 11, 3) := by decide +kernel
theorem dX7_soonest_42 : decode cX7_soonest 42 = .ok (.dload 7, 2) := by decide +kernel
theorem dX7_soonest_44 : decode cX7_soonest 44 = .ok (.dload 4, 2) := by decide +kernel
theorem dX7_soonest_46 : decode cX7_soonest 46 = .ok (.dcmp .g, 1) := by decide +kernel
theorem dX7_soonest_47 : decode cX7_soonest 47 = .ok (.ifCond .ge 10, 3) := by decide +kernel
theorem dX7_soonest_50 : decode cX7_soonest 50 = .ok (.iload 6, 2) := by decide +kernel
theorem dX7_soonest_52 : decode cX7_soonest 52 = .ok (.istore_n 3, 1) := by decide +kernel
theorem dX7_soonest_53 : decode cX7_soonest 53 = .ok (.dload 7, 2) := by decide +kernel
theorem dX7_soonest_55 : decode cX7_soonest 55 = .ok (.dstore 4, 2) := by decide +kernel
theorem dX7_soonest_57 : decode cX7_soonest 57 = .ok (.iinc 6 1, 3) := by decide +kernel
theorem dX7_soonest_60 : decode cX7_soonest 60 = .ok (.goto (-46), 3) := by decide +kernel
theorem dX7_soonest_63 : decode cX7_soonest 63 = .ok (.iload_n 3, 1) := by decide +kernel
theorem dX7_soonest_64 : decode cX7_soonest 64 = .ok (.ireturn, 1) := by decide +kernel
theorem dX7_digest_0 : decode cX7_digest 0 = .ok (.ldc2_w 341, 3) := by decide +kernel
theorem dX7_digest_3 : decode cX7_digest 3 = .ok (.lstore_n 1, 1) := by decide +kernel
theorem dX7_digest_4 : decode cX7_digest 4 = .ok (.iconst 0, 1) := by decide +kernel
theorem dX7_digest_5 : decode cX7_digest 5 = .ok (.istore_n 3, 1) := by decide +kernel
theorem dX7_digest_6 : decode cX7_digest 6 = .ok (.iload_n 3, 1) := by decide +kernel
theorem dX7_digest_7 : decode cX7_digest 7 = .ok (.bipush 13, 2) := by decide +kernel
theorem dX7_digest_9 : decode cX7_digest 9 = .ok (.if_icmp .gt 20, 3) := by decide +kernel
theorem dX7_digest_12 : decode cX7_digest 12 = .ok (.lload_n 1, 1) := by decide +kernel
theorem dX7_digest_13 : decode cX7_digest 13 = .ok (.aload_n 0, 1) := by decide +kernel
theorem dX7_digest_14 : decode cX7_digest 14 = .ok (.iload_n 3, 1) := by decide +kernel
theorem dX7_digest_15 : decode cX7_digest 15 = .ok (.invokevirtual 343, 3) := by decide +kernel
theorem dX7_digest_18 : decode cX7_digest 18 = .ok (.i2l, 1) := by decide +kernel
theorem dX7_digest_19 : decode cX7_digest 19 = .ok (.invokestatic 346, 3) := by decide +kernel
theorem dX7_digest_22 : decode cX7_digest 22 = .ok (.lstore_n 1, 1) := by decide +kernel
theorem dX7_digest_23 : decode cX7_digest 23 = .ok (.iinc 3 1, 3) := by decide +kernel
theorem dX7_digest_26 : decode cX7_digest 26 = .ok (.goto (-20), 3) := by decide +kernel
theorem dX7_digest_29 : decode cX7_digest 29 = .ok (.iconst 0, 1) := by decide +kernel
theorem dX7_digest_30 : decode cX7_digest 30 = .ok (.istore_n 3, 1) := by decide +kernel
theorem dX7_digest_31 : decode cX7_digest 31 = .ok (.iload_n 3, 1) := by decide +kernel
theorem dX7_digest_32 : decode cX7_digest 32 = .ok (.aload_n 0, 1) := by decide +kernel
theorem dX7_digest_33 : decode cX7_digest 33 = .ok (.getfield 57, 3) := by decide +kernel
theorem dX7_digest_36 : decode cX7_digest 36 = .ok (.if_icmp .ge 39, 3) := by decide +kernel
theorem dX7_digest_39 : decode cX7_digest 39 = .ok (.iconst 0, 1) := by decide +kernel
theorem dX7_digest_40 : decode cX7_digest 40 = .ok (.istore 4, 2) := by decide +kernel
theorem dX7_digest_42 : decode cX7_digest 42 = .ok (.iload 4, 2) := by decide +kernel
theorem dX7_digest_44 : decode cX7_digest 44 = .ok (.iconst 2, 1) := by decide +kernel
theorem dX7_digest_45 : decode cX7_digest 45 = .ok (.if_icmp .gt 24, 3) := by decide +kernel
theorem dX7_digest_48 : decode cX7_digest 48 = .ok (.lload_n 1, 1) := by decide +kernel
theorem dX7_digest_49 : decode cX7_digest 49 = .ok (.aload_n 0, 1) := by decide +kernel
theorem dX7_digest_50 : decode cX7_digest 50 = .ok (.iload_n 3, 1) := by decide +kernel
theorem dX7_digest_51 : decode cX7_digest 51 = .ok (.iload 4, 2) := by decide +kernel
theorem dX7_digest_53 : decode cX7_digest 53 = .ok (.invokevirtual 350, 3) := by decide +kernel
theorem dX7_digest_56 : decode cX7_digest 56 = .ok (.invokestatic 354, 3) := by decide +kernel
theorem dX7_digest_59 : decode cX7_digest 59 = .ok (.invokestatic 346, 3) := by decide +kernel
theorem dX7_digest_62 : decode cX7_digest 62 = .ok (.lstore_n 1, 1) := by decide +kernel
theorem dX7_digest_63 : decode cX7_digest 63 = .ok (.iinc 4 1, 3) := by decide +kernel
theorem dX7_digest_66 : decode cX7_digest 66 = .ok (.goto (-24), 3) := by decide +kernel
theorem dX7_digest_69 : decode cX7_digest 69 = .ok (.iinc 3 1, 3) := by decide +kernel
theorem dX7_digest_72 : decode cX7_digest 72 = .ok (.goto (-41), 3) := by decide +kernel
theorem dX7_digest_75 : decode cX7_digest 75 = .ok (.iconst 0, 1) := by decide +kernel
theorem dX7_digest_76 : decode cX7_digest 76 = .ok (.istore_n 3, 1) := by decide +kernel
theorem dX7_digest_77 : decode cX7_digest 77 = .ok (.iload_n 3, 1) := by decide +kernel
theorem dX7_digest_78 : decode cX7_digest 78 = .ok (.aload_n 0, 1) := by decide +kernel
theorem dX7_digest_79 : decode cX7_digest 79 = .ok (.getfield 173, 3) := by decide +kernel
theorem dX7_digest_82 : decode cX7_digest 82 = .ok (.if_icmp .ge 136, 3) := by decide +kernel
theorem dX7_digest_85 : decode cX7_digest 85 = .ok (.iconst 0, 1) := by decide +kernel
theorem dX7_digest_86 : decode cX7_digest 86 = .ok (.istore 4, 2) := by decide +kernel
theorem dX7_digest_88 : decode cX7_digest 88 = .ok (.iload 4, 2) := by decide +kernel
theorem dX7_digest_90 : decode cX7_digest 90 = .ok (.bipush 7, 2) := by decide +kernel
theorem dX7_digest_92 : decode cX7_digest 92 = .ok (.if_icmp .gt 22, 3) := by decide +kernel
theorem dX7_digest_95 : decode cX7_digest 95 = .ok (.lload_n 1, 1) := by decide +kernel
theorem dX7_digest_96 : decode cX7_digest 96 = .ok (.aload_n 0, 1) := by decide +kernel
theorem dX7_digest_97 : decode cX7_digest 97 = .ok (.iload_n 3, 1) := by decide +kernel
theorem dX7_digest_98 : decode cX7_digest 98 = .ok (.iload 4, 2) := by decide +kernel
theorem dX7_digest_100 : decode cX7_digest 100 = .ok (.invokevirtual 358, 3) := by decide +kernel
theorem dX7_digest_103 : decode cX7_digest 103 = .ok (.i2l, 1) := by decide +kernel
theorem dX7_digest_104 : decode cX7_digest 104 = .ok (.invokestatic 346, 3) := by decide +kernel
theorem dX7_digest_107 : decode cX7_digest 107 = .ok (.lstore_n 1, 1) := by decide +kernel
theorem dX7_digest_108 : decode cX7_digest 108 = .ok (.iinc 4 1, 3) := by decide +kernel
theorem dX7_digest_111 : decode cX7_digest 111 = .ok (.goto (-23), 3) := by decide +kernel
theorem dX7_digest_114 : decode cX7_digest 114 = .ok (.lload_n 1, 1) := by decide +kernel
theorem dX7_digest_115 : decode cX7_digest 115 = .ok (.aload_n 0, 1) := by decide +kernel
theorem dX7_digest_116 : decode cX7_digest 116 = .ok (.iload_n 3, 1) := by decide +kernel
theorem dX7_digest_117 : decode cX7_digest 117 = .ok (.iconst 1, 1) := by decide +kernel
theorem dX7_digest_118 : decode cX7_digest 118 = .ok (.invokevirtual 362, 3) := by decide +kernel
theorem dX7_digest_121 : decode cX7_digest 121 = .ok (.invokestatic 354, 3) := by decide +kernel
theorem dX7_digest_124 : decode cX7_digest 124 = .ok (.invokestatic 346, 3) := by decide +kernel
theorem dX7_digest_127 : decode cX7_digest 127 = .ok (.lstore_n 1, 1) := by decide +kernel
theorem dX7_digest_128 : decode cX7_digest 128 = .ok (.lload_n 1, 1) := by decide +kernel
theorem dX7_digest_129 : decode cX7_digest 129 = .ok (.aload_n 0, 1) := by decide +kernel
theorem dX7_digest_130 : decode cX7_digest 130 = .ok (.iload_n 3, 1) := by decide +kernel
theorem dX7_digest_131 : decode cX7_digest 131 = .ok (.iconst 0, 1) := by decide +kernel
theorem dX7_digest_132 : decode cX7_digest 132 = .ok (.invokevirtual 362, 3) := by decide +kernel
theorem dX7_digest_135 : decode cX7_digest 135 = .ok (.invokestatic 354, 3) := by decide +kernel
theorem dX7_digest_138 : decode cX7_digest 138 = .ok (.invokestatic 346, 3) := by decide +kernel
theorem dX7_digest_141 : decode cX7_digest 141 = .ok (.lstore_n 1, 1) := by decide +kernel
theorem dX7_digest_142 : decode cX7_digest 142 = .ok (.lload_n 1, 1) := by decide +kernel
theorem dX7_digest_143 : decode cX7_digest 143 = .ok (.aload_n 0, 1) := by decide +kernel
theorem dX7_digest_144 : decode cX7_digest 144 = .ok (.iload_n 3, 1) := by decide +kernel
theorem dX7_digest_145 : decode cX7_digest 145 = .ok (.invokevirtual 366, 3) := by decide +kernel
theorem dX7_digest_148 : decode cX7_digest 148 = .ok (.invokestatic 354, 3) := by decide +kernel
theorem dX7_digest_151 : decode cX7_digest 151 = .ok (.invokestatic 346, 3) := by decide +kernel
theorem dX7_digest_154 : decode cX7_digest 154 = .ok (.lstore_n 1, 1) := by decide +kernel
theorem dX7_digest_155 : decode cX7_digest 155 = .ok (.lload_n 1, 1) := by decide +kernel
theorem dX7_digest_156 : decode cX7_digest 156 = .ok (.aload_n 0, 1) := by decide +kernel
theorem dX7_digest_157 : decode cX7_digest 157 = .ok (.iload_n 3, 1) := by decide +kernel
theorem dX7_digest_158 : decode cX7_digest 158 = .ok (.invokevirtual 369, 3) := by decide +kernel
theorem dX7_digest_161 : decode cX7_digest 161 = .ok (.i2l, 1) := by decide +kernel
theorem dX7_digest_162 : decode cX7_digest 162 = .ok (.invokestatic 346, 3) := by decide +kernel
theorem dX7_digest_165 : decode cX7_digest 165 = .ok (.lstore_n 1, 1) := by decide +kernel
theorem dX7_digest_166 : decode cX7_digest 166 = .ok (.lload_n 1, 1) := by decide +kernel
theorem dX7_digest_167 : decode cX7_digest 167 = .ok (.aload_n 0, 1) := by decide +kernel
theorem dX7_digest_168 : decode cX7_digest 168 = .ok (.iload_n 3, 1) := by decide +kernel
theorem dX7_digest_169 : decode cX7_digest 169 = .ok (.invokevirtual 372, 3) := by decide +kernel
theorem dX7_digest_172 : decode cX7_digest 172 = .ok (.i2l, 1) := by decide +kernel
theorem dX7_digest_173 : decode cX7_digest 173 = .ok (.invokestatic 346, 3) := by decide +kernel
theorem dX7_digest_176 : decode cX7_digest 176 = .ok (.lstore_n 1, 1) := by decide +kernel
theorem dX7_digest_177 : decode cX7_digest 177 = .ok (.iconst 0, 1) := by decide +kernel
theorem dX7_digest_178 : decode cX7_digest 178 = .ok (.istore 4, 2) := by decide +kernel
theorem dX7_digest_180 : decode cX7_digest 180 = .ok (.iload 4, 2) := by decide +kernel
theorem dX7_digest_182 : decode cX7_digest 182 = .ok (.aload_n 0, 1) := by decide +kernel
theorem dX7_digest_183 : decode cX7_digest 183 = .ok (.getfield 57, 3) := by decide +kernel
theorem dX7_digest_186 : decode cX7_digest 186 = .ok (.if_icmp .ge 26, 3) := by decide +kernel
theorem dX7_digest_189 : decode cX7_digest 189 = .ok (.lload_n 1, 1) := by decide +kernel
theorem dX7_digest_190 : decode cX7_digest 190 = .ok (.aload_n 0, 1) := by decide +kernel
theorem dX7_digest_191 : decode cX7_digest 191 = .ok (.iload_n 3, 1) := by decide +kernel
theorem dX7_digest_192 : decode cX7_digest 192 = .ok (.iconst (-1), 1) := by decide +kernel
theorem dX7_digest_193 : decode cX7_digest 193 = .ok (.iload 4, 2) := by decide +kernel
theorem dX7_digest_195 : decode cX7_digest 195 = .ok (.iconst 0, 1) := by decide +kernel
theorem dX7_digest_196 : decode cX7_digest 196 = .ok (.invokevirtual 375, 3) := by decide +kernel
theorem dX7_digest_199 : decode cX7_digest 199 = .ok (.invokestatic 354, 3) := by decide +kernel
theorem dX7_digest_202 : decode cX7_digest 202 = .ok (.invokestatic 346, 3) := by decide +kernel
theorem dX7_digest_205 : decode cX7_digest 205 = .ok (.lstore_n 1, 1) := by decide +kernel
theorem dX7_digest_206 : decode cX7_digest 206 = .ok (.iinc 4 1, 3) := by decide +kernel
theorem dX7_digest_209 : decode cX7_digest 209 = .ok (.goto (-29), 3) := by decide +kernel
theorem dX7_digest_212 : decode cX7_digest 212 = .ok (.iinc 3 1, 3) := by decide +kernel
theorem dX7_digest_215 : decode cX7_digest 215 = .ok (.goto (-138), 3) := by decide +kernel
theorem dX7_digest_218 : decode cX7_digest 218 = .ok (.iconst 0, 1) := by decide +kernel
theorem dX7_digest_219 : decode cX7_digest 219 = .ok (.istore_n 3, 1) := by decide +kernel
theorem dX7_digest_220 : decode cX7_digest 220 = .ok (.iload_n 3, 1) := by decide +kernel
theorem dX7_digest_221 : decode cX7_digest 221 = .ok (.aload_n 0, 1) := by decide +kernel
theorem dX7_digest_222 : decode cX7_digest 222 = .ok (.getfield 162, 3) := by decide +kernel
theorem dX7_digest_225 : decode cX7_digest 225 = .ok (.if_icmp .ge 22, 3) := by decide +kernel
theorem dX7_digest_228 : decode cX7_digest 228 = .ok (.lload_n 1, 1) := by decide +kernel
theorem dX7_digest_229 : decode cX7_digest 229 = .ok (.aload_n 0, 1) := by decide +kernel
theorem dX7_digest_230 : decode cX7_digest 230 = .ok (.iload_n 3, 1) := by decide +kernel
theorem dX7_digest_231 : decode cX7_digest 231 = .ok (.invokevirtual 379, 3) := by decide +kernel
theorem dX7_digest_234 : decode cX7_digest 234 = .ok (.invokestatic 354, 3) := by decide +kernel
theorem dX7_digest_237 : decode cX7_digest 237 = .ok (.invokestatic 346, 3) := by decide +kernel
theorem dX7_digest_240 : decode cX7_digest 240 = .ok (.lstore_n 1, 1) := by decide +kernel
theorem dX7_digest_241 : decode cX7_digest 241 = .ok (.iinc 3 1, 3) := by decide +kernel
theorem dX7_digest_244 : decode cX7_digest 244 = .ok (.goto (-24), 3) := by decide +kernel
theorem dX7_digest_247 : decode cX7_digest 247 = .ok (.lload_n 1, 1) := by decide +kernel
theorem dX7_digest_248 : decode cX7_digest 248 = .ok (.aload_n 0, 1) := by decide +kernel
theorem dX7_digest_249 : decode cX7_digest 249 = .ok (.getfield 178, 3) := by decide +kernel
theorem dX7_digest_252 : decode cX7_digest 252 = .ok (.invokestatic 354, 3) := by decide +kernel
theorem dX7_digest_255 : decode cX7_digest 255 = .ok (.invokestatic 346, 3) := by decide +kernel
theorem dX7_digest_258 : decode cX7_digest 258 = .ok (.lreturn, 1) := by decide +kernel
theorem dX7_clothAt_0 : decode cX7_clothAt 0 = .ok (.iload_n 1, 1) := by decide +kernel
theorem dX7_clothAt_1 : decode cX7_clothAt 1 = .ok (.ifCond .lt 11, 3) := by decide +kernel
theorem dX7_clothAt_4 : decode cX7_clothAt 4 = .ok (.iload_n 1, 1) := by decide +kernel
theorem dX7_clothAt_5 : decode cX7_clothAt 5 = .ok (.aload_n 0, 1) := by decide +kernel
theorem dX7_clothAt_6 : decode cX7_clothAt 6 = .ok (.getfield 57, 3) := by decide +kernel
theorem dX7_clothAt_9 : decode cX7_clothAt 9 = .ok (.if_icmp .lt 14, 3) := by decide +kernel
theorem dX7_clothAt_12 : decode cX7_clothAt 12 = .ok (.new 107, 3) := by decide +kernel
theorem dX7_clothAt_15 : decode cX7_clothAt 15 = .ok (.dup, 1) := by decide +kernel
theorem dX7_clothAt_16 : decode cX7_clothAt 16 = .ok (.ldc_w 381, 3) := by decide +kernel
theorem dX7_clothAt_19 : decode cX7_clothAt 19 = .ok (.invokespecial 111, 3) := by decide +kernel
theorem dX7_clothAt_22 : decode cX7_clothAt 22 = .ok (.athrow, 1) := by decide +kernel
theorem dX7_clothAt_23 : decode cX7_clothAt 23 = .ok (.aload_n 0, 1) := by decide +kernel
theorem dX7_clothAt_24 : decode cX7_clothAt 24 = .ok (.getfield 11, 3) := by decide +kernel
theorem dX7_clothAt_27 : decode cX7_clothAt 27 = .ok (.iload_n 1, 1) := by decide +kernel
theorem dX7_clothAt_28 : decode cX7_clothAt 28 = .ok (.aaload, 1) := by decide +kernel
theorem dX7_clothAt_29 : decode cX7_clothAt 29 = .ok (.areturn, 1) := by decide +kernel
theorem dX7_personAt_0 : decode cX7_personAt 0 = .ok (.iload_n 1, 1) := by decide +kernel
theorem dX7_personAt_1 : decode cX7_personAt 1 = .ok (.ifCond .lt 11, 3) := by decide +kernel
theorem dX7_personAt_4 : decode cX7_personAt 4 = .ok (.iload_n 1, 1) := by decide +kernel
theorem dX7_personAt_5 : decode cX7_personAt 5 = .ok (.aload_n 0, 1) := by decide +kernel
theorem dX7_personAt_6 : decode cX7_personAt 6 = .ok (.getfield 95, 3) := by decide +kernel
theorem dX7_personAt_9 : decode cX7_personAt 9 = .ok (.if_icmp .lt 14, 3) := by decide +kernel
theorem dX7_personAt_12 : decode cX7_personAt 12 = .ok (.new 107, 3) := by decide +kernel
theorem dX7_personAt_15 : decode cX7_personAt 15 = .ok (.dup, 1) := by decide +kernel
theorem dX7_personAt_16 : decode cX7_personAt 16 = .ok (.ldc_w 383, 3) := by decide +kernel
theorem dX7_personAt_19 : decode cX7_personAt 19 = .ok (.invokespecial 111, 3) := by decide +kernel
theorem dX7_personAt_22 : decode cX7_personAt 22 = .ok (.athrow, 1) := by decide +kernel
theorem dX7_personAt_23 : decode cX7_personAt 23 = .ok (.aload_n 0, 1) := by decide +kernel
theorem dX7_personAt_24 : decode cX7_personAt 24 = .ok (.getfield 17, 3) := by decide +kernel
theorem dX7_personAt_27 : decode cX7_personAt 27 = .ok (.iload_n 1, 1) := by decide +kernel
theorem dX7_personAt_28 : decode cX7_personAt 28 = .ok (.aaload, 1) := by decide +kernel
theorem dX7_personAt_29 : decode cX7_personAt 29 = .ok (.areturn, 1) := by decide +kernel
theorem dX7_styleAt_0 : decode cX7_styleAt 0 = .ok (.iload_n 1, 1) := by decide +kernel
theorem dX7_styleAt_1 : decode cX7_styleAt 1 = .ok (.ifCond .lt 11, 3) := by decide +kernel
theorem dX7_styleAt_4 : decode cX7_styleAt 4 = .ok (.iload_n 1, 1) := by decide +kernel
theorem dX7_styleAt_5 : decode cX7_styleAt 5 = .ok (.aload_n 0, 1) := by decide +kernel
theorem dX7_styleAt_6 : decode cX7_styleAt 6 = .ok (.getfield 120, 3) := by decide +kernel
theorem dX7_styleAt_9 : decode cX7_styleAt 9 = .ok (.if_icmp .lt 14, 3) := by decide +kernel
theorem dX7_styleAt_12 : decode cX7_styleAt 12 = .ok (.new 107, 3) := by decide +kernel
theorem dX7_styleAt_15 : decode cX7_styleAt 15 = .ok (.dup, 1) := by decide +kernel
theorem dX7_styleAt_16 : decode cX7_styleAt 16 = .ok (.ldc_w 385, 3) := by decide +kernel
theorem dX7_styleAt_19 : decode cX7_styleAt 19 = .ok (.invokespecial 111, 3) := by decide +kernel
theorem dX7_styleAt_22 : decode cX7_styleAt 22 = .ok (.athrow, 1) := by decide +kernel
theorem dX7_styleAt_23 : decode cX7_styleAt 23 = .ok (.aload_n 0, 1) := by decide +kernel
theorem dX7_styleAt_24 : decode cX7_styleAt 24 = .ok (.getfield 23, 3) := by decide +kernel
theorem dX7_styleAt_27 : decode cX7_styleAt 27 = .ok (.iload_n 1, 1) := by decide +kernel
theorem dX7_styleAt_28 : decode cX7_styleAt 28 = .ok (.aaload, 1) := by decide +kernel
theorem dX7_styleAt_29 : decode cX7_styleAt 29 = .ok (.areturn, 1) := by decide +kernel
theorem dX7_handAt_0 : decode cX7_handAt 0 = .ok (.iload_n 1, 1) := by decide +kernel
theorem dX7_handAt_1 : decode cX7_handAt 1 = .ok (.ifCond .lt 11, 3) := by decide +kernel
theorem dX7_handAt_4 : decode cX7_handAt 4 = .ok (.iload_n 1, 1) := by decide +kernel
theorem dX7_handAt_5 : decode cX7_handAt 5 = .ok (.aload_n 0, 1) := by decide +kernel
theorem dX7_handAt_6 : decode cX7_handAt 6 = .ok (.getfield 162, 3) := by decide +kernel
theorem dX7_handAt_9 : decode cX7_handAt 9 = .ok (.if_icmp .lt 14, 3) := by decide +kernel
theorem dX7_handAt_12 : decode cX7_handAt 12 = .ok (.new 107, 3) := by decide +kernel
theorem dX7_handAt_15 : decode cX7_handAt 15 = .ok (.dup, 1) := by decide +kernel
theorem dX7_handAt_16 : decode cX7_handAt 16 = .ok (.ldc_w 387, 3) := by decide +kernel
theorem dX7_handAt_19 : decode cX7_handAt 19 = .ok (.invokespecial 111, 3) := by decide +kernel
theorem dX7_handAt_22 : decode cX7_handAt 22 = .ok (.athrow, 1) := by decide +kernel
theorem dX7_handAt_23 : decode cX7_handAt 23 = .ok (.aload_n 0, 1) := by decide +kernel
theorem dX7_handAt_24 : decode cX7_handAt 24 = .ok (.getfield 29, 3) := by decide +kernel
theorem dX7_handAt_27 : decode cX7_handAt 27 = .ok (.iload_n 1, 1) := by decide +kernel
theorem dX7_handAt_28 : decode cX7_handAt 28 = .ok (.aaload, 1) := by decide +kernel
theorem dX7_handAt_29 : decode cX7_handAt 29 = .ok (.areturn, 1) := by decide +kernel
theorem dX7_orderAt_0 : decode cX7_orderAt 0 = .ok (.iload_n 1, 1) := by decide +kernel
theorem dX7_orderAt_1 : decode cX7_orderAt 1 = .ok (.ifCond .lt 11, 3) := by decide +kernel
theorem dX7_orderAt_4 : decode cX7_orderAt 4 = .ok (.iload_n 1, 1) := by decide +kernel
theorem dX7_orderAt_5 : decode cX7_orderAt 5 = .ok (.aload_n 0, 1) := by decide +kernel
theorem dX7_orderAt_6 : decode cX7_orderAt 6 = .ok (.getfield 173, 3) := by decide +kernel
theorem dX7_orderAt_9 : decode cX7_orderAt 9 = .ok (.if_icmp .lt 14, 3) := by decide +kernel
theorem dX7_orderAt_12 : decode cX7_orderAt 12 = .ok (.new 107, 3) := by decide +kernel
theorem dX7_orderAt_15 : decode cX7_orderAt 15 = .ok (.dup, 1) := by decide +kernel
theorem dX7_orderAt_16 : decode cX7_orderAt 16 = .ok (.ldc_w 389, 3) := by decide +kernel
theorem dX7_orderAt_19 : decode cX7_orderAt 19 = .ok (.invokespecial 111, 3) := by decide +kernel
theorem dX7_orderAt_22 : decode cX7_orderAt 22 = .ok (.athrow, 1) := by decide +kernel
theorem dX7_orderAt_23 : decode cX7_orderAt 23 = .ok (.aload_n 0, 1) := by decide +kernel
theorem dX7_orderAt_24 : decode cX7_orderAt 24 = .ok (.getfield 35, 3) := by decide +kernel
theorem dX7_orderAt_27 : decode cX7_orderAt 27 = .ok (.iload_n 1, 1) := by decide +kernel
theorem dX7_orderAt_28 : decode cX7_orderAt 28 = .ok (.aaload, 1) := by decide +kernel
theorem dX7_orderAt_29 : decode cX7_orderAt 29 = .ok (.areturn, 1) := by decide +kernel
theorem dX7_otherAt_0 : decode cX7_otherAt 0 = .ok (.iload_n 1, 1) := by decide +kernel
theorem dX7_otherAt_1 : decode cX7_otherAt 1 = .ok (.iconst (-1), 1) := by decide +kernel
theorem dX7_otherAt_2 : decode cX7_otherAt 2 = .ok (.if_icmp .ne 7, 3) := by decide +kernel
theorem dX7_otherAt_5 : decode cX7_otherAt 5 = .ok (.aconst_null, 1) := by decide +kernel
theorem dX7_otherAt_6 : decode cX7_otherAt 6 = .ok (.goto 8, 3) := by decide +kernel
theorem dX7_otherAt_9 : decode cX7_otherAt 9 = .ok (.aload_n 0, 1) := by decide +kernel
theorem dX7_otherAt_10 : decode cX7_otherAt 10 = .ok (.iload_n 1, 1) := by decide +kernel
theorem dX7_otherAt_11 : decode cX7_otherAt 11 = .ok (.invokevirtual 184, 3) := by decide +kernel
theorem dX7_otherAt_14 : decode cX7_otherAt 14 = .ok (.areturn, 1) := by decide +kernel
theorem dX7_spend_0 : decode cX7_spend 0 = .ok (.aload_n 0, 1) := by decide +kernel
theorem dX7_spend_1 : decode cX7_spend 1 = .ok (.aload_n 0, 1) := by decide +kernel
theorem dX7_spend_2 : decode cX7_spend 2 = .ok (.getfield 178, 3) := by decide +kernel
theorem dX7_spend_5 : decode cX7_spend 5 = .ok (.dload_n 1, 1) := by decide +kernel
theorem dX7_spend_6 : decode cX7_spend 6 = .ok (.dadd, 1) := by decide +kernel
theorem dX7_spend_7 : decode cX7_spend 7 = .ok (.putfield 178, 3) := by decide +kernel
theorem dX7_spend_10 : decode cX7_spend 10 = .ok (.aload_n 0, 1) := by decide +kernel
theorem dX7_spend_11 : decode cX7_spend 11 = .ok (.getfield 178, 3) := by decide +kernel
theorem dX7_spend_14 : decode cX7_spend 14 = .ok (.ldc2_w 391, 3) := by decide +kernel
theorem dX7_spend_17 : decode cX7_spend 17 = .ok (.dcmp .l, 1) := by decide +kernel
theorem dX7_spend_18 : decode cX7_spend 18 = .ok (.ifCond .le 10, 3) := by decide +kernel
theorem dX7_spend_21 : decode cX7_spend 21 = .ok (.aload_n 0, 1) := by decide +kernel
theorem dX7_spend_22 : decode cX7_spend 22 = .ok (.ldc2_w 391, 3) := by decide +kernel
theorem dX7_spend_25 : decode cX7_spend 25 = .ok (.putfield 178, 3) := by decide +kernel
theorem dX7_spend_28 : decode cX7_spend 28 = .ok (.return_, 1) := by decide +kernel
theorem dX7_countInState_0 : decode cX7_countInState 0 = .ok (.iconst 0, 1) := by decide +kernel
theorem dX7_countInState_1 : decode cX7_countInState 1 = .ok (.istore_n 2, 1) := by decide +kernel
theorem dX7_countInState_2 : decode cX7_countInState 2 = .ok (.iconst 0, 1) := by decide +kernel
theorem dX7_countInState_3 : decode cX7_countInState 3 = .ok (.istore_n 3, 1) := by decide +kernel
theorem dX7_countInState_4 : decode cX7_countInState 4 = .ok (.iload_n 3, 1) := by decide +kernel
theorem dX7_countInState_5 : decode cX7_countInState 5 = .ok (.aload_n 0, 1) := by decide +kernel
theorem dX7_countInState_6 : decode cX7_countInState 6 = .ok (.getfield 173, 3) := by decide +kernel
theorem dX7_countInState_9 : decode cX7_countInState 9 = .ok (.if_icmp .ge 25, 3) := by decide +kernel
theorem dX7_countInState_12 : decode cX7_countInState 12 = .ok (.aload_n 0, 1) := by decide +kernel
theorem dX7_countInState_13 : decode cX7_countInState 13 = .ok (.getfield 35, 3) := by decide +kernel
theorem dX7_countInState_16 : decode cX7_countInState 16 = .ok (.iload_n 3, 1) := by decide +kernel
theorem dX7_countInState_17 : decode cX7_countInState 17 = .ok (.aaload, 1) := by decide +kernel
theorem dX7_countInState_18 : decode cX7_countInState 18 = .ok (.getfield 196, 3) := by decide +kernel
theorem dX7_countInState_21 : decode cX7_countInState 21 = .ok (.iload_n 1, 1) := by decide +kernel
theorem dX7_countInState_22 : decode cX7_countInState 22 = .ok (.if_icmp .ne 6, 3) := by decide +kernel
theorem dX7_countInState_25 : decode cX7_countInState 25 = .ok (.iinc 2 1, 3) := by decide +kernel
theorem dX7_countInState_28 : decode cX7_countInState 28 = .ok (.iinc 3 1, 3) := by decide +kernel
theorem dX7_countInState_31 : decode cX7_countInState 31 = .ok (.goto (-27), 3) := by decide +kernel
theorem dX7_countInState_34 : decode cX7_countInState 34 = .ok (.iload_n 2, 1) := by decide +kernel
theorem dX7_countInState_35 : decode cX7_countInState 35 = .ok (.ireturn, 1) := by decide +kernel
theorem dX7_endOfSewing_0 : decode cX7_endOfSewing 0 = .ok (.aload_n 0, 1) := by decide +kernel
theorem dX7_endOfSewing_1 : decode cX7_endOfSewing 1 = .ok (.getfield 178, 3) := by decide +kernel
theorem dX7_endOfSewing_4 : decode cX7_endOfSewing 4 = .ok (.aload_n 2, 1) := by decide +kernel
theorem dX7_endOfSewing_5 : decode cX7_endOfSewing 5 = .ok (.getfield 240, 3) := by decide +kernel
theorem dX7_endOfSewing_8 : decode cX7_endOfSewing 8 = .ok (.dcmp .l, 1) := by decide +kernel
theorem dX7_endOfSewing_9 : decode cX7_endOfSewing 9 = .ok (.ifCond .lt 10, 3) := by decide +kernel
theorem dX7_endOfSewing_12 : decode cX7_endOfSewing 12 = .ok (.aload_n 0, 1) := by decide +kernel
theorem dX7_endOfSewing_13 : decode cX7_endOfSewing 13 = .ok (.getfield 178, 3) := by decide +kernel
theorem dX7_endOfSewing_16 : decode cX7_endOfSewing 16 = .ok (.goto 7, 3) := by decide +kernel
theorem dX7_endOfSewing_19 : decode cX7_endOfSewing 19 = .ok (.aload_n 2, 1) := by decide +kernel
theorem dX7_endOfSewing_20 : decode cX7_endOfSewing 20 = .ok (.getfield 240, 3) := by decide +kernel
theorem dX7_endOfSewing_23 : decode cX7_endOfSewing 23 = .ok (.dstore_n 3, 1) := by decide +kernel
theorem dX7_endOfSewing_24 : decode cX7_endOfSewing 24 = .ok (.dload_n 3, 1) := by decide +kernel
theorem dX7_endOfSewing_25 : decode cX7_endOfSewing 25 = .ok (.aload_n 1, 1) := by decide +kernel
theorem dX7_endOfSewing_26 : decode cX7_endOfSewing 26 = .ok (.getfield 267, 3) := by decide +kernel
theorem dX7_endOfSewing_29 : decode cX7_endOfSewing 29 = .ok (.getfield 157, 3) := by decide +kernel
theorem dX7_endOfSewing_32 : decode cX7_endOfSewing 32 = .ok (.i2d, 1) := by decide +kernel
theorem dX7_endOfSewing_33 : decode cX7_endOfSewing 33 = .ok (.ldc2_w 255, 3) := by decide +kernel
theorem dX7_endOfSewing_36 : decode cX7_endOfSewing 36 = .ok (.dmul, 1) := by decide +kernel
theorem dX7_endOfSewing_37 : decode cX7_endOfSewing 37 = .ok (.aload_n 2, 1) := by decide +kernel
theorem dX7_endOfSewing_38 : decode cX7_endOfSewing 38 = .ok (.getfield 393, 3) := by decide +kernel
theorem dX7_endOfSewing_41 : decode cX7_endOfSewing 41 = .ok (.f2d, 1) := by decide +kernel
theorem dX7_endOfSewing_42 : decode cX7_endOfSewing 42 = .ok (.ddiv, 1) := by decide +kernel
theorem dX7_endOfSewing_43 : decode cX7_endOfSewing 43 = .ok (.dadd, 1) := by decide +kernel
theorem dX7_endOfSewing_44 : decode cX7_endOfSewing 44 = .ok (.dreturn, 1) := by decide +kernel
theorem dX7_savedBy_0 : decode cX7_savedBy 0 = .ok (.aload_n 0, 1) := by decide +kernel
theorem dX7_savedBy_1 : decode cX7_savedBy 1 = .ok (.getfield 42, 3) := by decide +kernel
theorem dX7_savedBy_4 : decode cX7_savedBy 4 = .ok (.aload_n 1, 1) := by decide +kernel
theorem dX7_savedBy_5 : decode cX7_savedBy 5 = .ok (.aload_n 2, 1) := by decide +kernel
theorem dX7_savedBy_6 : decode cX7_savedBy 6 = .ok (.aload_n 3, 1) := by decide +kernel
theorem dX7_savedBy_7 : decode cX7_savedBy 7 = .ok (.invokevirtual 201, 3) := by decide +kernel
theorem dX7_savedBy_10 : decode cX7_savedBy 10 = .ok (.ifCond .ne 5, 3) := by decide +kernel
theorem dX7_savedBy_13 : decode cX7_savedBy 13 = .ok (.dconst 0, 1) := by decide +kernel
theorem dX7_savedBy_14 : decode cX7_savedBy 14 = .ok (.dreturn, 1) := by decide +kernel
theorem dX7_savedBy_15 : decode cX7_savedBy 15 = .ok (.aload_n 0, 1) := by decide +kernel
theorem dX7_savedBy_16 : decode cX7_savedBy 16 = .ok (.getfield 42, 3) := by decide +kernel
theorem dX7_savedBy_19 : decode cX7_savedBy 19 = .ok (.getfield 207, 3) := by decide +kernel
theorem dX7_savedBy_22 : decode cX7_savedBy 22 = .ok (.dstore 4, 2) := by decide +kernel
theorem dX7_savedBy_24 : decode cX7_savedBy 24 = .ok (.aload_n 0, 1) := by decide +kernel
theorem dX7_savedBy_25 : decode cX7_savedBy 25 = .ok (.getfield 42, 3) := by decide +kernel
theorem dX7_savedBy_28 : decode cX7_savedBy 28 = .ok (.aload_n 1, 1) := by decide +kernel
theorem dX7_savedBy_29 : decode cX7_savedBy 29 = .ok (.aconst_null, 1) := by decide +kernel
theorem dX7_savedBy_30 : decode cX7_savedBy 30 = .ok (.aload_n 3, 1) := by decide +kernel
theorem dX7_savedBy_31 : decode cX7_savedBy 31 = .ok (.invokevirtual 201, 3) := by decide +kernel
theorem dX7_savedBy_34 : decode cX7_savedBy 34 = .ok (.pop, 1) := by decide +kernel
theorem dX7_savedBy_35 : decode cX7_savedBy 35 = .ok (.aload_n 0, 1) := by decide +kernel
theorem dX7_savedBy_36 : decode cX7_savedBy 36 = .ok (.getfield 42, 3) := by decide +kernel
theorem dX7_savedBy_39 : decode cX7_savedBy 39 = .ok (.getfield 207, 3) := by decide +kernel
theorem dX7_savedBy_42 : decode cX7_savedBy 42 = .ok (.dstore 6, 2) := by decide +kernel
theorem dX7_savedBy_44 : decode cX7_savedBy 44 = .ok (.aload_n 0, 1) := by decide +kernel
theorem dX7_savedBy_45 : decode cX7_savedBy 45 = .ok (.getfield 42, 3) := by decide +kernel
theorem dX7_savedBy_48 : decode cX7_savedBy 48 = .ok (.aload_n 2, 1) := by decide +kernel
theorem dX7_savedBy_49 : decode cX7_savedBy 49 = .ok (.aconst_null, 1) := by decide +kernel
theorem dX7_savedBy_50 : decode cX7_savedBy 50 = .ok (.aload_n 3, 1) := by decide +kernel
theorem dX7_savedBy_51 : decode cX7_savedBy 51 = .ok (.invokevirtual 201, 3) := by decide +kernel
theorem dX7_savedBy_54 : decode cX7_savedBy 54 = .ok (.pop, 1) := by decide +kernel
theorem dX7_savedBy_55 : decode cX7_savedBy 55 = .ok (.dload 6, 2) := by decide +kernel
theorem dX7_savedBy_57 : decode cX7_savedBy 57 = .ok (.aload_n 0, 1) := by decide +kernel
theorem dX7_savedBy_58 : decode cX7_savedBy 58 = .ok (.getfield 42, 3) := by decide +kernel
theorem dX7_savedBy_61 : decode cX7_savedBy 61 = .ok (.getfield 207, 3) := by decide +kernel
theorem dX7_savedBy_64 : decode cX7_savedBy 64 = .ok (.dadd, 1) := by decide +kernel
theorem dX7_savedBy_65 : decode cX7_savedBy 65 = .ok (.dload 4, 2) := by decide +kernel
theorem dX7_savedBy_67 : decode cX7_savedBy 67 = .ok (.dsub, 1) := by decide +kernel
theorem dX7_savedBy_68 : decode cX7_savedBy 68 = .ok (.dreturn, 1) := by decide +kernel
theorem dX7_costOf_0 : decode cX7_costOf 0 = .ok (.aload_n 0, 1) := by decide +kernel
theorem dX7_costOf_1 : decode cX7_costOf 1 = .ok (.getfield 288, 3) := by decide +kernel
theorem dX7_costOf_4 : decode cX7_costOf 4 = .ok (.i2d, 1) := by decide +kernel
theorem dX7_costOf_5 : decode cX7_costOf 5 = .ok (.dload_n 1, 1) := by decide +kernel
theorem dX7_costOf_6 : decode cX7_costOf 6 = .ok (.dmul, 1) := by decide +kernel
theorem dX7_costOf_7 : decode cX7_costOf 7 = .ok (.ldc2_w 396, 3) := by decide +kernel
theorem dX7_costOf_10 : decode cX7_costOf 10 = .ok (.ddiv, 1) := by decide +kernel
theorem dX7_costOf_11 : decode cX7_costOf 11 = .ok (.invokestatic 398, 3) := by decide +kernel
theorem dX7_costOf_14 : decode cX7_costOf 14 = .ok (.d2i, 1) := by decide +kernel
theorem dX7_costOf_15 : decode cX7_costOf 15 = .ok (.ireturn, 1) := by decide +kernel
theorem dX7_isOutside_0 : decode cX7_isOutside 0 = .ok (.iload_n 0, 1) := by decide +kernel
theorem dX7_isOutside_1 : decode cX7_isOutside 1 = .ok (.iload_n 1, 1) := by decide +kernel
theorem dX7_isOutside_2 : decode cX7_isOutside 2 = .ok (.if_icmp .lt 8, 3) := by decide +kernel
theorem dX7_isOutside_5 : decode cX7_isOutside 5 = .ok (.iload_n 0, 1) := by decide +kernel
theorem dX7_isOutside_6 : decode cX7_isOutside 6 = .ok (.iload_n 2, 1) := by decide +kernel
theorem dX7_isOutside_7 : decode cX7_isOutside 7 = .ok (.if_icmp .le 7, 3) := by decide +kernel
theorem dX7_isOutside_10 : decode cX7_isOutside 10 = .ok (.iconst 1, 1) := by decide +kernel
theorem dX7_isOutside_11 : decode cX7_isOutside 11 = .ok (.goto 4, 3) := by decide +kernel
theorem dX7_isOutside_14 : decode cX7_isOutside 14 = .ok (.iconst 0, 1) := by decide +kernel
theorem dX7_isOutside_15 : decode cX7_isOutside 15 = .ok (.ireturn, 1) := by decide +kernel
theorem dX7_isNoMeasure_0 : decode cX7_isNoMeasure 0 = .ok (.iload_n 0, 1) := by decide +kernel
theorem dX7_isNoMeasure_1 : decode cX7_isNoMeasure 1 = .ok (.bipush 50, 2) := by decide +kernel
theorem dX7_isNoMeasure_3 : decode cX7_isNoMeasure 3 = .ok (.sipush 200, 3) := by decide +kernel
theorem dX7_isNoMeasure_6 : decode cX7_isNoMeasure 6 = .ok (.invokestatic 46, 3) := by decide +kernel
theorem dX7_isNoMeasure_9 : decode cX7_isNoMeasure 9 = .ok (.ireturn, 1) := by decide +kernel
theorem dX7_isNoPart_0 : decode cX7_isNoPart 0 = .ok (.iload_n 0, 1) := by decide +kernel
theorem dX7_isNoPart_1 : decode cX7_isNoPart 1 = .ok (.iconst 0, 1) := by decide +kernel
theorem dX7_isNoPart_2 : decode cX7_isNoPart 2 = .ok (.bipush 38, 2) := by decide +kernel
theorem dX7_isNoPart_4 : decode cX7_isNoPart 4 = .ok (.invokestatic 46, 3) := by decide +kernel
theorem dX7_isNoPart_7 : decode cX7_isNoPart 7 = .ok (.ifCond .ne 16, 3) := by decide +kernel
theorem dX7_isNoPart_10 : decode cX7_isNoPart 10 = .ok (.iload_n 0, 1) := by decide +kernel
theorem dX7_isNoPart_11 : decode cX7_isNoPart 11 = .ok (.bipush 10, 2) := by decide +kernel
theorem dX7_isNoPart_13 : decode cX7_isNoPart 13 = .ok (.irem, 1) := by decide +kernel
theorem dX7_isNoPart_14 : decode cX7_isNoPart 14 = .ok (.iconst 1, 1) := by decide +kernel
theorem dX7_isNoPart_15 : decode cX7_isNoPart 15 = .ok (.bipush 8, 2) := by decide +kernel
theorem dX7_isNoPart_17 : decode cX7_isNoPart 17 = .ok (.invokestatic 46, 3) := by decide +kernel
theorem dX7_isNoPart_20 : decode cX7_isNoPart 20 = .ok (.ifCond .eq 7, 3) := by decide +kernel
theorem dX7_isNoPart_23 : decode cX7_isNoPart 23 = .ok (.iconst 1, 1) := by decide +kernel
theorem dX7_isNoPart_24 : decode cX7_isNoPart 24 = .ok (.goto 4, 3) := by decide +kernel
theorem dX7_isNoPart_27 : decode cX7_isNoPart 27 = .ok (.iconst 0, 1) := by decide +kernel
theorem dX7_isNoPart_28 : decode cX7_isNoPart 28 = .ok (.ireturn, 1) := by decide +kernel
theorem dX7_nextWhole_0 : decode cX7_nextWhole 0 = .ok (.dload_n 0, 1) := by decide +kernel
theorem dX7_nextWhole_1 : decode cX7_nextWhole 1 = .ok (.d2l, 1) := by decide +kernel
theorem dX7_nextWhole_2 : decode cX7_nextWhole 2 = .ok (.lstore_n 2, 1) := by decide +kernel
theorem dX7_nextWhole_3 : decode cX7_nextWhole 3 = .ok (.lload_n 2, 1) := by decide +kernel
theorem dX7_nextWhole_4 : decode cX7_nextWhole 4 = .ok (.l2d, 1) := by decide +kernel
theorem dX7_nextWhole_5 : decode cX7_nextWhole 5 = .ok (.dload_n 0, 1) := by decide +kernel
theorem dX7_nextWhole_6 : decode cX7_nextWhole 6 = .ok (.dcmp .g, 1) := by decide +kernel
theorem dX7_nextWhole_7 : decode cX7_nextWhole 7 = .ok (.ifCond .ge 10, 3) := by decide +kernel
theorem dX7_nextWhole_10 : decode cX7_nextWhole 10 = .ok (.lload_n 2, 1) := by decide +kernel
theorem dX7_nextWhole_11 : decode cX7_nextWhole 11 = .ok (.lconst 1, 1) := by decide +kernel
theorem dX7_nextWhole_12 : decode cX7_nextWhole 12 = .ok (.ladd, 1) := by decide +kernel
theorem dX7_nextWhole_13 : decode cX7_nextWhole 13 = .ok (.l2d, 1) := by decide +kernel
theorem dX7_nextWhole_14 : decode cX7_nextWhole 14 = .ok (.goto 5, 3) := by decide +kernel
theorem dX7_nextWhole_17 : decode cX7_nextWhole 17 = .ok (.lload_n 2, 1) := by decide +kernel
theorem dX7_nextWhole_18 : decode cX7_nextWhole 18 = .ok (.l2d, 1) := by decide +kernel
theorem dX7_nextWhole_19 : decode cX7_nextWhole 19 = .ok (.dreturn, 1) := by decide +kernel
theorem dX7_mixed_0 : decode cX7_mixed 0 = .ok (.lload_n 0, 1) := by decide +kernel
theorem dX7_mixed_1 : decode cX7_mixed 1 = .ok (.ldc2_w 402, 3) := by decide +kernel
theorem dX7_mixed_4 : decode cX7_mixed 4 = .ok (.lmul, 1) := by decide +kernel
theorem dX7_mixed_5 : decode cX7_mixed 5 = .ok (.lload_n 2, 1) := by decide +kernel
theorem dX7_mixed_6 : decode cX7_mixed 6 = .ok (.ladd, 1) := by decide +kernel
theorem dX7_mixed_7 : decode cX7_mixed 7 = .ok (.lreturn, 1) := by decide +kernel
theorem dX7_in64ths_0 : decode cX7_in64ths 0 = .ok (.ldc2_w 404, 3) := by decide +kernel
theorem dX7_in64ths_3 : decode cX7_in64ths 3 = .ok (.dload_n 0, 1) := by decide +kernel
theorem dX7_in64ths_4 : decode cX7_in64ths 4 = .ok (.dmul, 1) := by decide +kernel
theorem dX7_in64ths_5 : decode cX7_in64ths 5 = .ok (.d2l, 1) := by decide +kernel
theorem dX7_in64ths_6 : decode cX7_in64ths 6 = .ok (.lreturn, 1) := by decide +kernel
