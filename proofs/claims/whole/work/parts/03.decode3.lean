theorem dX10_insured_7 : decode cX10_insured 7 = .ok (.iconst 0, 1) := by decide +kernel
theorem dX10_insured_8 : decode cX10_insured 8 = .ok (.istore_n 3, 1) := by decide +kernel
theorem dX10_insured_9 : decode cX10_insured 9 = .ok (.iload_n 3, 1) := by decide +kernel
theorem dX10_insured_10 : decode cX10_insured 10 = .ok (.aload_n 0, 1) := by decide +kernel
theorem dX10_insured_11 : decode cX10_insured 11 = .ok (.getfield 92, 3) := by decide +kernel
theorem dX10_insured_14 : decode cX10_insured 14 = .ok (.if_icmp .ge 100, 3) := by decide +kernel
theorem dX10_insured_17 : decode cX10_insured 17 = .ok (.iconst 0, 1) := by decide +kernel
theorem dX10_insured_18 : decode cX10_insured 18 = .ok (.istore 4, 2) := by decide +kernel
theorem dX10_insured_20 : decode cX10_insured 20 = .ok (.iload 4, 2) := by decide +kernel
theorem dX10_insured_22 : decode cX10_insured 22 = .ok (.aload_n 0, 1) := by decide +kernel
theorem dX10_insured_23 : decode cX10_insured 23 = .ok (.getfield 61, 3) := by decide +kernel
theorem dX10_insured_26 : decode cX10_insured 26 = .ok (.iload_n 3, 1) := by decide +kernel
theorem dX10_insured_27 : decode cX10_insured 27 = .ok (.iaload, 1) := by decide +kernel
theorem dX10_insured_28 : decode cX10_insured 28 = .ok (.if_icmp .ge 80, 3) := by decide +kernel
theorem dX10_insured_31 : decode cX10_insured 31 = .ok (.aload_n 0, 1) := by decide +kernel
theorem dX10_insured_32 : decode cX10_insured 32 = .ok (.getfield 64, 3) := by decide +kernel
theorem dX10_insured_35 : decode cX10_insured 35 = .ok (.iconst 5, 1) := by decide +kernel
theorem dX10_insured_36 : decode cX10_insured 36 = .ok (.iload_n 3, 1) := by decide +kernel
theorem dX10_insured_37 : decode cX10_insured 37 = .ok (.imul, 1) := by decide +kernel
theorem dX10_insured_38 : decode cX10_insured 38 = .ok (.iload 4, 2) := by decide +kernel
theorem dX10_insured_40 : decode cX10_insured 40 = .ok (.iadd, 1) := by decide +kernel
theorem dX10_insured_41 : decode cX10_insured 41 = .ok (.iaload, 1) := by decide +kernel
theorem dX10_insured_42 : decode cX10_insured 42 = .ok (.istore 5, 2) := by decide +kernel
theorem dX10_insured_44 : decode cX10_insured 44 = .ok (.aload_n 0, 1) := by decide +kernel
theorem dX10_insured_45 : decode cX10_insured 45 = .ok (.getfield 58, 3) := by decide +kernel
theorem dX10_insured_48 : decode cX10_insured 48 = .ok (.iload_n 3, 1) := by decide +kernel
theorem dX10_insured_49 : decode cX10_insured 49 = .ok (.iaload, 1) := by decide +kernel
theorem dX10_insured_50 : decode cX10_insured 50 = .ok (.bipush 112, 2) := by decide +kernel
theorem dX10_insured_52 : decode cX10_insured 52 = .ok (.if_icmp .ne 50, 3) := by decide +kernel
theorem dX10_insured_55 : decode cX10_insured 55 = .ok (.aload_n 0, 1) := by decide +kernel
theorem dX10_insured_56 : decode cX10_insured 56 = .ok (.getfield 43, 3) := by decide +kernel
theorem dX10_insured_59 : decode cX10_insured 59 = .ok (.iload 5, 2) := by decide +kernel
theorem dX10_insured_61 : decode cX10_insured 61 = .ok (.iaload, 1) := by decide +kernel
theorem dX10_insured_62 : decode cX10_insured 62 = .ok (.ifCond .lt 40, 3) := by decide +kernel
theorem dX10_insured_65 : decode cX10_insured 65 = .ok (.lload_n 1, 1) := by decide +kernel
theorem dX10_insured_66 : decode cX10_insured 66 = .ok (.aload_n 0, 1) := by decide +kernel
theorem dX10_insured_67 : decode cX10_insured 67 = .ok (.getfield 40, 3) := by decide +kernel
theorem dX10_insured_70 : decode cX10_insured 70 = .ok (.iload 5, 2) := by decide +kernel
theorem dX10_insured_72 : decode cX10_insured 72 = .ok (.iaload, 1) := by decide +kernel
theorem dX10_insured_73 : decode cX10_insured 73 = .ok (.i2l, 1) := by decide +kernel
theorem dX10_insured_74 : decode cX10_insured 74 = .ok (.aload_n 0, 1) := by decide +kernel
theorem dX10_insured_75 : decode cX10_insured 75 = .ok (.getfield 52, 3) := by decide +kernel
theorem dX10_insured_78 : decode cX10_insured 78 = .ok (.iload_n 3, 1) := by decide +kernel
theorem dX10_insured_79 : decode cX10_insured 79 = .ok (.iaload, 1) := by decide +kernel
theorem dX10_insured_80 : decode cX10_insured 80 = .ok (.aload_n 0, 1) := by decide +kernel
theorem dX10_insured_81 : decode cX10_insured 81 = .ok (.getfield 49, 3) := by decide +kernel
theorem dX10_insured_84 : decode cX10_insured 84 = .ok (.iload_n 3, 1) := by decide +kernel
theorem dX10_insured_85 : decode cX10_insured 85 = .ok (.iaload, 1) := by decide +kernel
theorem dX10_insured_86 : decode cX10_insured 86 = .ok (.isub, 1) := by decide +kernel
theorem dX10_insured_87 : decode cX10_insured 87 = .ok (.iconst 1, 1) := by decide +kernel
theorem dX10_insured_88 : decode cX10_insured 88 = .ok (.iadd, 1) := by decide +kernel
theorem dX10_insured_89 : decode cX10_insured 89 = .ok (.iconst 2, 1) := by decide +kernel
theorem dX10_insured_90 : decode cX10_insured 90 = .ok (.aload_n 0, 1) := by decide +kernel
theorem dX10_insured_91 : decode cX10_insured 91 = .ok (.iload 5, 2) := by decide +kernel
theorem dX10_insured_93 : decode cX10_insured 93 = .ok (.invokevirtual 147, 3) := by decide +kernel
theorem dX10_insured_96 : decode cX10_insured 96 = .ok (.imul, 1) := by decide +kernel
theorem dX10_insured_97 : decode cX10_insured 97 = .ok (.iadd, 1) := by decide +kernel
theorem dX10_insured_98 : decode cX10_insured 98 = .ok (.i2l, 1) := by decide +kernel
theorem dX10_insured_99 : decode cX10_insured 99 = .ok (.lmul, 1) := by decide +kernel
theorem dX10_insured_100 : decode cX10_insured 100 = .ok (.ladd, 1) := by decide +kernel
theorem dX10_insured_101 : decode cX10_insured 101 = .ok (.lstore_n 1, 1) := by decide +kernel
theorem dX10_insured_102 : decode cX10_insured 102 = .ok (.iinc 4 1, 3) := by decide +kernel
theorem dX10_insured_105 : decode cX10_insured 105 = .ok (.goto (-85), 3) := by decide +kernel
theorem dX10_insured_108 : decode cX10_insured 108 = .ok (.iinc 3 1, 3) := by decide +kernel
theorem dX10_insured_111 : decode cX10_insured 111 = .ok (.goto (-102), 3) := by decide +kernel
theorem dX10_insured_114 : decode cX10_insured 114 = .ok (.lload_n 1, 1) := by decide +kernel
theorem dX10_insured_115 : decode cX10_insured 115 = .ok (.lreturn, 1) := by decide +kernel
theorem dX10_meanWorks_0 : decode cX10_meanWorks 0 = .ok (.iconst 0, 1) := by decide +kernel
theorem dX10_meanWorks_1 : decode cX10_meanWorks 1 = .ok (.istore_n 1, 1) := by decide +kernel
theorem dX10_meanWorks_2 : decode cX10_meanWorks 2 = .ok (.iconst 0, 1) := by decide +kernel
theorem dX10_meanWorks_3 : decode cX10_meanWorks 3 = .ok (.istore_n 2, 1) := by decide +kernel
theorem dX10_meanWorks_4 : decode cX10_meanWorks 4 = .ok (.iconst 0, 1) := by decide +kernel
theorem dX10_meanWorks_5 : decode cX10_meanWorks 5 = .ok (.istore_n 3, 1) := by decide +kernel
theorem dX10_meanWorks_6 : decode cX10_meanWorks 6 = .ok (.iload_n 3, 1) := by decide +kernel
theorem dX10_meanWorks_7 : decode cX10_meanWorks 7 = .ok (.aload_n 0, 1) := by decide +kernel
theorem dX10_meanWorks_8 : decode cX10_meanWorks 8 = .ok (.getfield 92, 3) := by decide +kernel
theorem dX10_meanWorks_11 : decode cX10_meanWorks 11 = .ok (.if_icmp .ge 52, 3) := by decide +kernel
theorem dX10_meanWorks_14 : decode cX10_meanWorks 14 = .ok (.iload_n 1, 1) := by decide +kernel
theorem dX10_meanWorks_15 : decode cX10_meanWorks 15 = .ok (.aload_n 0, 1) := by decide +kernel
theorem dX10_meanWorks_16 : decode cX10_meanWorks 16 = .ok (.getfield 58, 3) := by decide +kernel
theorem dX10_meanWorks_19 : decode cX10_meanWorks 19 = .ok (.iload_n 3, 1) := by decide +kernel
theorem dX10_meanWorks_20 : decode cX10_meanWorks 20 = .ok (.iaload, 1) := by decide +kernel
theorem dX10_meanWorks_21 : decode cX10_meanWorks 21 = .ok (.bipush 112, 2) := by decide +kernel
theorem dX10_meanWorks_23 : decode cX10_meanWorks 23 = .ok (.if_icmp .ne 12, 3) := by decide +kernel
theorem dX10_meanWorks_26 : decode cX10_meanWorks 26 = .ok (.aload_n 0, 1) := by decide +kernel
theorem dX10_meanWorks_27 : decode cX10_meanWorks 27 = .ok (.getfield 61, 3) := by decide +kernel
theorem dX10_meanWorks_30 : decode cX10_meanWorks 30 = .ok (.iload_n 3, 1) := by decide +kernel
theorem dX10_meanWorks_31 : decode cX10_meanWorks 31 = .ok (.iaload, 1) := by decide +kernel
theorem dX10_meanWorks_32 : decode cX10_meanWorks 32 = .ok (.goto 4, 3) := by decide +kernel
theorem dX10_meanWorks_35 : decode cX10_meanWorks 35 = .ok (.iconst 0, 1) := by decide +kernel
theorem dX10_meanWorks_36 : decode cX10_meanWorks 36 = .ok (.iadd, 1) := by decide +kernel
theorem dX10_meanWorks_37 : decode cX10_meanWorks 37 = .ok (.istore_n 1, 1) := by decide +kernel
theorem dX10_meanWorks_38 : decode cX10_meanWorks 38 = .ok (.iload_n 2, 1) := by decide +kernel
theorem dX10_meanWorks_39 : decode cX10_meanWorks 39 = .ok (.aload_n 0, 1) := by decide +kernel
theorem dX10_meanWorks_40 : decode cX10_meanWorks 40 = .ok (.getfield 58, 3) := by decide +kernel
theorem dX10_meanWorks_43 : decode cX10_meanWorks 43 = .ok (.iload_n 3, 1) := by decide +kernel
theorem dX10_meanWorks_44 : decode cX10_meanWorks 44 = .ok (.iaload, 1) := by decide +kernel
theorem dX10_meanWorks_45 : decode cX10_meanWorks 45 = .ok (.bipush 112, 2) := by decide +kernel
theorem dX10_meanWorks_47 : decode cX10_meanWorks 47 = .ok (.if_icmp .ne 7, 3) := by decide +kernel
theorem dX10_meanWorks_50 : decode cX10_meanWorks 50 = .ok (.iconst 1, 1) := by decide +kernel
theorem dX10_meanWorks_51 : decode cX10_meanWorks 51 = .ok (.goto 4, 3) := by decide +kernel
theorem dX10_meanWorks_54 : decode cX10_meanWorks 54 = .ok (.iconst 0, 1) := by decide +kernel
theorem dX10_meanWorks_55 : decode cX10_meanWorks 55 = .ok (.iadd, 1) := by decide +kernel
theorem dX10_meanWorks_56 : decode cX10_meanWorks 56 = .ok (.istore_n 2, 1) := by decide +kernel
theorem dX10_meanWorks_57 : decode cX10_meanWorks 57 = .ok (.iinc 3 1, 3) := by decide +kernel
theorem dX10_meanWorks_60 : decode cX10_meanWorks 60 = .ok (.goto (-54), 3) := by decide +kernel
theorem dX10_meanWorks_63 : decode cX10_meanWorks 63 = .ok (.aload_n 0, 1) := by decide +kernel
theorem dX10_meanWorks_64 : decode cX10_meanWorks 64 = .ok (.iload_n 2, 1) := by decide +kernel
theorem dX10_meanWorks_65 : decode cX10_meanWorks 65 = .ok (.ifCond .le 7, 3) := by decide +kernel
theorem dX10_meanWorks_68 : decode cX10_meanWorks 68 = .ok (.iconst 1, 1) := by decide +kernel
theorem dX10_meanWorks_69 : decode cX10_meanWorks 69 = .ok (.goto 4, 3) := by decide +kernel
theorem dX10_meanWorks_72 : decode cX10_meanWorks 72 = .ok (.iconst 0, 1) := by decide +kernel
theorem dX10_meanWorks_73 : decode cX10_meanWorks 73 = .ok (.invokevirtual 137, 3) := by decide +kernel
theorem dX10_meanWorks_76 : decode cX10_meanWorks 76 = .ok (.ifCond .le 7, 3) := by decide +kernel
theorem dX10_meanWorks_79 : decode cX10_meanWorks 79 = .ok (.dconst 0, 1) := by decide +kernel
theorem dX10_meanWorks_80 : decode cX10_meanWorks 80 = .ok (.goto 8, 3) := by decide +kernel
theorem dX10_meanWorks_83 : decode cX10_meanWorks 83 = .ok (.iload_n 1, 1) := by decide +kernel
theorem dX10_meanWorks_84 : decode cX10_meanWorks 84 = .ok (.i2d, 1) := by decide +kernel
theorem dX10_meanWorks_85 : decode cX10_meanWorks 85 = .ok (.iload_n 2, 1) := by decide +kernel
theorem dX10_meanWorks_86 : decode cX10_meanWorks 86 = .ok (.i2d, 1) := by decide +kernel
theorem dX10_meanWorks_87 : decode cX10_meanWorks 87 = .ok (.ddiv, 1) := by decide +kernel
theorem dX10_meanWorks_88 : decode cX10_meanWorks 88 = .ok (.dreturn, 1) := by decide +kernel
theorem dX10_share_0 : decode cX10_share 0 = .ok (.aload_n 0, 1) := by decide +kernel
theorem dX10_share_1 : decode cX10_share 1 = .ok (.iload_n 1, 1) := by decide +kernel
theorem dX10_share_2 : decode cX10_share 2 = .ok (.iload_n 2, 1) := by decide +kernel
theorem dX10_share_3 : decode cX10_share 3 = .ok (.invokevirtual 194, 3) := by decide +kernel
theorem dX10_share_6 : decode cX10_share 6 = .ok (.ifCond .eq 7, 3) := by decide +kernel
theorem dX10_share_9 : decode cX10_share 9 = .ok (.fconst 0, 1) := by decide +kernel
theorem dX10_share_10 : decode cX10_share 10 = .ok (.goto 19, 3) := by decide +kernel
theorem dX10_share_13 : decode cX10_share 13 = .ok (.aload_n 0, 1) := by decide +kernel
theorem dX10_share_14 : decode cX10_share 14 = .ok (.iload_n 1, 1) := by decide +kernel
theorem dX10_share_15 : decode cX10_share 15 = .ok (.iload_n 2, 1) := by decide +kernel
theorem dX10_share_16 : decode cX10_share 16 = .ok (.iconst (-1), 1) := by decide +kernel
theorem dX10_share_17 : decode cX10_share 17 = .ok (.invokevirtual 153, 3) := by decide +kernel
theorem dX10_share_20 : decode cX10_share 20 = .ok (.i2f, 1) := by decide +kernel
theorem dX10_share_21 : decode cX10_share 21 = .ok (.aload_n 0, 1) := by decide +kernel
theorem dX10_share_22 : decode cX10_share 22 = .ok (.getfield 16, 3) := by decide +kernel
theorem dX10_share_25 : decode cX10_share 25 = .ok (.iload_n 1, 1) := by decide +kernel
theorem dX10_share_26 : decode cX10_share 26 = .ok (.iaload, 1) := by decide +kernel
theorem dX10_share_27 : decode cX10_share 27 = .ok (.i2f, 1) := by decide +kernel
theorem dX10_share_28 : decode cX10_share 28 = .ok (.fdiv, 1) := by decide +kernel
theorem dX10_share_29 : decode cX10_share 29 = .ok (.freturn, 1) := by decide +kernel
theorem dX10_isRight_0 : decode cX10_isRight 0 = .ok (.aload_n 0, 1) := by decide +kernel
theorem dX10_isRight_1 : decode cX10_isRight 1 = .ok (.iload_n 1, 1) := by decide +kernel
theorem dX10_isRight_2 : decode cX10_isRight 2 = .ok (.invokevirtual 114, 3) := by decide +kernel
theorem dX10_isRight_5 : decode cX10_isRight 5 = .ok (.ifCond .eq 5, 3) := by decide +kernel
theorem dX10_isRight_8 : decode cX10_isRight 8 = .ok (.iconst 0, 1) := by decide +kernel
theorem dX10_isRight_9 : decode cX10_isRight 9 = .ok (.ireturn, 1) := by decide +kernel
theorem dX10_isRight_10 : decode cX10_isRight 10 = .ok (.iconst 0, 1) := by decide +kernel
theorem dX10_isRight_11 : decode cX10_isRight 11 = .ok (.istore_n 2, 1) := by decide +kernel
theorem dX10_isRight_12 : decode cX10_isRight 12 = .ok (.iload_n 2, 1) := by decide +kernel
theorem dX10_isRight_13 : decode cX10_isRight 13 = .ok (.aload_n 0, 1) := by decide +kernel
theorem dX10_isRight_14 : decode cX10_isRight 14 = .ok (.getfield 61, 3) := by decide +kernel
theorem dX10_isRight_17 : decode cX10_isRight 17 = .ok (.iload_n 1, 1) := by decide +kernel
theorem dX10_isRight_18 : decode cX10_isRight 18 = .ok (.iaload, 1) := by decide +kernel
theorem dX10_isRight_19 : decode cX10_isRight 19 = .ok (.if_icmp .ge 111, 3) := by decide +kernel
theorem dX10_isRight_22 : decode cX10_isRight 22 = .ok (.aload_n 0, 1) := by decide +kernel
theorem dX10_isRight_23 : decode cX10_isRight 23 = .ok (.getfield 64, 3) := by decide +kernel
theorem dX10_isRight_26 : decode cX10_isRight 26 = .ok (.iconst 5, 1) := by decide +kernel
theorem dX10_isRight_27 : decode cX10_isRight 27 = .ok (.iload_n 1, 1) := by decide +kernel
theorem dX10_isRight_28 : decode cX10_isRight 28 = .ok (.imul, 1) := by decide +kernel
theorem dX10_isRight_29 : decode cX10_isRight 29 = .ok (.iload_n 2, 1) := by decide +kernel
theorem dX10_isRight_30 : decode cX10_isRight 30 = .ok (.iadd, 1) := by decide +kernel
theorem dX10_isRight_31 : decode cX10_isRight 31 = .ok (.iaload, 1) := by decide +kernel
theorem dX10_isRight_32 : decode cX10_isRight 32 = .ok (.istore_n 3, 1) := by decide +kernel
theorem dX10_isRight_33 : decode cX10_isRight 33 = .ok (.aload_n 0, 1) := by decide +kernel
theorem dX10_isRight_34 : decode cX10_isRight 34 = .ok (.getfield 67, 3) := by decide +kernel
theorem dX10_isRight_37 : decode cX10_isRight 37 = .ok (.iconst 5, 1) := by decide +kernel
theorem dX10_isRight_38 : decode cX10_isRight 38 = .ok (.iload_n 1, 1) := by decide +kernel
theorem dX10_isRight_39 : decode cX10_isRight 39 = .ok (.imul, 1) := by decide +kernel
theorem dX10_isRight_40 : decode cX10_isRight 40 = .ok (.iload_n 2, 1) := by decide +kernel
theorem dX10_isRight_41 : decode cX10_isRight 41 = .ok (.iadd, 1) := by decide +kernel
theorem dX10_isRight_42 : decode cX10_isRight 42 = .ok (.iaload, 1) := by decide +kernel
theorem dX10_isRight_43 : decode cX10_isRight 43 = .ok (.istore 4, 2) := by decide +kernel
theorem dX10_isRight_45 : decode cX10_isRight 45 = .ok (.aload_n 0, 1) := by decide +kernel
theorem dX10_isRight_46 : decode cX10_isRight 46 = .ok (.iload_n 1, 1) := by decide +kernel
theorem dX10_isRight_47 : decode cX10_isRight 47 = .ok (.iload_n 3, 1) := by decide +kernel
theorem dX10_isRight_48 : decode cX10_isRight 48 = .ok (.invokevirtual 150, 3) := by decide +kernel
theorem dX10_isRight_51 : decode cX10_isRight 51 = .ok (.ifCond .ne 14, 3) := by decide +kernel
theorem dX10_isRight_54 : decode cX10_isRight 54 = .ok (.aload_n 0, 1) := by decide +kernel
theorem dX10_isRight_55 : decode cX10_isRight 55 = .ok (.iload_n 1, 1) := by decide +kernel
theorem dX10_isRight_56 : decode cX10_isRight 56 = .ok (.iload_n 3, 1) := by decide +kernel
theorem dX10_isRight_57 : decode cX10_isRight 57 = .ok (.iload 4, 2) := by decide +kernel
theorem dX10_isRight_59 : decode cX10_isRight 59 = .ok (.invokevirtual 157, 3) := by decide +kernel
theorem dX10_isRight_62 : decode cX10_isRight 62 = .ok (.ifCond .eq 5, 3) := by decide +kernel
theorem dX10_isRight_65 : decode cX10_isRight 65 = .ok (.iconst 0, 1) := by decide +kernel
theorem dX10_isRight_66 : decode cX10_isRight 66 = .ok (.ireturn, 1) := by decide +kernel
theorem dX10_isRight_67 : decode cX10_isRight 67 = .ok (.iconst 0, 1) := by decide +kernel
theorem dX10_isRight_68 : decode cX10_isRight 68 = .ok (.istore 5, 2) := by decide +kernel
theorem dX10_isRight_70 : decode cX10_isRight 70 = .ok (.iload 5, 2) := by decide +kernel
theorem dX10_isRight_72 : decode cX10_isRight 72 = .ok (.iload_n 2, 1) := by decide +kernel
theorem dX10_isRight_73 : decode cX10_isRight 73 = .ok (.if_icmp .ge 51, 3) := by decide +kernel
theorem dX10_isRight_76 : decode cX10_isRight 76 = .ok (.aload_n 0, 1) := by decide +kernel
theorem dX10_isRight_77 : decode cX10_isRight 77 = .ok (.getfield 46, 3) := by decide +kernel
theorem dX10_isRight_80 : decode cX10_isRight 80 = .ok (.bipush 12, 2) := by decide +kernel
theorem dX10_isRight_82 : decode cX10_isRight 82 = .ok (.iload_n 3, 1) := by decide +kernel
theorem dX10_isRight_83 : decode cX10_isRight 83 = .ok (.imul, 1) := by decide +kernel
theorem dX10_isRight_84 : decode cX10_isRight 84 = .ok (.aload_n 0, 1) := by decide +kernel
theorem dX10_isRight_85 : decode cX10_isRight 85 = .ok (.getfield 64, 3) := by decide +kernel
theorem dX10_isRight_88 : decode cX10_isRight 88 = .ok (.iconst 5, 1) := by decide +kernel
theorem dX10_isRight_89 : decode cX10_isRight 89 = .ok (.iload_n 1, 1) := by decide +kernel
theorem dX10_isRight_90 : decode cX10_isRight 90 = .ok (.imul, 1) := by decide +kernel
theorem dX10_isRight_91 : decode cX10_isRight 91 = .ok (.iload 5, 2) := by decide +kernel
theorem dX10_isRight_93 : decode cX10_isRight 93 = .ok (.iadd, 1) := by decide +kernel
theorem dX10_isRight_94 : decode cX10_isRight 94 = .ok (.iaload, 1) := by decide +kernel
theorem dX10_isRight_95 : decode cX10_isRight 95 = .ok (.iadd, 1) := by decide +kernel
theorem dX10_isRight_96 : decode cX10_isRight 96 = .ok (.iaload, 1) := by decide +kernel
theorem dX10_isRight_97 : decode cX10_isRight 97 = .ok (.iload 4, 2) := by decide +kernel
theorem dX10_isRight_99 : decode cX10_isRight 99 = .ok (.aload_n 0, 1) := by decide +kernel
theorem dX10_isRight_100 : decode cX10_isRight 100 = .ok (.getfield 67, 3) := by decide +kernel
theorem dX10_isRight_103 : decode cX10_isRight 103 = .ok (.iconst 5, 1) := by decide +kernel
theorem dX10_isRight_104 : decode cX10_isRight 104 = .ok (.iload_n 1, 1) := by decide +kernel
theorem dX10_isRight_105 : decode cX10_isRight 105 = .ok (.imul, 1) := by decide +kernel
theorem dX10_isRight_106 : decode cX10_isRight 106 = .ok (.iload 5, 2) := by decide +kernel
theorem dX10_isRight_108 : decode cX10_isRight 108 = .ok (.iadd, 1) := by decide +kernel
theorem dX10_isRight_109 : decode cX10_isRight 109 = .ok (.iaload, 1) := by decide +kernel
theorem dX10_isRight_110 : decode cX10_isRight 110 = .ok (.invokestatic 120, 3) := by decide +kernel
theorem dX10_isRight_113 : decode cX10_isRight 113 = .ok (.ifCond .eq 5, 3) := by decide +kernel
theorem dX10_isRight_116 : decode cX10_isRight 116 = .ok (.iconst 0, 1) := by decide +kernel
theorem dX10_isRight_117 : decode cX10_isRight 117 = .ok (.ireturn, 1) := by decide +kernel
theorem dX10_isRight_118 : decode cX10_isRight 118 = .ok (.iinc 5 1, 3) := by decide +kernel
theorem dX10_isRight_121 : decode cX10_isRight 121 = .ok (.goto (-51), 3) := by decide +kernel
theorem dX10_isRight_124 : decode cX10_isRight 124 = .ok (.iinc 2 1, 3) := by decide +kernel
theorem dX10_isRight_127 : decode cX10_isRight 127 = .ok (.goto (-115), 3) := by decide +kernel
theorem dX10_isRight_130 : decode cX10_isRight 130 = .ok (.iconst 1, 1) := by decide +kernel
theorem dX10_isRight_131 : decode cX10_isRight 131 = .ok (.ireturn, 1) := by decide +kernel
theorem dX10_isSafe_0 : decode cX10_isSafe 0 = .ok (.aload_n 0, 1) := by decide +kernel
theorem dX10_isSafe_1 : decode cX10_isSafe 1 = .ok (.iconst 0, 1) := by decide +kernel
theorem dX10_isSafe_2 : decode cX10_isSafe 2 = .ok (.putfield 79, 3) := by decide +kernel
theorem dX10_isSafe_5 : decode cX10_isSafe 5 = .ok (.iconst 0, 1) := by decide +kernel
theorem dX10_isSafe_6 : decode cX10_isSafe 6 = .ok (.istore_n 1, 1) := by decide +kernel
theorem dX10_isSafe_7 : decode cX10_isSafe 7 = .ok (.iload_n 1, 1) := by decide +kernel
theorem dX10_isSafe_8 : decode cX10_isSafe 8 = .ok (.aload_n 0, 1) := by decide +kernel
theorem dX10_isSafe_9 : decode cX10_isSafe 9 = .ok (.getfield 92, 3) := by decide +kernel
theorem dX10_isSafe_12 : decode cX10_isSafe 12 = .ok (.if_icmp .ge 49, 3) := by decide +kernel
theorem dX10_isSafe_15 : decode cX10_isSafe 15 = .ok (.aload_n 0, 1) := by decide +kernel
theorem dX10_isSafe_16 : decode cX10_isSafe 16 = .ok (.getfield 58, 3) := by decide +kernel
theorem dX10_isSafe_19 : decode cX10_isSafe 19 = .ok (.iload_n 1, 1) := by decide +kernel
theorem dX10_isSafe_20 : decode cX10_isSafe 20 = .ok (.iaload, 1) := by decide +kernel
theorem dX10_isSafe_21 : decode cX10_isSafe 21 = .ok (.bipush 112, 2) := by decide +kernel
theorem dX10_isSafe_23 : decode cX10_isSafe 23 = .ok (.if_icmp .ne 11, 3) := by decide +kernel
theorem dX10_isSafe_26 : decode cX10_isSafe 26 = .ok (.aload_n 0, 1) := by decide +kernel
theorem dX10_isSafe_27 : decode cX10_isSafe 27 = .ok (.iload_n 1, 1) := by decide +kernel
theorem dX10_isSafe_28 : decode cX10_isSafe 28 = .ok (.invokevirtual 197, 3) := by decide +kernel
theorem dX10_isSafe_31 : decode cX10_isSafe 31 = .ok (.ifCond .eq 22, 3) := by decide +kernel
theorem dX10_isSafe_34 : decode cX10_isSafe 34 = .ok (.aload_n 0, 1) := by decide +kernel
theorem dX10_isSafe_35 : decode cX10_isSafe 35 = .ok (.getfield 58, 3) := by decide +kernel
theorem dX10_isSafe_38 : decode cX10_isSafe 38 = .ok (.iload_n 1, 1) := by decide +kernel
theorem dX10_isSafe_39 : decode cX10_isSafe 39 = .ok (.iaload, 1) := by decide +kernel
theorem dX10_isSafe_40 : decode cX10_isSafe 40 = .ok (.bipush 119, 2) := by decide +kernel
theorem dX10_isSafe_42 : decode cX10_isSafe 42 = .ok (.if_icmp .ne 13, 3) := by decide +kernel
theorem dX10_isSafe_45 : decode cX10_isSafe 45 = .ok (.aload_n 0, 1) := by decide +kernel
theorem dX10_isSafe_46 : decode cX10_isSafe 46 = .ok (.iload_n 1, 1) := by decide +kernel
theorem dX10_isSafe_47 : decode cX10_isSafe 47 = .ok (.invokevirtual 169, 3) := by decide +kernel
theorem dX10_isSafe_50 : decode cX10_isSafe 50 = .ok (.ifCond .eq 5, 3) := by decide +kernel
theorem dX10_isSafe_53 : decode cX10_isSafe 53 = .ok (.iconst 0, 1) := by decide +kernel
theorem dX10_isSafe_54 : decode cX10_isSafe 54 = .ok (.ireturn, 1) := by decide +kernel
theorem dX10_isSafe_55 : decode cX10_isSafe 55 = .ok (.iinc 1 1, 3) := by decide +kernel
theorem dX10_isSafe_58 : decode cX10_isSafe 58 = .ok (.goto (-51), 3) := by decide +kernel
theorem dX10_isSafe_61 : decode cX10_isSafe 61 = .ok (.iconst 0, 1) := by decide +kernel
theorem dX10_isSafe_62 : decode cX10_isSafe 62 = .ok (.istore_n 1, 1) := by decide +kernel
theorem dX10_isSafe_63 : decode cX10_isSafe 63 = .ok (.iload_n 1, 1) := by decide +kernel
theorem dX10_isSafe_64 : decode cX10_isSafe 64 = .ok (.iconst 2, 1) := by decide +kernel
theorem dX10_isSafe_65 : decode cX10_isSafe 65 = .ok (.aload_n 0, 1) := by decide +kernel
theorem dX10_isSafe_66 : decode cX10_isSafe 66 = .ok (.getfield 83, 3) := by decide +kernel
theorem dX10_isSafe_69 : decode cX10_isSafe 69 = .ok (.imul, 1) := by decide +kernel
theorem dX10_isSafe_70 : decode cX10_isSafe 70 = .ok (.if_icmp .ge 41, 3) := by decide +kernel
theorem dX10_isSafe_73 : decode cX10_isSafe 73 = .ok (.iconst 0, 1) := by decide +kernel
theorem dX10_isSafe_74 : decode cX10_isSafe 74 = .ok (.istore_n 2, 1) := by decide +kernel
theorem dX10_isSafe_75 : decode cX10_isSafe 75 = .ok (.iload_n 2, 1) := by decide +kernel
theorem dX10_isSafe_76 : decode cX10_isSafe 76 = .ok (.bipush 100, 2) := by decide +kernel
theorem dX10_isSafe_78 : decode cX10_isSafe 78 = .ok (.if_icmp .ge 27, 3) := by decide +kernel
theorem dX10_isSafe_81 : decode cX10_isSafe 81 = .ok (.aload_n 0, 1) := by decide +kernel
theorem dX10_isSafe_82 : decode cX10_isSafe 82 = .ok (.iload_n 1, 1) := by decide +kernel
theorem dX10_isSafe_83 : decode cX10_isSafe 83 = .ok (.iload_n 2, 1) := by decide +kernel
theorem dX10_isSafe_84 : decode cX10_isSafe 84 = .ok (.iconst (-1), 1) := by decide +kernel
theorem dX10_isSafe_85 : decode cX10_isSafe 85 = .ok (.invokevirtual 153, 3) := by decide +kernel
theorem dX10_isSafe_88 : decode cX10_isSafe 88 = .ok (.aload_n 0, 1) := by decide +kernel
theorem dX10_isSafe_89 : decode cX10_isSafe 89 = .ok (.getfield 16, 3) := by decide +kernel
theorem dX10_isSafe_92 : decode cX10_isSafe 92 = .ok (.iload_n 1, 1) := by decide +kernel
theorem dX10_isSafe_93 : decode cX10_isSafe 93 = .ok (.iaload, 1) := by decide +kernel
theorem dX10_isSafe_94 : decode cX10_isSafe 94 = .ok (.if_icmp .le 5, 3) := by decide +kernel
theorem dX10_isSafe_97 : decode cX10_isSafe 97 = .ok (.iconst 0, 1) := by decide +kernel
theorem dX10_isSafe_98 : decode cX10_isSafe 98 = .ok (.ireturn, 1) := by decide +kernel
theorem dX10_isSafe_99 : decode cX10_isSafe 99 = .ok (.iinc 2 1, 3) := by decide +kernel
theorem dX10_isSafe_102 : decode cX10_isSafe 102 = .ok (.goto (-27), 3) := by decide +kernel
theorem dX10_isSafe_105 : decode cX10_isSafe 105 = .ok (.iinc 1 1, 3) := by decide +kernel
theorem dX10_isSafe_108 : decode cX10_isSafe 108 = .ok (.goto (-45), 3) := by decide +kernel
theorem dX10_isSafe_111 : decode cX10_isSafe 111 = .ok (.iconst 1, 1) := by decide +kernel
theorem dX10_isSafe_112 : decode cX10_isSafe 112 = .ok (.ireturn, 1) := by decide +kernel
theorem dJ9_max_7cf53_0 : decode cJ9_max_7cf53 0 = .ok (.iload_n 0, 1) := by decide +kernel
theorem dJ9_max_7cf53_1 : decode cJ9_max_7cf53 1 = .ok (.iload_n 1, 1) := by decide +kernel
theorem dJ9_max_7cf53_2 : decode cJ9_max_7cf53 2 = .ok (.if_icmp .lt 7, 3) := by decide +kernel
theorem dJ9_max_7cf53_5 : decode cJ9_max_7cf53 5 = .ok (.iload_n 0, 1) := by decide +kernel
theorem dJ9_max_7cf53_6 : decode cJ9_max_7cf53 6 = .ok (.goto 4, 3) := by decide +kernel
theorem dJ9_max_7cf53_9 : decode cJ9_max_7cf53 9 = .ok (.iload_n 1, 1) := by decide +kernel
theorem dJ9_max_7cf53_10 : decode cJ9_max_7cf53 10 = .ok (.ireturn, 1) := by decide +kernel
theorem dJ9_min_7cf53_0 : decode cJ9_min_7cf53 0 = .ok (.iload_n 0, 1) := by decide +kernel
theorem dJ9_min_7cf53_1 : decode cJ9_min_7cf53 1 = .ok (.iload_n 1, 1) := by decide +kernel
theorem dJ9_min_7cf53_2 : decode cJ9_min_7cf53 2 = .ok (.if_icmp .gt 7, 3) := by decide +kernel
theorem dJ9_min_7cf53_5 : decode cJ9_min_7cf53 5 = .ok (.iload_n 0, 1) := by decide +kernel
theorem dJ9_min_7cf53_6 : decode cJ9_min_7cf53 6 = .ok (.goto 4, 3) := by decide +kernel
theorem dJ9_min_7cf53_9 : decode cJ9_min_7cf53 9 = .ok (.iload_n 1, 1) := by decide +kernel
theorem dJ9_min_7cf53_10 : decode cJ9_min_7cf53 10 = .ok (.ireturn, 1) := by decide +kernel
theorem dJxa1e45_init_da8c8_0 : decode cJxa1e45_init_da8c8 0 = .ok (.aload_n 0, 1) := by decide +kernel
theorem dJxa1e45_init_da8c8_1 : decode cJxa1e45_init_da8c8 1 = .ok (.invokespecial 1, 3) := by decide +kernel
theorem dJxa1e45_init_da8c8_4 : decode cJxa1e45_init_da8c8 4 = .ok (.return_, 1) := by decide +kernel
theorem dJxc12de_init_da8c8_0 : decode cJxc12de_init_da8c8 0 = .ok (.aload_n 0, 1) := by decide +kernel
theorem dJxc12de_init_da8c8_1 : decode cJxc12de_init_da8c8 1 = .ok (.invokespecial 1, 3) := by decide +kernel
theorem dJxc12de_init_da8c8_4 : decode cJxc12de_init_da8c8 4 = .ok (.aload_n 0, 1) := by decide +kernel
theorem dJxc12de_init_da8c8_5 : decode cJxc12de_init_da8c8 5 = .ok (.iconst 0, 1) := by decide +kernel
theorem dJxc12de_init_da8c8_6 : decode cJxc12de_init_da8c8 6 = .ok (.putfield 7, 3) := by decide +kernel
theorem dJxc12de_init_da8c8_9 : decode cJxc12de_init_da8c8 9 = .ok (.return_, 1) := by decide +kernel
theorem dJx4a65c_init_da8c8_0 : decode cJx4a65c_init_da8c8 0 = .ok (.aload_n 0, 1) := by decide +kernel
theorem dJx4a65c_init_da8c8_1 : decode cJx4a65c_init_da8c8 1 = .ok (.invokespecial 1, 3) := by decide +kernel
theorem dJx4a65c_init_da8c8_4 : decode cJx4a65c_init_da8c8 4 = .ok (.aload_n 0, 1) := by decide +kernel
theorem dJx4a65c_init_da8c8_5 : decode cJx4a65c_init_da8c8 5 = .ok (.getstatic 39, 3) := by decide +kernel
theorem dJx4a65c_init_da8c8_8 : decode cJx4a65c_init_da8c8 8 = .ok (.putfield 9, 3) := by decide +kernel
theorem dJx4a65c_init_da8c8_11 : decode cJx4a65c_init_da8c8 11 = .ok (.return_, 1) := by decide +kernel
theorem dJx4a65c_grow_92f84_0 : decode cJx4a65c_grow_92f84 0 = .ok (.aload_n 0, 1) := by decide +kernel
theorem dJx4a65c_grow_92f84_1 : decode cJx4a65c_grow_92f84 1 = .ok (.getfield 9, 3) := by decide +kernel
theorem dJx4a65c_grow_92f84_4 : decode cJx4a65c_grow_92f84 4 = .ok (.arraylength, 1) := by decide +kernel
theorem dJx4a65c_grow_92f84_5 : decode cJx4a65c_grow_92f84 5 = .ok (.istore_n 2, 1) := by decide +kernel
theorem dJx4a65c_grow_92f84_6 : decode cJx4a65c_grow_92f84 6 = .ok (.iload_n 2, 1) := by decide +kernel
theorem dJx4a65c_grow_92f84_7 : decode cJx4a65c_grow_92f84 7 = .ok (.ifCond .gt 13, 3) := by decide +kernel
theorem dJx4a65c_grow_92f84_10 : decode cJx4a65c_grow_92f84 10 = .ok (.aload_n 0, 1) := by decide +kernel
theorem dJx4a65c_grow_92f84_11 : decode cJx4a65c_grow_92f84 11 = .ok (.getfield 9, 3) := by decide +kernel
theorem dJx4a65c_grow_92f84_14 : decode cJx4a65c_grow_92f84 14 = .ok (.getstatic 39, 3) := by decide +kernel
theorem dJx4a65c_grow_92f84_17 : decode cJx4a65c_grow_92f84 17 = .ok (.if_acmp .eq 28, 3) := by decide +kernel
theorem dJx4a65c_grow_92f84_20 : decode cJx4a65c_grow_92f84 20 = .ok (.iload_n 2, 1) := by decide +kernel
theorem dJx4a65c_grow_92f84_21 : decode cJx4a65c_grow_92f84 21 = .ok (.iload_n 1, 1) := by decide +kernel
theorem dJx4a65c_grow_92f84_22 : decode cJx4a65c_grow_92f84 22 = .ok (.iload_n 2, 1) := by decide +kernel
theorem dJx4a65c_grow_92f84_23 : decode cJx4a65c_grow_92f84 23 = .ok (.isub, 1) := by decide +kernel
theorem dJx4a65c_grow_92f84_24 : decode cJx4a65c_grow_92f84 24 = .ok (.iload_n 2, 1) := by decide +kernel
theorem dJx4a65c_grow_92f84_25 : decode cJx4a65c_grow_92f84 25 = .ok (.iconst 1, 1) := by decide +kernel
theorem dJx4a65c_grow_92f84_26 : decode cJx4a65c_grow_92f84 26 = .ok (.ishr, 1) := by decide +kernel
theorem dJx4a65c_grow_92f84_27 : decode cJx4a65c_grow_92f84 27 = .ok (.invokestatic 73, 3) := by decide +kernel
theorem dJx4a65c_grow_92f84_30 : decode cJx4a65c_grow_92f84 30 = .ok (.istore_n 3, 1) := by decide +kernel
theorem dJx4a65c_grow_92f84_31 : decode cJx4a65c_grow_92f84 31 = .ok (.aload_n 0, 1) := by decide +kernel
theorem dJx4a65c_grow_92f84_32 : decode cJx4a65c_grow_92f84 32 = .ok (.aload_n 0, 1) := by decide +kernel
theorem dJx4a65c_grow_92f84_33 : decode cJx4a65c_grow_92f84 33 = .ok (.getfield 9, 3) := by decide +kernel
theorem dJx4a65c_grow_92f84_36 : decode cJx4a65c_grow_92f84 36 = .ok (.iload_n 3, 1) := by decide +kernel
theorem dJx4a65c_grow_92f84_37 : decode cJx4a65c_grow_92f84 37 = .ok (.invokestatic 66, 3) := by decide +kernel
theorem dJx4a65c_grow_92f84_40 : decode cJx4a65c_grow_92f84 40 = .ok (.dup_x1, 1) := by decide +kernel
theorem dJx4a65c_grow_92f84_41 : decode cJx4a65c_grow_92f84 41 = .ok (.putfield 9, 3) := by decide +kernel
theorem dJx4a65c_grow_92f84_44 : decode cJx4a65c_grow_92f84 44 = .ok (.areturn, 1) := by decide +kernel
theorem dJx4a65c_grow_92f84_45 : decode cJx4a65c_grow_92f84 45 = .ok (.aload_n 0, 1) := by decide +kernel
theorem dJx4a65c_grow_92f84_46 : decode cJx4a65c_grow_92f84 46 = .ok (.bipush 10, 2) := by decide +kernel
theorem dJx4a65c_grow_92f84_48 : decode cJx4a65c_grow_92f84 48 = .ok (.iload_n 1, 1) := by decide +kernel
theorem dJx4a65c_grow_92f84_49 : decode cJx4a65c_grow_92f84 49 = .ok (.invokestatic 79, 3) := by decide +kernel
theorem dJx4a65c_grow_92f84_52 : decode cJx4a65c_grow_92f84 52 = .ok (.anewarray 7, 3) := by decide +kernel
theorem dJx4a65c_grow_92f84_55 : decode cJx4a65c_grow_92f84 55 = .ok (.dup_x1, 1) := by decide +kernel
theorem dJx4a65c_grow_92f84_56 : decode cJx4a65c_grow_92f84 56 = .ok (.putfield 9, 3) := by decide +kernel
theorem dJx4a65c_grow_92f84_59 : decode cJx4a65c_grow_92f84 59 = .ok (.areturn, 1) := by decide +kernel
theorem dJx4a65c_grow_d5877_0 : decode cJx4a65c_grow_d5877 0 = .ok (.aload_n 0, 1) := by decide +kernel
theorem dJx4a65c_grow_d5877_1 : decode cJx4a65c_grow_d5877 1 = .ok (.aload_n 0, 1) := by decide +kernel
theorem dJx4a65c_grow_d5877_2 : decode cJx4a65c_grow_d5877 2 = .ok (.getfield 48, 3) := by decide +kernel
theorem dJx4a65c_grow_d5877_5 : decode cJx4a65c_grow_d5877 5 = .ok (.iconst 1, 1) := by decide +kernel
theorem dJx4a65c_grow_d5877_6 : decode cJx4a65c_grow_d5877 6 = .ok (.iadd, 1) := by decide +kernel
theorem dJx4a65c_grow_d5877_7 : decode cJx4a65c_grow_d5877 7 = .ok (.invokevirtual 69, 3) := by decide +kernel
theorem dJx4a65c_grow_d5877_10 : decode cJx4a65c_grow_d5877 10 = .ok (.areturn, 1) := by decide +kernel
theorem dJx4a65c_size_8abf5_0 : decode cJx4a65c_size_8abf5 0 = .ok (.aload_n 0, 1) := by decide +kernel
theorem dJx4a65c_size_8abf5_1 : decode cJx4a65c_size_8abf5 1 = .ok (.getfield 48, 3) := by decide +kernel
theorem dJx4a65c_size_8abf5_4 : decode cJx4a65c_size_8abf5 4 = .ok (.ireturn, 1) := by decide +kernel
theorem dJx4a65c_isEmpty_aae02_0 : decode cJx4a65c_isEmpty_aae02 0 = .ok (.aload_n 0, 1) := by decide +kernel
theorem dJx4a65c_isEmpty_aae02_1 : decode cJx4a65c_isEmpty_aae02 1 = .ok (.getfield 48, 3) := by decide +kernel
theorem dJx4a65c_isEmpty_aae02_4 : decode cJx4a65c_isEmpty_aae02 4 = .ok (.ifCond .ne 7, 3) := by decide +kernel
theorem dJx4a65c_isEmpty_aae02_7 : decode cJx4a65c_isEmpty_aae02 7 = .ok (.iconst 1, 1) := by decide +kernel
theorem dJx4a65c_isEmpty_aae02_8 : decode cJx4a65c_isEmpty_aae02 8 = .ok (.goto 4, 3) := by decide +kernel
theorem dJx4a65c_isEmpty_aae02_11 : decode cJx4a65c_isEmpty_aae02 11 = .ok (.iconst 0, 1) := by decide +kernel
theorem dJx4a65c_isEmpty_aae02_12 : decode cJx4a65c_isEmpty_aae02 12 = .ok (.ireturn, 1) := by decide +kernel
theorem dJx4a65c_elementData_915e3_0 : decode cJx4a65c_elementData_915e3 0 = .ok (.aload_n 0, 1) := by decide +kernel
theorem dJx4a65c_elementData_915e3_1 : decode cJx4a65c_elementData_915e3 1 = .ok (.getfield 9, 3) := by decide +kernel
theorem dJx4a65c_elementData_915e3_4 : decode cJx4a65c_elementData_915e3 4 = .ok (.iload_n 1, 1) := by decide +kernel
theorem dJx4a65c_elementData_915e3_5 : decode cJx4a65c_elementData_915e3 5 = .ok (.aaload, 1) := by decide +kernel
theorem dJx4a65c_elementData_915e3_6 : decode cJx4a65c_elementData_915e3 6 = .ok (.areturn, 1) := by decide +kernel
theorem dJx4a65c_get_915e3_0 : decode cJx4a65c_get_915e3 0 = .ok (.iload_n 1, 1) := by decide +kernel
theorem dJx4a65c_get_915e3_1 : decode cJx4a65c_get_915e3 1 = .ok (.aload_n 0, 1) := by decide +kernel
theorem dJx4a65c_get_915e3_2 : decode cJx4a65c_get_915e3 2 = .ok (.getfield 48, 3) := by decide +kernel
theorem dJx4a65c_get_915e3_5 : decode cJx4a65c_get_915e3 5 = .ok (.invokestatic 118, 3) := by decide +kernel
theorem dJx4a65c_get_915e3_8 : decode cJx4a65c_get_915e3 8 = .ok (.pop, 1) := by decide +kernel
theorem dJx4a65c_get_915e3_9 : decode cJx4a65c_get_915e3 9 = .ok (.aload_n 0, 1) := by decide +kernel
theorem dJx4a65c_get_915e3_10 : decode cJx4a65c_get_915e3 10 = .ok (.iload_n 1, 1) := by decide +kernel
theorem dJx4a65c_get_915e3_11 : decode cJx4a65c_get_915e3 11 = .ok (.invokevirtual 123, 3) := by decide +kernel
theorem dJx4a65c_get_915e3_14 : decode cJx4a65c_get_915e3 14 = .ok (.areturn, 1) := by decide +kernel
theorem dJx4a65c_add_72be8_0 : decode cJx4a65c_add_72be8 0 = .ok (.iload_n 3, 1) := by decide +kernel
theorem dJx4a65c_add_72be8_1 : decode cJx4a65c_add_72be8 1 = .ok (.aload_n 2, 1) := by decide +kernel
theorem dJx4a65c_add_72be8_2 : decode cJx4a65c_add_72be8 2 = .ok (.arraylength, 1) := by decide +kernel
theorem dJx4a65c_add_72be8_3 : decode cJx4a65c_add_72be8 3 = .ok (.if_icmp .ne 8, 3) := by decide +kernel
theorem dJx4a65c_add_72be8_6 : decode cJx4a65c_add_72be8 6 = .ok (.aload_n 0, 1) := by decide +kernel
theorem dJx4a65c_add_72be8_7 : decode cJx4a65c_add_72be8 7 = .ok (.invokevirtual 129, 3) := by decide +kernel
theorem dJx4a65c_add_72be8_10 : decode cJx4a65c_add_72be8 10 = .ok (.astore_n 2, 1) := by decide +kernel
theorem dJx4a65c_add_72be8_11 : decode cJx4a65c_add_72be8 11 = .ok (.aload_n 2, 1) := by decide +kernel
theorem dJx4a65c_add_72be8_12 : decode cJx4a65c_add_72be8 12 = .ok (.iload_n 3, 1) := by decide +kernel
theorem dJx4a65c_add_72be8_13 : decode cJx4a65c_add_72be8 13 = .ok (.aload_n 1, 1) := by decide +kernel
theorem dJx4a65c_add_72be8_14 : decode cJx4a65c_add_72be8 14 = .ok (.aastore, 1) := by decide +kernel
theorem dJx4a65c_add_72be8_15 : decode cJx4a65c_add_72be8 15 = .ok (.aload_n 0, 1) := by decide +kernel
theorem dJx4a65c_add_72be8_16 : decode cJx4a65c_add_72be8 16 = .ok (.iload_n 3, 1) := by decide +kernel
theorem dJx4a65c_add_72be8_17 : decode cJx4a65c_add_72be8 17 = .ok (.iconst 1, 1) := by decide +kernel
theorem dJx4a65c_add_72be8_18 : decode cJx4a65c_add_72be8 18 = .ok (.iadd, 1) := by decide +kernel
theorem dJx4a65c_add_72be8_19 : decode cJx4a65c_add_72be8 19 = .ok (.putfield 48, 3) := by decide +kernel
theorem dJx4a65c_add_72be8_22 : decode cJx4a65c_add_72be8 22 = .ok (.return_, 1) := by decide +kernel
theorem dJx4a65c_add_9ea2d_0 : decode cJx4a65c_add_9ea2d 0 = .ok (.aload_n 0, 1) := by decide +kernel
theorem dJx4a65c_add_9ea2d_1 : decode cJx4a65c_add_9ea2d 1 = .ok (.dup, 1) := by decide +kernel
theorem dJx4a65c_add_9ea2d_2 : decode cJx4a65c_add_9ea2d 2 = .ok (.getfield 63, 3) := by decide +kernel
theorem dJx4a65c_add_9ea2d_5 : decode cJx4a65c_add_9ea2d 5 = .ok (.iconst 1, 1) := by decide +kernel
theorem dJx4a65c_add_9ea2d_6 : decode cJx4a65c_add_9ea2d 6 = .ok (.iadd, 1) := by decide +kernel
theorem dJx4a65c_add_9ea2d_7 : decode cJx4a65c_add_9ea2d 7 = .ok (.putfield 63, 3) := by decide +kernel
theorem dJx4a65c_add_9ea2d_10 : decode cJx4a65c_add_9ea2d 10 = .ok (.aload_n 0, 1) := by decide +kernel
theorem dJx4a65c_add_9ea2d_11 : decode cJx4a65c_add_9ea2d 11 = .ok (.aload_n 1, 1) := by decide +kernel
theorem dJx4a65c_add_9ea2d_12 : decode cJx4a65c_add_9ea2d 12 = .ok (.aload_n 0, 1) := by decide +kernel
theorem dJx4a65c_add_9ea2d_13 : decode cJx4a65c_add_9ea2d 13 = .ok (.getfield 9, 3) := by decide +kernel
theorem dJx4a65c_add_9ea2d_16 : decode cJx4a65c_add_9ea2d 16 = .ok (.aload_n 0, 1) := by decide +kernel
theorem dJx4a65c_add_9ea2d_17 : decode cJx4a65c_add_9ea2d 17 = .ok (.getfield 48, 3) := by decide +kernel
theorem dJx4a65c_add_9ea2d_20 : decode cJx4a65c_add_9ea2d 20 = .ok (.invokevirtual 131, 3) := by decide +kernel
theorem dJx4a65c_add_9ea2d_23 : decode cJx4a65c_add_9ea2d 23 = .ok (.iconst 1, 1) := by decide +kernel
theorem dJx4a65c_add_9ea2d_24 : decode cJx4a65c_add_9ea2d 24 = .ok (.ireturn, 1) := by decide +kernel
theorem dJ7_copyOf_1904c_0 : decode cJ7_copyOf_1904c 0 = .ok (.aload_n 0, 1) := by decide +kernel
theorem dJ7_copyOf_1904c_1 : decode cJ7_copyOf_1904c 1 = .ok (.iload_n 1, 1) := by decide +kernel
theorem dJ7_copyOf_1904c_2 : decode cJ7_copyOf_1904c 2 = .ok (.aload_n 0, 1) := by decide +kernel
theorem dJ7_copyOf_1904c_3 : decode cJ7_copyOf_1904c 3 = .ok (.invokevirtual 86, 3) := by decide +kernel
theorem dJ7_copyOf_1904c_6 : decode cJ7_copyOf_1904c 6 = .ok (.invokestatic 300, 3) := by decide +kernel
theorem dJ7_copyOf_1904c_9 : decode cJ7_copyOf_1904c 9 = .ok (.areturn, 1) := by decide +kernel
theorem dJ7_copyOf_6403c_0 : decode cJ7_copyOf_6403c 0 = .ok (.aload_n 2, 1) := by decide +kernel
theorem dJ7_copyOf_6403c_1 : decode cJ7_copyOf_6403c 1 = .ok (.ldc 110, 2) := by decide +kernel
theorem dJ7_copyOf_6403c_3 : decode cJ7_copyOf_6403c 3 = .ok (.if_acmp .ne 10, 3) := by decide +kernel
theorem dJ7_copyOf_6403c_6 : decode cJ7_copyOf_6403c 6 = .ok (.iload_n 1, 1) := by decide +kernel
theorem dJ7_copyOf_6403c_7 : decode cJ7_copyOf_6403c 7 = .ok (.anewarray 2, 3) := by decide +kernel
theorem dJ7_copyOf_6403c_10 : decode cJ7_copyOf_6403c 10 = .ok (.goto 14, 3) := by decide +kernel
theorem dJ7_copyOf_6403c_13 : decode cJ7_copyOf_6403c 13 = .ok (.aload_n 2, 1) := by decide +kernel
theorem dJ7_copyOf_6403c_14 : decode cJ7_copyOf_6403c 14 = .ok (.invokevirtual 90, 3) := by decide +kernel
theorem dJ7_copyOf_6403c_17 : decode cJ7_copyOf_6403c 17 = .ok (.iload_n 1, 1) := by decide +kernel
theorem dJ7_copyOf_6403c_18 : decode cJ7_copyOf_6403c 18 = .ok (.invokestatic 95, 3) := by decide +kernel
theorem dJ7_copyOf_6403c_21 : decode cJ7_copyOf_6403c 21 = .ok (.checkcast 110, 3) := by decide +kernel
theorem dJ7_copyOf_6403c_24 : decode cJ7_copyOf_6403c 24 = .ok (.astore_n 3, 1) := by decide +kernel
theorem dJ7_copyOf_6403c_25 : decode cJ7_copyOf_6403c 25 = .ok (.aload_n 0, 1) := by decide +kernel
theorem dJ7_copyOf_6403c_26 : decode cJ7_copyOf_6403c 26 = .ok (.iconst 0, 1) := by decide +kernel
theorem dJ7_copyOf_6403c_27 : decode cJ7_copyOf_6403c 27 = .ok (.aload_n 3, 1) := by decide +kernel
theorem dJ7_copyOf_6403c_28 : decode cJ7_copyOf_6403c 28 = .ok (.iconst 0, 1) := by decide +kernel
theorem dJ7_copyOf_6403c_29 : decode cJ7_copyOf_6403c 29 = .ok (.aload_n 0, 1) := by decide +kernel
theorem dJ7_copyOf_6403c_30 : decode cJ7_copyOf_6403c 30 = .ok (.arraylength, 1) := by decide +kernel
theorem dJ7_copyOf_6403c_31 : decode cJ7_copyOf_6403c 31 = .ok (.iload_n 1, 1) := by decide +kernel
theorem dJ7_copyOf_6403c_32 : decode cJ7_copyOf_6403c 32 = .ok (.invokestatic 304, 3) := by decide +kernel
theorem dJ7_copyOf_6403c_35 : decode cJ7_copyOf_6403c 35 = .ok (.invokestatic 150, 3) := by decide +kernel
theorem dJ7_copyOf_6403c_38 : decode cJ7_copyOf_6403c 38 = .ok (.aload_n 3, 1) := by decide +kernel
theorem dJ7_copyOf_6403c_39 : decode cJ7_copyOf_6403c 39 = .ok (.areturn, 1) := by decide +kernel
theorem dJ15_checkIndex_7cf53_0 : decode cJ15_checkIndex_7cf53 0 = .ok (.iload_n 0, 1) := by decide +kernel
theorem dJ15_checkIndex_7cf53_1 : decode cJ15_checkIndex_7cf53 1 = .ok (.iload_n 1, 1) := by decide +kernel
theorem dJ15_checkIndex_7cf53_2 : decode cJ15_checkIndex_7cf53 2 = .ok (.aconst_null, 1) := by decide +kernel
theorem dJ15_checkIndex_7cf53_3 : decode cJ15_checkIndex_7cf53 3 = .ok (.invokestatic 105, 3) := by decide +kernel
theorem dJ15_checkIndex_7cf53_6 : decode cJ15_checkIndex_7cf53 6 = .ok (.ireturn, 1) := by decide +kernel
theorem dJ8_newLength_cabcc_0 : decode cJ8_newLength_cabcc 0 = .ok (.iload_n 0, 1) := by decide +kernel
theorem dJ8_newLength_cabcc_1 : decode cJ8_newLength_cabcc 1 = .ok (.iload_n 1, 1) := by decide +kernel
theorem dJ8_newLength_cabcc_2 : decode cJ8_newLength_cabcc 2 = .ok (.iload_n 2, 1) := by decide +kernel
theorem dJ8_newLength_cabcc_3 : decode cJ8_newLength_cabcc 3 = .ok (.invokestatic 194, 3) := by decide +kernel
theorem dJ8_newLength_cabcc_6 : decode cJ8_newLength_cabcc 6 = .ok (.iadd, 1) := by decide +kernel
theorem dJ8_newLength_cabcc_7 : decode cJ8_newLength_cabcc 7 = .ok (.istore_n 3, 1) := by decide +kernel
theorem dJ8_newLength_cabcc_8 : decode cJ8_newLength_cabcc 8 = .ok (.iconst 0, 1) := by decide +kernel
theorem dJ8_newLength_cabcc_9 : decode cJ8_newLength_cabcc 9 = .ok (.iload_n 3, 1) := by decide +kernel
theorem dJ8_newLength_cabcc_10 : decode cJ8_newLength_cabcc 10 = .ok (.if_icmp .ge 11, 3) := by decide +kernel
theorem dJ8_newLength_cabcc_13 : decode cJ8_newLength_cabcc 13 = .ok (.iload_n 3, 1) := by decide +kernel
theorem dJ8_newLength_cabcc_14 : decode cJ8_newLength_cabcc 14 = .ok (.ldc 200, 2) := by decide +kernel
theorem dJ8_newLength_cabcc_16 : decode cJ8_newLength_cabcc 16 = .ok (.if_icmp .gt 5, 3) := by decide +kernel
theorem dJ8_newLength_cabcc_19 : decode cJ8_newLength_cabcc 19 = .ok (.iload_n 3, 1) := by decide +kernel
theorem dJ8_newLength_cabcc_20 : decode cJ8_newLength_cabcc 20 = .ok (.ireturn, 1) := by decide +kernel
theorem dJ8_newLength_cabcc_21 : decode cJ8_newLength_cabcc 21 = .ok (.iload_n 0, 1) := by decide +kernel
theorem dJ8_newLength_cabcc_22 : decode cJ8_newLength_cabcc 22 = .ok (.iload_n 1, 1) := by decide +kernel
theorem dJ8_newLength_cabcc_23 : decode cJ8_newLength_cabcc 23 = .ok (.invokestatic 201, 3) := by decide +kernel
theorem dJ8_newLength_cabcc_26 : decode cJ8_newLength_cabcc 26 = .ok (.ireturn, 1) := by decide +kernel
theorem dJ8_hugeLength_7cf53_0 : decode cJ8_hugeLength_7cf53 0 = .ok (.iload_n 0, 1) := by decide +kernel
theorem dJ8_hugeLength_7cf53_1 : decode cJ8_hugeLength_7cf53 1 = .ok (.iload_n 1, 1) := by decide +kernel
theorem dJ8_hugeLength_7cf53_2 : decode cJ8_hugeLength_7cf53 2 = .ok (.iadd, 1) := by decide +kernel
theorem dJ8_hugeLength_7cf53_3 : decode cJ8_hugeLength_7cf53 3 = .ok (.istore_n 2, 1) := by decide +kernel
theorem dJ8_hugeLength_7cf53_4 : decode cJ8_hugeLength_7cf53 4 = .ok (.iload_n 2, 1) := by decide +kernel
theorem dJ8_hugeLength_7cf53_5 : decode cJ8_hugeLength_7cf53 5 = .ok (.ifCond .ge 44, 3) := by decide +kernel
theorem dJ8_hugeLength_7cf53_8 : decode cJ8_hugeLength_7cf53 8 = .ok (.new 204, 3) := by decide +kernel
theorem dJ8_hugeLength_7cf53_11 : decode cJ8_hugeLength_7cf53 11 = .ok (.dup, 1) := by decide +kernel
theorem dJ8_hugeLength_7cf53_12 : decode cJ8_hugeLength_7cf53 12 = .ok (.new 89, 3) := by decide +kernel
theorem dJ8_hugeLength_7cf53_15 : decode cJ8_hugeLength_7cf53 15 = .ok (.dup, 1) := by decide +kernel
theorem dJ8_hugeLength_7cf53_16 : decode cJ8_hugeLength_7cf53 16 = .ok (.invokespecial 91, 3) := by decide +kernel
theorem dJ8_hugeLength_7cf53_19 : decode cJ8_hugeLength_7cf53 19 = .ok (.ldc 206, 2) := by decide +kernel
theorem dJ8_hugeLength_7cf53_21 : decode cJ8_hugeLength_7cf53 21 = .ok (.invokevirtual 94, 3) := by decide +kernel
theorem dJ8_hugeLength_7cf53_24 : decode cJ8_hugeLength_7cf53 24 = .ok (.iload_n 0, 1) := by decide +kernel
theorem dJ8_hugeLength_7cf53_25 : decode cJ8_hugeLength_7cf53 25 = .ok (.invokevirtual 98, 3) := by decide +kernel
theorem dJ8_hugeLength_7cf53_28 : decode cJ8_hugeLength_7cf53 28 = .ok (.ldc 208, 2) := by decide +kernel
theorem dJ8_hugeLength_7cf53_30 : decode cJ8_hugeLength_7cf53 30 = .ok (.invokevirtual 94, 3) := by decide +kernel
theorem dJ8_hugeLength_7cf53_33 : decode cJ8_hugeLength_7cf53 33 = .ok (.iload_n 1, 1) := by decide +kernel
theorem dJ8_hugeLength_7cf53_34 : decode cJ8_hugeLength_7cf53 34 = .ok (.invokevirtual 98, 3) := by decide +kernel
theorem dJ8_hugeLength_7cf53_37 : decode cJ8_hugeLength_7cf53 37 = .ok (.ldc 210, 2) := by decide +kernel
theorem dJ8_hugeLength_7cf53_39 : decode cJ8_hugeLength_7cf53 39 = .ok (.invokevirtual 94, 3) := by decide +kernel
theorem dJ8_hugeLength_7cf53_42 : decode cJ8_hugeLength_7cf53 42 = .ok (.invokevirtual 101, 3) := by decide +kernel
theorem dJ8_hugeLength_7cf53_45 : decode cJ8_hugeLength_7cf53 45 = .ok (.invokespecial 212, 3) := by decide +kernel
theorem dJ8_hugeLength_7cf53_48 : decode cJ8_hugeLength_7cf53 48 = .ok (.athrow, 1) := by decide +kernel
theorem dJ8_hugeLength_7cf53_49 : decode cJ8_hugeLength_7cf53 49 = .ok (.iload_n 2, 1) := by decide +kernel
theorem dJ8_hugeLength_7cf53_50 : decode cJ8_hugeLength_7cf53 50 = .ok (.ldc 200, 2) := by decide +kernel
theorem dJ8_hugeLength_7cf53_52 : decode cJ8_hugeLength_7cf53 52 = .ok (.if_icmp .gt 6, 3) := by decide +kernel
theorem dJ8_hugeLength_7cf53_55 : decode cJ8_hugeLength_7cf53 55 = .ok (.ldc 200, 2) := by decide +kernel
theorem dJ8_hugeLength_7cf53_57 : decode cJ8_hugeLength_7cf53 57 = .ok (.ireturn, 1) := by decide +kernel
theorem dJ8_hugeLength_7cf53_58 : decode cJ8_hugeLength_7cf53 58 = .ok (.iload_n 2, 1) := by decide +kernel
theorem dJ8_hugeLength_7cf53_59 : decode cJ8_hugeLength_7cf53 59 = .ok (.ireturn, 1) := by decide +kernel
theorem dJ3_checkIndex_8e157_0 : decode cJ3_checkIndex_8e157 0 = .ok (.iload_n 0, 1) := by decide +kernel
theorem dJ3_checkIndex_8e157_1 : decode cJ3_checkIndex_8e157 1 = .ok (.ifCond .lt 8, 3) := by decide +kernel
theorem dJ3_checkIndex_8e157_4 : decode cJ3_checkIndex_8e157 4 = .ok (.iload_n 0, 1) := by decide +kernel
theorem dJ3_checkIndex_8e157_5 : decode cJ3_checkIndex_8e157 5 = .ok (.iload_n 1, 1) := by decide +kernel
theorem dJ3_checkIndex_8e157_6 : decode cJ3_checkIndex_8e157 6 = .ok (.if_icmp .lt 10, 3) := by decide +kernel
theorem dJ3_checkIndex_8e157_9 : decode cJ3_checkIndex_8e157 9 = .ok (.aload_n 2, 1) := by decide +kernel
theorem dJ3_checkIndex_8e157_10 : decode cJ3_checkIndex_8e157 10 = .ok (.iload_n 0, 1) := by decide +kernel
theorem dJ3_checkIndex_8e157_11 : decode cJ3_checkIndex_8e157 11 = .ok (.iload_n 1, 1) := by decide +kernel
theorem dJ3_checkIndex_8e157_12 : decode cJ3_checkIndex_8e157 12 = .ok (.invokestatic 95, 3) := by decide +kernel
theorem dJ3_checkIndex_8e157_15 : decode cJ3_checkIndex_8e157 15 = .ok (.athrow, 1) := by decide +kernel
theorem dJ3_checkIndex_8e157_16 : decode cJ3_checkIndex_8e157 16 = .ok (.iload_n 0, 1) := by decide +kernel
theorem dJ3_checkIndex_8e157_17 : decode cJ3_checkIndex_8e157 17 = .ok (.ireturn, 1) := by decide +kernel
theorem dL_addRoom_0 : decode cL_addRoom 0 = .ok (.aload 5, 2) := by decide +kernel
theorem dL_addRoom_2 : decode cL_addRoom 2 = .ok (.iconst 0, 1) := by decide +kernel
theorem dL_addRoom_3 : decode cL_addRoom 3 = .ok (.aload_n 0, 1) := by decide +kernel
theorem dL_addRoom_4 : decode cL_addRoom 4 = .ok (.iload_n 1, 1) := by decide +kernel
theorem dL_addRoom_5 : decode cL_addRoom 5 = .ok (.iload_n 2, 1) := by decide +kernel
theorem dL_addRoom_6 : decode cL_addRoom 6 = .ok (.iload_n 3, 1) := by decide +kernel
theorem dL_addRoom_7 : decode cL_addRoom 7 = .ok (.iload 4, 2) := by decide +kernel
theorem dL_addRoom_9 : decode cL_addRoom 9 = .ok (.invokevirtual 7, 3) := by decide +kernel
theorem dL_addRoom_12 : decode cL_addRoom 12 = .ok (.i2l, 1) := by decide +kernel
theorem dL_addRoom_13 : decode cL_addRoom 13 = .ok (.lastore, 1) := by decide +kernel
theorem dL_addRoom_14 : decode cL_addRoom 14 = .ok (.goto 11, 3) := by decide +kernel
theorem dL_addRoom_17 : decode cL_addRoom 17 = .ok (.astore 6, 2) := by decide +kernel
theorem dL_addRoom_19 : decode cL_addRoom 19 = .ok (.iconst 1, 1) := by decide +kernel
theorem dL_addRoom_20 : decode cL_addRoom 20 = .ok (.ireturn, 1) := by decide +kernel
theorem dL_addRoom_21 : decode cL_addRoom 21 = .ok (.astore 6, 2) := by decide +kernel
theorem dL_addRoom_23 : decode cL_addRoom 23 = .ok (.iconst 2, 1) := by decide +kernel
theorem dL_addRoom_24 : decode cL_addRoom 24 = .ok (.ireturn, 1) := by decide +kernel
theorem dL_addRoom_25 : decode cL_addRoom 25 = .ok (.iconst 0, 1) := by decide +kernel
theorem dL_addRoom_26 : decode cL_addRoom 26 = .ok (.ireturn, 1) := by decide +kernel
theorem dL_setClimate_0 : decode cL_setClimate 0 = .ok (.aload 4, 2) := by decide +kernel
theorem dL_setClimate_2 : decode cL_setClimate 2 = .ok (.iconst 0, 1) := by decide +kernel
theorem dL_setClimate_3 : decode cL_setClimate 3 = .ok (.aload_n 0, 1) := by decide +kernel
theorem dL_setClimate_4 : decode cL_setClimate 4 = .ok (.iload_n 1, 1) := by decide +kernel
theorem dL_setClimate_5 : decode cL_setClimate 5 = .ok (.iload_n 2, 1) := by decide +kernel
theorem dL_setClimate_6 : decode cL_setClimate 6 = .ok (.iload_n 3, 1) := by decide +kernel
theorem dL_setClimate_7 : decode cL_setClimate 7 = .ok (.invokevirtual 17, 3) := by decide +kernel
theorem dL_setClimate_10 : decode cL_setClimate 10 = .ok (.i2l, 1) := by decide +kernel
theorem dL_setClimate_11 : decode cL_setClimate 11 = .ok (.lastore, 1) := by decide +kernel
theorem dL_setClimate_12 : decode cL_setClimate 12 = .ok (.goto 11, 3) := by decide +kernel
theorem dL_setClimate_15 : decode cL_setClimate 15 = .ok (.astore 5, 2) := by decide +kernel
theorem dL_setClimate_17 : decode cL_setClimate 17 = .ok (.iconst 1, 1) := by decide +kernel
theorem dL_setClimate_18 : decode cL_setClimate 18 = .ok (.ireturn, 1) := by decide +kernel
theorem dL_setClimate_19 : decode cL_setClimate 19 = .ok (.astore 5, 2) := by decide +kernel
theorem dL_setClimate_21 : decode cL_setClimate 21 = .ok (.iconst 2, 1) := by decide +kernel
theorem dL_setClimate_22 : decode cL_setClimate 22 = .ok (.ireturn, 1) := by decide +kernel
theorem dL_setClimate_23 : decode cL_setClimate 23 = .ok (.iconst 0, 1) := by decide +kernel
theorem dL_setClimate_24 : decode cL_setClimate 24 = .ok (.ireturn, 1) := by decide +kernel
theorem dL_addLender_0 : decode cL_addLender 0 = .ok (.aload 4, 2) := by decide +kernel
theorem dL_addLender_2 : decode cL_addLender 2 = .ok (.iconst 0, 1) := by decide +kernel
theorem dL_addLender_3 : decode cL_addLender 3 = .ok (.aload_n 0, 1) := by decide +kernel
theorem dL_addLender_4 : decode cL_addLender 4 = .ok (.iload_n 1, 1) := by decide +kernel
theorem dL_addLender_5 : decode cL_addLender 5 = .ok (.iload_n 2, 1) := by decide +kernel
theorem dL_addLender_6 : decode cL_addLender 6 = .ok (.iload_n 3, 1) := by decide +kernel
theorem dL_addLender_7 : decode cL_addLender 7 = .ok (.invokevirtual 23, 3) := by decide +kernel
theorem dL_addLender_10 : decode cL_addLender 10 = .ok (.i2l, 1) := by decide +kernel
theorem dL_addLender_11 : decode cL_addLender 11 = .ok (.lastore, 1) := by decide +kernel
theorem dL_addLender_12 : decode cL_addLender 12 = .ok (.goto 11, 3) := by decide +kernel
theorem dL_addLender_15 : decode cL_addLender 15 = .ok (.astore 5, 2) := by decide +kernel
theorem dL_addLender_17 : decode cL_addLender 17 = .ok (.iconst 1, 1) := by decide +kernel
theorem dL_addLender_18 : decode cL_addLender 18 = .ok (.ireturn, 1) := by decide +kernel
theorem dL_addLender_19 : decode cL_addLender 19 = .ok (.astore 5, 2) := by decide +kernel
theorem dL_addLender_21 : decode cL_addLender 21 = .ok (.iconst 2, 1) := by decide +kernel
theorem dL_addLender_22 : decode cL_addLender 22 = .ok (.ireturn, 1) := by decide +kernel
theorem dL_addLender_23 : decode cL_addLender 23 = .ok (.iconst 0, 1) := by decide +kernel
theorem dL_addLender_24 : decode cL_addLender 24 = .ok (.ireturn, 1) := by decide +kernel
theorem dL_addWork_0 : decode cL_addWork 0 = .ok (.aload 7, 2) := by decide +kernel
theorem dL_addWork_2 : decode cL_addWork 2 = .ok (.iconst 0, 1) := by decide +kernel
theorem dL_addWork_3 : decode cL_addWork 3 = .ok (.aload_n 0, 1) := by decide +kernel
theorem dL_addWork_4 : decode cL_addWork 4 = .ok (.iload_n 1, 1) := by decide +kernel
theorem dL_addWork_5 : decode cL_addWork 5 = .ok (.iload_n 2, 1) := by decide +kernel
theorem dL_addWork_6 : decode cL_addWork 6 = .ok (.iload_n 3, 1) := by decide +kernel
theorem dL_addWork_7 : decode cL_addWork 7 = .ok (.iload 4, 2) := by decide +kernel
theorem dL_addWork_9 : decode cL_addWork 9 = .ok (.iload 5, 2) := by decide +kernel
theorem dL_addWork_11 : decode cL_addWork 11 = .ok (.iload 6, 2) := by decide +kernel
theorem dL_addWork_13 : decode cL_addWork 13 = .ok (.invokevirtual 26, 3) := by decide +kernel
theorem dL_addWork_16 : decode cL_addWork 16 = .ok (.i2l, 1) := by decide +kernel
theorem dL_addWork_17 : decode cL_addWork 17 = .ok (.lastore, 1) := by decide +kernel
theorem dL_addWork_18 : decode cL_addWork 18 = .ok (.goto 11, 3) := by decide +kernel
theorem dL_addWork_21 : decode cL_addWork 21 = .ok (.astore 8, 2) := by decide +kernel
theorem dL_addWork_23 : decode cL_addWork 23 = .ok (.iconst 1, 1) := by decide +kernel
theorem dL_addWork_24 : decode cL_addWork 24 = .ok (.ireturn, 1) := by decide +kernel
theorem dL_addWork_25 : decode cL_addWork 25 = .ok (.astore 8, 2) := by decide +kernel
theorem dL_addWork_27 : decode cL_addWork 27 = .ok (.iconst 2, 1) := by decide +kernel
theorem dL_addWork_28 : decode cL_addWork 28 = .ok (.ireturn, 1) := by decide +kernel
theorem dL_addWork_29 : decode cL_addWork 29 = .ok (.iconst 0, 1) := by decide +kernel
theorem dL_addWork_30 : decode cL_addWork 30 = .ok (.ireturn, 1) := by decide +kernel
theorem dL_separate_0 : decode cL_separate 0 = .ok (.aload 4, 2) := by decide +kernel
theorem dL_separate_2 : decode cL_separate 2 = .ok (.iconst 0, 1) := by decide +kernel
theorem dL_separate_3 : decode cL_separate 3 = .ok (.aload_n 0, 1) := by decide +kernel
theorem dL_separate_4 : decode cL_separate 4 = .ok (.iload_n 1, 1) := by decide +kernel
theorem dL_separate_5 : decode cL_separate 5 = .ok (.iload_n 2, 1) := by decide +kernel
theorem dL_separate_6 : decode cL_separate 6 = .ok (.iload_n 3, 1) := by decide +kernel
theorem dL_separate_7 : decode cL_separate 7 = .ok (.invokevirtual 30, 3) := by decide +kernel
theorem dL_separate_10 : decode cL_separate 10 = .ok (.i2l, 1) := by decide +kernel
theorem dL_separate_11 : decode cL_separate 11 = .ok (.lastore, 1) := by decide +kernel
theorem dL_separate_12 : decode cL_separate 12 = .ok (.goto 15, 3) := by decide +kernel
theorem dL_separate_15 : decode cL_separate 15 = .ok (.astore 5, 2) := by decide +kernel
theorem dL_separate_17 : decode cL_separate 17 = .ok (.iconst 1, 1) := by decide +kernel
theorem dL_separate_18 : decode cL_separate 18 = .ok (.ireturn, 1) := by decide +kernel
theorem dL_separate_19 : decode cL_separate 19 = .ok (.astore 5, 2) := by decide +kernel
theorem dL_separate_21 : decode cL_separate 21 = .ok (.iconst 2, 1) := by decide +kernel
theorem dL_separate_22 : decode cL_separate 22 = .ok (.ireturn, 1) := by decide +kernel
theorem dL_separate_23 : decode cL_separate 23 = .ok (.astore 5, 2) := by decide +kernel
theorem dL_separate_25 : decode cL_separate 25 = .ok (.iconst 3, 1) := by decide +kernel
theorem dL_separate_26 : decode cL_separate 26 = .ok (.ireturn, 1) := by decide +kernel
theorem dL_separate_27 : decode cL_separate 27 = .ok (.iconst 0, 1) := by decide +kernel
theorem dL_separate_28 : decode cL_separate 28 = .ok (.ireturn, 1) := by decide +kernel
theorem dL_separation_0 : decode cL_separation 0 = .ok (.aload_n 3, 1) := by decide +kernel
theorem dL_separation_1 : decode cL_separation 1 = .ok (.iconst 0, 1) := by decide +kernel
theorem dL_separation_2 : decode cL_separation 2 = .ok (.aload_n 0, 1) := by decide +kernel
theorem dL_separation_3 : decode cL_separation 3 = .ok (.iload_n 1, 1) := by decide +kernel
theorem dL_separation_4 : decode cL_separation 4 = .ok (.iload_n 2, 1) := by decide +kernel
theorem dL_separation_5 : decode cL_separation 5 = .ok (.invokevirtual 34, 3) := by decide +kernel
theorem dL_separation_8 : decode cL_separation 8 = .ok (.i2l, 1) := by decide +kernel
theorem dL_separation_9 : decode cL_separation 9 = .ok (.lastore, 1) := by decide +kernel
theorem dL_separation_10 : decode cL_separation 10 = .ok (.goto 7, 3) := by decide +kernel
theorem dL_separation_13 : decode cL_separation 13 = .ok (.astore 4, 2) := by decide +kernel
theorem dL_separation_15 : decode cL_separation 15 = .ok (.iconst 1, 1) := by decide +kernel
theorem dL_separation_16 : decode cL_separation 16 = .ok (.ireturn, 1) := by decide +kernel
theorem dL_separation_17 : decode cL_separation 17 = .ok (.iconst 0, 1) := by decide +kernel
theorem dL_separation_18 : decode cL_separation 18 = .ok (.ireturn, 1) := by decide +kernel
theorem dL_canHang_0 : decode cL_canHang 0 = .ok (.aload_n 3, 1) := by decide +kernel
theorem dL_canHang_1 : decode cL_canHang 1 = .ok (.iconst 0, 1) := by decide +kernel
theorem dL_canHang_2 : decode cL_canHang 2 = .ok (.aload_n 0, 1) := by decide +kernel
theorem dL_canHang_3 : decode cL_canHang 3 = .ok (.iload_n 1, 1) := by decide +kernel
theorem dL_canHang_4 : decode cL_canHang 4 = .ok (.iload_n 2, 1) := by decide +kernel
theorem dL_canHang_5 : decode cL_canHang 5 = .ok (.invokevirtual 38, 3) := by decide +kernel
theorem dL_canHang_8 : decode cL_canHang 8 = .ok (.ifCond .eq 7, 3) := by decide +kernel
theorem dL_canHang_11 : decode cL_canHang 11 = .ok (.lconst 1, 1) := by decide +kernel
theorem dL_canHang_12 : decode cL_canHang 12 = .ok (.goto 4, 3) := by decide +kernel
theorem dL_canHang_15 : decode cL_canHang 15 = .ok (.lconst 0, 1) := by decide +kernel
theorem dL_canHang_16 : decode cL_canHang 16 = .ok (.lastore, 1) := by decide +kernel
theorem dL_canHang_17 : decode cL_canHang 17 = .ok (.goto 7, 3) := by decide +kernel
theorem dL_canHang_20 : decode cL_canHang 20 = .ok (.astore 4, 2) := by decide +kernel
theorem dL_canHang_22 : decode cL_canHang 22 = .ok (.iconst 1, 1) := by decide +kernel
theorem dL_canHang_23 : decode cL_canHang 23 = .ok (.ireturn, 1) := by decide +kernel
theorem dL_canHang_24 : decode cL_canHang 24 = .ok (.iconst 0, 1) := by decide +kernel
theorem dL_canHang_25 : decode cL_canHang 25 = .ok (.ireturn, 1) := by decide +kernel
theorem dL_addExhibition_0 : decode cL_addExhibition 0 = .ok (.aload 4, 2) := by decide +kernel
theorem dL_addExhibition_2 : decode cL_addExhibition 2 = .ok (.iconst 0, 1) := by decide +kernel
theorem dL_addExhibition_3 : decode cL_addExhibition 3 = .ok (.aload_n 0, 1) := by decide +kernel
theorem dL_addExhibition_4 : decode cL_addExhibition 4 = .ok (.iload_n 1, 1) := by decide +kernel
theorem dL_addExhibition_5 : decode cL_addExhibition 5 = .ok (.iload_n 2, 1) := by decide +kernel
theorem dL_addExhibition_6 : decode cL_addExhibition 6 = .ok (.iload_n 3, 1) := by decide +kernel
theorem dL_addExhibition_7 : decode cL_addExhibition 7 = .ok (.invokevirtual 42, 3) := by decide +kernel
theorem dL_addExhibition_10 : decode cL_addExhibition 10 = .ok (.i2l, 1) := by decide +kernel
theorem dL_addExhibition_11 : decode cL_addExhibition 11 = .ok (.lastore, 1) := by decide +kernel
theorem dL_addExhibition_12 : decode cL_addExhibition 12 = .ok (.goto 11, 3) := by decide +kernel
theorem dL_addExhibition_15 : decode cL_addExhibition 15 = .ok (.astore 5, 2) := by decide +kernel
theorem dL_addExhibition_17 : decode cL_addExhibition 17 = .ok (.iconst 1, 1) := by decide +kernel
theorem dL_addExhibition_18 : decode cL_addExhibition 18 = .ok (.ireturn, 1) := by decide +kernel
theorem dL_addExhibition_19 : decode cL_addExhibition 19 = .ok (.astore 5, 2) := by decide +kernel
theorem dL_addExhibition_21 : decode cL_addExhibition 21 = .ok (.iconst 2, 1) := by decide +kernel
theorem dL_addExhibition_22 : decode cL_addExhibition 22 = .ok (.ireturn, 1) := by decide +kernel
theorem dL_addExhibition_23 : decode cL_addExhibition 23 = .ok (.iconst 0, 1) := by decide +kernel
theorem dL_addExhibition_24 : decode cL_addExhibition 24 = .ok (.ireturn, 1) := by decide +kernel
theorem dL_include_0 : decode cL_include 0 = .ok (.aload_n 3, 1) := by decide +kernel
theorem dL_include_1 : decode cL_include 1 = .ok (.iconst 0, 1) := by decide +kernel
theorem dL_include_2 : decode cL_include 2 = .ok (.aload_n 0, 1) := by decide +kernel
theorem dL_include_3 : decode cL_include 3 = .ok (.iload_n 1, 1) := by decide +kernel
theorem dL_include_4 : decode cL_include 4 = .ok (.iload_n 2, 1) := by decide +kernel
theorem dL_include_5 : decode cL_include 5 = .ok (.invokevirtual 45, 3) := by decide +kernel
theorem dL_include_8 : decode cL_include 8 = .ok (.i2l, 1) := by decide +kernel
theorem dL_include_9 : decode cL_include 9 = .ok (.lastore, 1) := by decide +kernel
theorem dL_include_10 : decode cL_include 10 = .ok (.goto 15, 3) := by decide +kernel
theorem dL_include_13 : decode cL_include 13 = .ok (.astore 4, 2) := by decide +kernel
theorem dL_include_15 : decode cL_include 15 = .ok (.iconst 1, 1) := by decide +kernel
theorem dL_include_16 : decode cL_include 16 = .ok (.ireturn, 1) := by decide +kernel
theorem dL_include_17 : decode cL_include 17 = .ok (.astore 4, 2) := by decide +kernel
theorem dL_include_19 : decode cL_include 19 = .ok (.iconst 2, 1) := by decide +kernel
theorem dL_include_20 : decode cL_include 20 = .ok (.ireturn, 1) := by decide +kernel
theorem dL_include_21 : decode cL_include 21 = .ok (.astore 4, 2) := by decide +kernel
theorem dL_include_23 : decode cL_include 23 = .ok (.iconst 3, 1) := by decide +kernel
theorem dL_include_24 : decode cL_include 24 = .ok (.ireturn, 1) := by decide +kernel
theorem dL_include_25 : decode cL_include 25 = .ok (.iconst 0, 1) := by decide +kernel
theorem dL_include_26 : decode cL_include 26 = .ok (.ireturn, 1) := by decide +kernel
theorem dL_request_0 : decode cL_request 0 = .ok (.aload_n 2, 1) := by decide +kernel
theorem dL_request_1 : decode cL_request 1 = .ok (.iconst 0, 1) := by decide +kernel
theorem dL_request_2 : decode cL_request 2 = .ok (.aload_n 0, 1) := by decide +kernel
theorem dL_request_3 : decode cL_request 3 = .ok (.iload_n 1, 1) := by decide +kernel
theorem dL_request_4 : decode cL_request 4 = .ok (.invokevirtual 51, 3) := by decide +kernel
theorem dL_request_7 : decode cL_request 7 = .ok (.i2l, 1) := by decide +kernel
theorem dL_request_8 : decode cL_request 8 = .ok (.lastore, 1) := by decide +kernel
theorem dL_request_9 : decode cL_request 9 = .ok (.goto 12, 3) := by decide +kernel
theorem dL_request_12 : decode cL_request 12 = .ok (.astore_n 3, 1) := by decide +kernel
theorem dL_request_13 : decode cL_request 13 = .ok (.iconst 1, 1) := by decide +kernel
theorem dL_request_14 : decode cL_request 14 = .ok (.ireturn, 1) := by decide +kernel
theorem dL_request_15 : decode cL_request 15 = .ok (.astore_n 3, 1) := by decide +kernel
theorem dL_request_16 : decode cL_request 16 = .ok (.iconst 2, 1) := by decide +kernel
theorem dL_request_17 : decode cL_request 17 = .ok (.ireturn, 1) := by decide +kernel
theorem dL_request_18 : decode cL_request 18 = .ok (.astore_n 3, 1) := by decide +kernel
theorem dL_request_19 : decode cL_request 19 = .ok (.iconst 3, 1) := by decide +kernel
theorem dL_request_20 : decode cL_request 20 = .ok (.ireturn, 1) := by decide +kernel
theorem dL_request_21 : decode cL_request 21 = .ok (.iconst 0, 1) := by decide +kernel
theorem dL_request_22 : decode cL_request 22 = .ok (.ireturn, 1) := by decide +kernel
theorem dL_cancel_0 : decode cL_cancel 0 = .ok (.aload_n 2, 1) := by decide +kernel
theorem dL_cancel_1 : decode cL_cancel 1 = .ok (.iconst 0, 1) := by decide +kernel
theorem dL_cancel_2 : decode cL_cancel 2 = .ok (.aload_n 0, 1) := by decide +kernel
theorem dL_cancel_3 : decode cL_cancel 3 = .ok (.iload_n 1, 1) := by decide +kernel
theorem dL_cancel_4 : decode cL_cancel 4 = .ok (.invokevirtual 57, 3) := by decide +kernel
theorem dL_cancel_7 : decode cL_cancel 7 = .ok (.i2l, 1) := by decide +kernel
theorem dL_cancel_8 : decode cL_cancel 8 = .ok (.lastore, 1) := by decide +kernel
theorem dL_cancel_9 : decode cL_cancel 9 = .ok (.goto 9, 3) := by decide +kernel
theorem dL_cancel_12 : decode cL_cancel 12 = .ok (.astore_n 3, 1) := by decide +kernel
theorem dL_cancel_13 : decode cL_cancel 13 = .ok (.iconst 1, 1) := by decide +kernel
theorem dL_cancel_14 : decode cL_cancel 14 = .ok (.ireturn, 1) := by decide +kernel
theorem dL_cancel_15 : decode cL_cancel 15 = .ok (.astore_n 3, 1) := by decide +kernel
theorem dL_cancel_16 : decode cL_cancel 16 = .ok (.iconst 2, 1) := by decide +kernel
theorem dL_cancel_17 : decode cL_cancel 17 = .ok (.ireturn, 1) := by decide +kernel
theorem dL_cancel_18 : decode cL_cancel 18 = .ok (.iconst 0, 1) := by decide +kernel
theorem dL_cancel_19 : decode cL_cancel 19 = .ok (.ireturn, 1) := by decide +kernel
theorem dL_stateOf_0 : decode cL_stateOf 0 = .ok (.aload_n 2, 1) := by decide +kernel
theorem dL_stateOf_1 : decode cL_stateOf 1 = .ok (.iconst 0, 1) := by decide +kernel
theorem dL_stateOf_2 : decode cL_stateOf 2 = .ok (.aload_n 0, 1) := by decide +kernel
theorem dL_stateOf_3 : decode cL_stateOf 3 = .ok (.iload_n 1, 1) := by decide +kernel
theorem dL_stateOf_4 : decode cL_stateOf 4 = .ok (.invokevirtual 61, 3) := by decide +kernel
theorem dL_stateOf_7 : decode cL_stateOf 7 = .ok (.i2l, 1) := by decide +kernel
theorem dL_stateOf_8 : decode cL_stateOf 8 = .ok (.lastore, 1) := by decide +kernel
theorem dL_stateOf_9 : decode cL_stateOf 9 = .ok (.goto 6, 3) := by decide +kernel
theorem dL_stateOf_12 : decode cL_stateOf 12 = .ok (.astore_n 3, 1) := by decide +kernel
theorem dL_stateOf_13 : decode cL_stateOf 13 = .ok (.iconst 1, 1) := by decide +kernel
theorem dL_stateOf_14 : decode cL_stateOf 14 = .ok (.ireturn, 1) := by decide +kernel
theorem dL_stateOf_15 : decode cL_stateOf 15 = .ok (.iconst 0, 1) := by decide +kernel
theorem dL_stateOf_16 : decode cL_stateOf 16 = .ok (.ireturn, 1) := by decide +kernel
theorem dL_worksOf_0 : decode cL_worksOf 0 = .ok (.aload_n 2, 1) := by decide +kernel
theorem dL_worksOf_1 : decode cL_worksOf 1 = .ok (.iconst 0, 1) := by decide +kernel
theorem dL_worksOf_2 : decode cL_worksOf 2 = .ok (.aload_n 0, 1) := by decide +kernel
theorem dL_worksOf_3 : decode cL_worksOf 3 = .ok (.iload_n 1, 1) := by decide +kernel
theorem dL_worksOf_4 : decode cL_worksOf 4 = .ok (.invokevirtual 64, 3) := by decide +kernel
theorem dL_worksOf_7 : decode cL_worksOf 7 = .ok (.i2l, 1) := by decide +kernel
theorem dL_worksOf_8 : decode cL_worksOf 8 = .ok (.lastore, 1) := by decide +kernel
theorem dL_worksOf_9 : decode cL_worksOf 9 = .ok (.goto 6, 3) := by decide +kernel
theorem dL_worksOf_12 : decode cL_worksOf 12 = .ok (.astore_n 3, 1) := by decide +kernel
theorem dL_worksOf_13 : decode cL_worksOf 13 = .ok (.iconst 1, 1) := by decide +kernel
theorem dL_worksOf_14 : decode cL_worksOf 14 = .ok (.ireturn, 1) := by decide +kernel
theorem dL_worksOf_15 : decode cL_worksOf 15 = .ok (.iconst 0, 1) := by decide +kernel
theorem dL_worksOf_16 : decode cL_worksOf 16 = .ok (.ireturn, 1) := by decide +kernel
theorem dL_workOf_0 : decode cL_workOf 0 = .ok (.aload_n 3, 1) := by decide +kernel
theorem dL_workOf_1 : decode cL_workOf 1 = .ok (.iconst 0, 1) := by decide +kernel
theorem dL_workOf_2 : decode cL_workOf 2 = .ok (.aload_n 0, 1) := by decide +kernel
theorem dL_workOf_3 : decode cL_workOf 3 = .ok (.iload_n 1, 1) := by decide +kernel
theorem dL_workOf_4 : decode cL_workOf 4 = .ok (.iload_n 2, 1) := by decide +kernel
theorem dL_workOf_5 : decode cL_workOf 5 = .ok (.invokevirtual 67, 3) := by decide +kernel
theorem dL_workOf_8 : decode cL_workOf 8 = .ok (.i2l, 1) := by decide +kernel
theorem dL_workOf_9 : decode cL_workOf 9 = .ok (.lastore, 1) := by decide +kernel
theorem dL_workOf_10 : decode cL_workOf 10 = .ok (.goto 11, 3) := by decide +kernel
theorem dL_workOf_13 : decode cL_workOf 13 = .ok (.astore 4, 2) := by decide +kernel
theorem dL_workOf_15 : decode cL_workOf 15 = .ok (.iconst 1, 1) := by decide +kernel
theorem dL_workOf_16 : decode cL_workOf 16 = .ok (.ireturn, 1) := by decide +kernel
theorem dL_workOf_17 : decode cL_workOf 17 = .ok (.astore 4, 2) := by decide +kernel
theorem dL_workOf_19 : decode cL_workOf 19 = .ok (.iconst 2, 1) := by decide +kernel
theorem dL_workOf_20 : decode cL_workOf 20 = .ok (.ireturn, 1) := by decide +kernel
theorem dL_workOf_21 : decode cL_workOf 21 = .ok (.iconst 0, 1) := by decide +kernel
theorem dL_workOf_22 : decode cL_workOf 22 = .ok (.ireturn, 1) := by decide +kernel
theorem dL_wallOf_0 : decode cL_wallOf 0 = .ok (.aload_n 3, 1) := by decide +kernel
theorem dL_wallOf_1 : decode cL_wallOf 1 = .ok (.iconst 0, 1) := by decide +kernel
theorem dL_wallOf_2 : decode cL_wallOf 2 = .ok (.aload_n 0, 1) := by decide +kernel
theorem dL_wallOf_3 : decode cL_wallOf 3 = .ok (.iload_n 1, 1) := by decide +kernel
theorem dL_wallOf_4 : decode cL_wallOf 4 = .ok (.iload_n 2, 1) := by decide +kernel
theorem dL_wallOf_5 : decode cL_wallOf 5 = .ok (.invokevirtual 70, 3) := by decide +kernel
theorem dL_wallOf_8 : decode cL_wallOf 8 = .ok (.i2l, 1) := by decide +kernel
theorem dL_wallOf_9 : decode cL_wallOf 9 = .ok (.lastore, 1) := by decide +kernel
theorem dL_wallOf_10 : decode cL_wallOf 10 = .ok (.goto 15, 3) := by decide +kernel
theorem dL_wallOf_13 : decode cL_wallOf 13 = .ok (.astore 4, 2) := by decide +kernel
theorem dL_wallOf_15 : decode cL_wallOf 15 = .ok (.iconst 1, 1) := by decide +kernel
theorem dL_wallOf_16 : decode cL_wallOf 16 = .ok (.ireturn, 1) := by decide +kernel
theorem dL_wallOf_17 : decode cL_wallOf 17 = .ok (.astore 4, 2) := by decide +kernel
theorem dL_wallOf_19 : decode cL_wallOf 19 = .ok (.iconst 2, 1) := by decide +kernel
theorem dL_wallOf_20 : decode cL_wallOf 20 = .ok (.ireturn, 1) := by decide +kernel
theorem dL_wallOf_21 : decode cL_wallOf 21 = .ok (.astore 4, 2) := by decide +kernel
theorem dL_wallOf_23 : decode cL_wallOf 23 = .ok (.iconst 3, 1) := by decide +kernel
theorem dL_wallOf_24 : decode cL_wallOf 24 = .ok (.ireturn, 1) := by decide +kernel
theorem dL_wallOf_25 : decode cL_wallOf 25 = .ok (.iconst 0, 1) := by decide +kernel
theorem dL_wallOf_26 : decode cL_wallOf 26 = .ok (.ireturn, 1) := by decide +kernel
theorem dL_canTake_0 : decode cL_canTake 0 = .ok (.aload_n 3, 1) := by decide +kernel
theorem dL_canTake_1 : decode cL_canTake 1 = .ok (.iconst 0, 1) := by decide +kernel
theorem dL_canTake_2 : decode cL_canTake 2 = .ok (.aload_n 0, 1) := by decide +kernel
theorem dL_canTake_3 : decode cL_canTake 3 = .ok (.iload_n 1, 1) := by decide +kernel
theorem dL_canTake_4 : decode cL_canTake 4 = .ok (.iload_n 2, 1) := by decide +kernel
theorem dL_canTake_5 : decode cL_canTake 5 = .ok (.invokevirtual 73, 3) := by decide +kernel
theorem dL_canTake_8 : decode cL_canTake 8 = .ok (.ifCond .eq 7, 3) := by decide +kernel
theorem dL_canTake_11 : decode cL_canTake 11 = .ok (.lconst 1, 1) := by decide +kernel
theorem dL_canTake_12 : decode cL_canTake 12 = .ok (.goto 4, 3) := by decide +kernel
theorem dL_canTake_15 : decode cL_canTake 15 = .ok (.lconst 0, 1) := by decide +kernel
theorem dL_canTake_16 : decode cL_canTake 16 = .ok (.lastore, 1) := by decide +kernel
theorem dL_canTake_17 : decode cL_canTake 17 = .ok (.goto 15, 3) := by decide +kernel
theorem dL_canTake_20 : decode cL_canTake 20 = .ok (.astore 4, 2) := by decide +kernel
theorem dL_canTake_22 : decode cL_canTake 22 = .ok (.iconst 1, 1) := by decide +kernel
theorem dL_canTake_23 : decode cL_canTake 23 = .ok (.ireturn, 1) := by decide +kernel
theorem dL_canTake_24 : decode cL_canTake 24 = .ok (.astore 4, 2) := by decide +kernel
theorem dL_canTake_26 : decode cL_canTake 26 = .ok (.iconst 2, 1) := by decide +kernel
theorem dL_canTake_27 : decode cL_canTake 27 = .ok (.ireturn, 1) := by decide +kernel
theorem dL_canTake_28 : decode cL_canTake 28 = .ok (.astore 4, 2) := by decide +kernel
theorem dL_canTake_30 : decode cL_canTake 30 = .ok (.iconst 3, 1) := by decide +kernel
theorem dL_canTake_31 : decode cL_canTake 31 = .ok (.ireturn, 1) := by decide +kernel
theorem dL_canTake_32 : decode cL_canTake 32 = .ok (.iconst 0, 1) := by decide +kernel
theorem dL_canTake_33 : decode cL_canTake 33 = .ok (.ireturn, 1) := by decide +kernel
theorem dL_wallFor_0 : decode cL_wallFor 0 = .ok (.aload_n 3, 1) := by decide +kernel
theorem dL_wallFor_1 : decode cL_wallFor 1 = .ok (.iconst 0, 1) := by decide +kernel
theorem dL_wallFor_2 : decode cL_wallFor 2 = .ok (.aload_n 0, 1) := by decide +kernel
theorem dL_wallFor_3 : decode cL_wallFor 3 = .ok (.iload_n 1, 1) := by decide +kernel
theorem dL_wallFor_4 : decode cL_wallFor 4 = .ok (.iload_n 2, 1) := by decide +kernel
theorem dL_wallFor_5 : decode cL_wallFor 5 = .ok (.invokevirtual 76, 3) := by decide +kernel
theorem dL_wallFor_8 : decode cL_wallFor 8 = .ok (.i2l, 1) := by decide +kernel
theorem dL_wallFor_9 : decode cL_wallFor 9 = .ok (.lastore, 1) := by decide +kernel
theorem dL_wallFor_10 : decode cL_wallFor 10 = .ok (.goto 19, 3) := by decide +kernel
theorem dL_wallFor_13 : decode cL_wallFor 13 = .ok (.astore 4, 2) := by decide +kernel
theorem dL_wallFor_15 : decode cL_wallFor 15 = .ok (.iconst 1, 1) := by decide +kernel
theorem dL_wallFor_16 : decode cL_wallFor 16 = .ok (.ireturn, 1) := by decide +kernel
theorem dL_wallFor_17 : decode cL_wallFor 17 = .ok (.astore 4, 2) := by decide +kernel
theorem dL_wallFor_19 : decode cL_wallFor 19 = .ok (.iconst 2, 1) := by decide +kernel
theorem dL_wallFor_20 : decode cL_wallFor 20 = .ok (.ireturn, 1) := by decide +kernel
theorem dL_wallFor_21 : decode cL_wallFor 21 = .ok (.astore 4, 2) := by decide +kernel
theorem dL_wallFor_23 : decode cL_wallFor 23 = .ok (.iconst 3, 1) := by decide +kernel
theorem dL_wallFor_24 : decode cL_wallFor 24 = .ok (.ireturn, 1) := by decide +kernel
theorem dL_wallFor_25 : decode cL_wallFor 25 = .ok (.astore 4, 2) := by decide +kernel
theorem dL_wallFor_27 : decode cL_wallFor 27 = .ok (.iconst 4, 1) := by decide +kernel
theorem dL_wallFor_28 : decode cL_wallFor 28 = .ok (.ireturn, 1) := by decide +kernel
theorem dL_wallFor_29 : decode cL_wallFor 29 = .ok (.iconst 0, 1) := by decide +kernel
theorem dL_wallFor_30 : decode cL_wallFor 30 = .ok (.ireturn, 1) := by decide +kernel
theorem dL_wallForBySearch_0 : decode cL_wallForBySearch 0 = .ok (.aload_n 3, 1) := by decide +kernel
theorem dL_wallForBySearch_1 : decode cL_wallForBySearch 1 = .ok (.iconst 0, 1) := by decide +kernel
theorem dL_wallForBySearch_2 : decode cL_wallForBySearch 2 = .ok (.aload_n 0, 1) := by decide +kernel
theorem dL_wallForBySearch_3 : decode cL_wallForBySearch 3 = .ok (.iload_n 1, 1) := by decide +kernel
theorem dL_wallForBySearch_4 : decode cL_wallForBySearch 4 = .ok (.iload_n 2, 1) := by decide +kernel
theorem dL_wallForBySearch_5 : decode cL_wallForBySearch 5 = .ok (.invokevirtual 79, 3) := by decide +kernel
theorem dL_wallForBySearch_8 : decode cL_wallForBySearch 8 = .ok (.i2l, 1) := by decide +kernel
theorem dL_wallForBySearch_9 : decode cL_wallForBySearch 9 = .ok (.lastore, 1) := by decide +kernel
theorem dL_wallForBySearch_10 : decode cL_wallForBySearch 10 = .ok (.goto 19, 3) := by decide +kernel
theorem dL_wallForBySearch_13 : decode cL_wallForBySearch 13 = .ok (.astore 4, 2) := by decide +kernel
theorem dL_wallForBySearch_15 : decode cL_wallForBySearch 15 = .ok (.iconst 1, 1) := by decide +kernel
theorem dL_wallForBySearch_16 : decode cL_wallForBySearch 16 = .ok (.ireturn, 1) := by decide +kernel
theorem dL_wallForBySearch_17 : decode cL_wallForBySearch 17 = .ok (.astore 4, 2) := by decide +kernel
theorem dL_wallForBySearch_19 : decode cL_wallForBySearch 19 = .ok (.iconst 2, 1) := by decide +kernel
theorem dL_wallForBySearch_20 : decode cL_wallForBySearch 20 = .ok (.ireturn, 1) := by decide +kernel
theorem dL_wallForBySearch_21 : decode cL_wallForBySearch 21 = .ok (.astore 4, 2) := by decide +kernel
theorem dL_wallForBySearch_23 : decode cL_wallForBySearch 23 = .ok (.iconst 3, 1) := by decide +kernel
theorem dL_wallForBySearch_24 : decode cL_wallForBySearch 24 = .ok (.ireturn, 1) := by decide +kernel
theorem dL_wallForBySearch_25 : decode cL_wallForBySearch 25 = .ok (.astore 4, 2) := by decide +kernel
theorem dL_wallForBySearch_27 : decode cL_wallForBySearch 27 = .ok (.iconst 4, 1) := by decide +kernel
theorem dL_wallForBySearch_28 : decode cL_wallForBySearch 28 = .ok (.ireturn, 1) := by decide +kernel
theorem dL_wallForBySearch_29 : decode cL_wallForBySearch 29 = .ok (.iconst 0, 1) := by decide +kernel
theorem dL_wallForBySearch_30 : decode cL_wallForBySearch 30 = .ok (.ireturn, 1) := by decide +kernel
theorem dL_trips_0 : decode cL_trips 0 = .ok (.aload_n 3, 1) := by decide +kernel
theorem dL_trips_1 : decode cL_trips 1 = .ok (.iconst 0, 1) := by decide +kernel
theorem dL_trips_2 : decode cL_trips 2 = .ok (.aload_n 0, 1) := by decide +kernel
theorem dL_trips_3 : decode cL_trips 3 = .ok (.iload_n 1, 1) := by decide +kernel
theorem dL_trips_4 : decode cL_trips 4 = .ok (.iload_n 2, 1) := by decide +kernel
theorem dL_trips_5 : decode cL_trips 5 = .ok (.invokevirtual 82, 3) := by decide +kernel
theorem dL_trips_8 : decode cL_trips 8 = .ok (.i2l, 1) := by decide +kernel
theorem dL_trips_9 : decode cL_trips 9 = .ok (.lastore, 1) := by decide +kernel
theorem dL_trips_10 : decode cL_trips 10 = .ok (.goto 15, 3) := by decide +kernel
theorem dL_trips_13 : decode cL_trips 13 = .ok (.astore 4, 2) := by decide +kernel
theorem dL_trips_15 : decode cL_trips 15 = .ok (.iconst 1, 1) := by decide +kernel
theorem dL_trips_16 : decode cL_trips 16 = .ok (.ireturn, 1) := by decide +kernel
theorem dL_trips_17 : decode cL_trips 17 = .ok (.astore 4, 2) := by decide +kernel
theorem dL_trips_19 : decode cL_trips 19 = .ok (.iconst 2, 1) := by decide +kernel
theorem dL_trips_20 : decode cL_trips 20 = .ok (.ireturn, 1) := by decide +kernel
theorem dL_trips_21 : decode cL_trips 21 = .ok (.astore 4, 2) := by decide +kernel
theorem dL_trips_23 : decode cL_trips 23 = .ok (.iconst 3, 1) := by decide +kernel
theorem dL_trips_24 : decode cL_trips 24 = .ok (.ireturn, 1) := by decide +kernel
theorem dL_trips_25 : decode cL_trips 25 = .ok (.iconst 0, 1) := by decide +kernel
theorem dL_trips_26 : decode cL_trips 26 = .ok (.ireturn, 1) := by decide +kernel
theorem dL_tripsByTrying_0 : decode cL_tripsByTrying 0 = .ok (.aload_n 3, 1) := by decide +kernel
theorem dL_tripsByTrying_1 : decode cL_tripsByTrying 1 = .ok (.iconst 0, 1) := by decide +kernel
theorem dL_tripsByTrying_2 : decode cL_tripsByTrying 2 = .ok (.aload_n 0, 1) := by decide +kernel
theorem dL_tripsByTrying_3 : decode cL_tripsByTrying 3 = .ok (.iload_n 1, 1) := by decide +kernel
theorem dL_tripsByTrying_4 : decode cL_tripsByTrying 4 = .ok (.iload_n 2, 1) := by decide +kernel
theorem dL_tripsByTrying_5 : decode cL_tripsByTrying 5 = .ok (.invokevirtual 85, 3) := by decide +kernel
theorem dL_tripsByTrying_8 : decode cL_tripsByTrying 8 = .ok (.i2l, 1) := by decide +kernel
theorem dL_tripsByTrying_9 : decode cL_tripsByTrying 9 = .ok (.lastore, 1) := by decide +kernel
theorem dL_tripsByTrying_10 : decode cL_tripsByTrying 10 = .ok (.goto 15, 3) := by decide +kernel
theorem dL_tripsByTrying_13 : decode cL_tripsByTrying 13 = .ok (.astore 4, 2) := by decide +kernel
theorem dL_tripsByTrying_15 : decode cL_tripsByTrying 15 = .ok (.iconst 1, 1) := by decide +kernel
theorem dL_tripsByTrying_16 : decode cL_tripsByTrying 16 = .ok (.ireturn, 1) := by decide +kernel
theorem dL_tripsByTrying_17 : decode cL_tripsByTrying 17 = .ok (.astore 4, 2) := by decide +kernel
theorem dL_tripsByTrying_19 : decode cL_tripsByTrying 19 = .ok (.iconst 2, 1) := by decide +kernel
theorem dL_tripsByTrying_20 : decode cL_tripsByTrying 20 = .ok (.ireturn, 1) := by decide +kernel
theorem dL_tripsByTrying_21 : decode cL_tripsByTrying 21 = .ok (.astore 4, 2) := by decide +kernel
theorem dL_tripsByTrying_23 : decode cL_tripsByTrying 23 = .ok (.iconst 3, 1) := by decide +kernel
theorem dL_tripsByTrying_24 : decode cL_tripsByTrying 24 = .ok (.ireturn, 1) := by decide +kernel
theorem dL_tripsByTrying_25 : decode cL_tripsByTrying 25 = .ok (.iconst 0, 1) := by decide +kernel
theorem dL_tripsByTrying_26 : decode cL_tripsByTrying 26 = .ok (.ireturn, 1) := by decide +kernel
theorem dL_taken_0 : decode cL_taken 0 = .ok (.aload_n 3, 1) := by decide +kernel
theorem dL_taken_1 : decode cL_taken 1 = .ok (.iconst 0, 1) := by decide +kernel
theorem dL_taken_2 : decode cL_taken 2 = .ok (.aload_n 0, 1) := by decide +kernel
theorem dL_taken_3 : decode cL_taken 3 = .ok (.iload_n 1, 1) := by decide +kernel
theorem dL_taken_4 : decode cL_taken 4 = .ok (.iload_n 2, 1) := by decide +kernel
theorem dL_taken_5 : decode cL_taken 5 = .ok (.invokevirtual 88, 3) := by decide +kernel
theorem dL_taken_8 : decode cL_taken 8 = .ok (.i2l, 1) := by decide +kernel
theorem dL_taken_9 : decode cL_taken 9 = .ok (.lastore, 1) := by decide +kernel
theorem dL_taken_10 : decode cL_taken 10 = .ok (.goto 11, 3) := by decide +kernel
theorem dL_taken_13 : decode cL_taken 13 = .ok (.astore 4, 2) := by decide +kernel
theorem dL_taken_15 : decode cL_taken 15 = .ok (.iconst 1, 1) := by decide +kernel
theorem dL_taken_16 : decode cL_taken 16 = .ok (.ireturn, 1) := by decide +kernel
theorem dL_taken_17 : decode cL_taken 17 = .ok (.astore 4, 2) := by decide +kernel
theorem dL_taken_19 : decode cL_taken 19 = .ok (.iconst 2, 1) := by decide +kernel
theorem dL_taken_20 : decode cL_taken 20 = .ok (.ireturn, 1) := by decide +kernel
theorem dL_taken_21 : decode cL_taken 21 = .ok (.iconst 0, 1) := by decide +kernel
theorem dL_taken_22 : decode cL_taken 22 = .ok (.ireturn, 1) := by decide +kernel
theorem dL_hanging_0 : decode cL_hanging 0 = .ok (.aload_n 3, 1) := by decide +kernel
theorem dL_hanging_1 : decode cL_hanging 1 = .ok (.iconst 0, 1) := by decide +kernel
theorem dL_hanging_2 : decode cL_hanging 2 = .ok (.aload_n 0, 1) := by decide +kernel
theorem dL_hanging_3 : decode cL_hanging 3 = .ok (.iload_n 1, 1) := by decide +kernel
theorem dL_hanging_4 : decode cL_hanging 4 = .ok (.iload_n 2, 1) := by decide +kernel
theorem dL_hanging_5 : decode cL_hanging 5 = .ok (.invokevirtual 91, 3) := by decide +kernel
theorem dL_hanging_8 : decode cL_hanging 8 = .ok (.i2l, 1) := by decide +kernel
theorem dL_hanging_9 : decode cL_hanging 9 = .ok (.lastore, 1) := by decide +kernel
theorem dL_hanging_10 : decode cL_hanging 10 = .ok (.goto 11, 3) := by decide +kernel
theorem dL_hanging_13 : decode cL_hanging 13 = .ok (.astore 4, 2) := by decide +kernel
theorem dL_hanging_15 : decode cL_hanging 15 = .ok (.iconst 1, 1) := by decide +kernel
theorem dL_hanging_16 : decode cL_hanging 16 = .ok (.ireturn, 1) := by decide +kernel
theorem dL_hanging_17 : decode cL_hanging 17 = .ok (.astore 4, 2) := by decide +kernel
theorem dL_hanging_19 : decode cL_hanging 19 = .ok (.iconst 2, 1) := by decide +kernel
theorem dL_hanging_20 : decode cL_hanging 20 = .ok (.ireturn, 1) := by decide +kernel
theorem dL_hanging_21 : decode cL_hanging 21 = .ok (.iconst 0, 1) := by decide +kernel
theorem dL_hanging_22 : decode cL_hanging 22 = .ok (.ireturn, 1) := by decide +kernel
theorem dL_awayFor_0 : decode cL_awayFor 0 = .ok (.aload_n 3, 1) := by decide +kernel
theorem dL_awayFor_1 : decode cL_awayFor 1 = .ok (.iconst 0, 1) := by decide +kernel
theorem dL_awayFor_2 : decode cL_awayFor 2 = .ok (.aload_n 0, 1) := by decide +kernel
theorem dL_awayFor_3 : decode cL_awayFor 3 = .ok (.iload_n 1, 1) := by decide +kernel
theorem dL_awayFor_4 : decode cL_awayFor 4 = .ok (.iload_n 2, 1) := by decide +kernel
theorem dL_awayFor_5 : decode cL_awayFor 5 = .ok (.invokevirtual 94, 3) := by decide +kernel
theorem dL_awayFor_8 : decode cL_awayFor 8 = .ok (.i2l, 1) := by decide +kernel
theorem dL_awayFor_9 : decode cL_awayFor 9 = .ok (.lastore, 1) := by decide +kernel
theorem dL_awayFor_10 : decode cL_awayFor 10 = .ok (.goto 15, 3) := by decide +kernel
theorem dL_awayFor_13 : decode cL_awayFor 13 = .ok (.astore 4, 2) := by decide +kernel
theorem dL_awayFor_15 : decode cL_awayFor 15 = .ok (.iconst 1, 1) := by decide +kernel
theorem dL_awayFor_16 : decode cL_awayFor 16 = .ok (.ireturn, 1) := by decide +kernel
theorem dL_awayFor_17 : decode cL_awayFor 17 = .ok (.astore 4, 2) := by decide +kernel
theorem dL_awayFor_19 : decode cL_awayFor 19 = .ok (.iconst 2, 1) := by decide +kernel
theorem dL_awayFor_20 : decode cL_awayFor 20 = .ok (.ireturn, 1) := by decide +kernel
theorem dL_awayFor_21 : decode cL_awayFor 21 = .ok (.astore 4, 2) := by decide +kernel
theorem dL_awayFor_23 : decode cL_awayFor 23 = .ok (.iconst 3, 1) := by decide +kernel
theorem dL_awayFor_24 : decode cL_awayFor 24 = .ok (.ireturn, 1) := by decide +kernel
theorem dL_awayFor_25 : decode cL_awayFor 25 = .ok (.iconst 0, 1) := by decide +kernel
theorem dL_awayFor_26 : decode cL_awayFor 26 = .ok (.ireturn, 1) := by decide +kernel
theorem dL_meanWorks_0 : decode cL_meanWorks 0 = .ok (.aload_n 1, 1) := by decide +kernel
theorem dL_meanWorks_1 : decode cL_meanWorks 1 = .ok (.iconst 0, 1) := by decide +kernel
theorem dL_meanWorks_2 : decode cL_meanWorks 2 = .ok (.aload_n 0, 1) := by decide +kernel
theorem dL_meanWorks_3 : decode cL_meanWorks 3 = .ok (.invokevirtual 97, 3) := by decide +kernel
theorem dL_meanWorks_6 : decode cL_meanWorks 6 = .ok (.dastore, 1) := by decide +kernel
theorem dL_meanWorks_7 : decode cL_meanWorks 7 = .ok (.goto 6, 3) := by decide +kernel
theorem dL_meanWorks_10 : decode cL_meanWorks 10 = .ok (.astore_n 2, 1) := by decide +kernel
theorem dL_meanWorks_11 : decode cL_meanWorks 11 = .ok (.iconst 1, 1) := by decide +kernel
theorem dL_meanWorks_12 : decode cL_meanWorks 12 = .ok (.ireturn, 1) := by decide +kernel
theorem dL_meanWorks_13 : decode cL_meanWorks 13 = .ok (.iconst 0, 1) := by decide +kernel
theorem dL_meanWorks_14 : decode cL_meanWorks 14 = .ok (.ireturn, 1) := by decide +kernel
theorem dL_share_0 : decode cL_share 0 = .ok (.aload_n 3, 1) := by decide +kernel
theorem dL_share_1 : decode cL_share 1 = .ok (.iconst 0, 1) := by decide +kernel
theorem dL_share_2 : decode cL_share 2 = .ok (.aload_n 0, 1) := by decide +kernel
theorem dL_share_3 : decode cL_share 3 = .ok (.iload_n 1, 1) := by decide +kernel
theorem dL_share_4 : decode cL_share 4 = .ok (.iload_n 2, 1) := by decide +kernel
theorem dL_share_5 : decode cL_share 5 = .ok (.invokevirtual 103, 3) := by decide +kernel
theorem dL_share_8 : decode cL_share 8 = .ok (.f2d, 1) := by decide +kernel
theorem dL_share_9 : decode cL_share 9 = .ok (.dastore, 1) := by decide +kernel
theorem dL_share_10 : decode cL_share 10 = .ok (.goto 11, 3) := by decide +kernel
theorem dL_share_13 : decode cL_share 13 = .ok (.astore 4, 2) := by decide +kernel
theorem dL_share_15 : decode cL_share 15 = .ok (.iconst 1, 1) := by decide +kernel
theorem dL_share_16 : decode cL_share 16 = .ok (.ireturn, 1) := by decide +kernel
theorem dL_share_17 : decode cL_share 17 = .ok (.astore 4, 2) := by decide +kernel
theorem dL_share_19 : decode cL_share 19 = .ok (.iconst 2, 1) := by decide +kernel
theorem dL_share_20 : decode cL_share 20 = .ok (.ireturn, 1) := by decide +kernel
theorem dL_share_21 : decode cL_share 21 = .ok (.iconst 0, 1) := by decide +kernel
theorem dL_share_22 : decode cL_share 22 = .ok (.ireturn, 1) := by decide +kernel
theorem dL_law_0 : decode cL_law 0 = .ok (.new 8, 3) := by decide +kernel
theorem dL_law_3 : decode cL_law 3 = .ok (.dup, 1) := by decide +kernel
theorem dL_law_4 : decode cL_law 4 = .ok (.invokespecial 107, 3) := by decide +kernel
theorem dL_law_7 : decode cL_law 7 = .ok (.astore_n 1, 1) := by decide +kernel
theorem dL_law_8 : decode cL_law 8 = .ok (.new 108, 3) := by decide +kernel
theorem dL_law_11 : decode cL_law 11 = .ok (.dup, 1) := by decide +kernel
theorem dL_law_12 : decode cL_law 12 = .ok (.invokespecial 110, 3) := by decide +kernel
theorem dL_law_15 : decode cL_law 15 = .ok (.astore_n 2, 1) := by decide +kernel
theorem dL_law_16 : decode cL_law 16 = .ok (.iconst 1, 1) := by decide +kernel
theorem dL_law_17 : decode cL_law 17 = .ok (.newarray .long, 2) := by decide +kernel
theorem dL_law_19 : decode cL_law 19 = .ok (.astore_n 3, 1) := by decide +kernel
theorem dL_law_20 : decode cL_law 20 = .ok (.iconst 1, 1) := by decide +kernel
theorem dL_law_21 : decode cL_law 21 = .ok (.newarray .double, 2) := by decide +kernel
theorem dL_law_23 : decode cL_law 23 = .ok (.astore 4, 2) := by decide +kernel
theorem dL_law_25 : decode cL_law 25 = .ok (.iconst 0, 1) := by decide +kernel
theorem dL_law_26 : decode cL_law 26 = .ok (.istore 5, 2) := by decide +kernel
theorem dL_law_28 : decode cL_law 28 = .ok (.iload 5, 2) := by decide +kernel
theorem dL_law_30 : decode cL_law 30 = .ok (.aload_n 0, 1) := by decide +kernel
theorem dL_law_31 : decode cL_law 31 = .ok (.arraylength, 1) := by decide +kernel
theorem dL_law_32 : decode cL_law 32 = .ok (.bipush 7, 2) := by decide +kernel
theorem dL_law_34 : decode cL_law 34 = .ok (.isub, 1) := by decide +kernel
theorem dL_law_35 : decode cL_law 35 = .ok (.if_icmp .gt 2026, 3) := by decide +kernel
theorem dL_law_38 : decode cL_law 38 = .ok (.aload_n 0, 1) := by decide +kernel
theorem dL_law_39 : decode cL_law 39 = .ok (.iload 5, 2) := by decide +kernel
theorem dL_law_41 : decode cL_law 41 = .ok (.iaload, 1) := by decide +kernel
theorem dL_law_42 : decode cL_law 42 = .ok (.bipush 31, 2) := by decide +kernel
theorem dL_law_44 : decode cL_law 44 = .ok (.iand, 1) := by decide +kernel
theorem dL_law_45 : decode cL_law 45 = .ok (.tableswitch 2010 0 29 #[135, 227, 307, 387, 505, 587, 600, 613, 681, 756, 836, 904, 960, 1016, 1072, 1128, 1196, 1264, 1339, 1407, 1475, 1543, 1611, 1679, 1747, 1815, 1828, 1842, 1907, 1997], 135) := by decide +kernel
theorem dL_law_180 : decode cL_law 180 = .ok (.aload_n 1, 1) := by decide +kernel
theorem dL_law_181 : decode cL_law 181 = .ok (.aload_n 0, 1) := by decide +kernel
theorem dL_law_182 : decode cL_law 182 = .ok (.iload 5, 2) := by decide +kernel
theorem dL_law_184 : decode cL_law 184 = .ok (.iconst 1, 1) := by decide +kernel
theorem dL_law_185 : decode cL_law 185 = .ok (.iadd, 1) := by decide +kernel
theorem dL_law_186 : decode cL_law 186 = .ok (.iaload, 1) := by decide +kernel
theorem dL_law_187 : decode cL_law 187 = .ok (.aload_n 0, 1) := by decide +kernel
theorem dL_law_188 : decode cL_law 188 = .ok (.iload 5, 2) := by decide +kernel
theorem dL_law_190 : decode cL_law 190 = .ok (.iconst 2, 1) := by decide +kernel
theorem dL_law_191 : decode cL_law 191 = .ok (.iadd, 1) := by decide +kernel
theorem dL_law_192 : decode cL_law 192 = .ok (.iaload, 1) := by decide +kernel
theorem dL_law_193 : decode cL_law 193 = .ok (.aload_n 0, 1) := by decide +kernel
theorem dL_law_194 : decode cL_law 194 = .ok (.iload 5, 2) := by decide +kernel
theorem dL_law_196 : decode cL_law 196 = .ok (.iconst 3, 1) := by decide +kernel
theorem dL_law_197 : decode cL_law 197 = .ok (.iadd, 1) := by decide +kernel
theorem dL_law_198 : decode cL_law 198 = .ok (.iaload, 1) := by decide +kernel
theorem dL_law_199 : decode cL_law 199 = .ok (.aload_n 0, 1) := by decide +kernel
theorem dL_law_200 : decode cL_law 200 = .ok (.iload 5, 2) := by decide +kernel
theorem dL_law_202 : decode cL_law 202 = .ok (.iconst 4, 1) := by decide +kernel
theorem dL_law_203 : decode cL_law 203 = .ok (.iadd, 1) := by decide +kernel
theorem dL_law_204 : decode cL_law 204 = .ok (.iaload, 1) := by decide +kernel
theorem dL_law_205 : decode cL_law 205 = .ok (.aload_n 3, 1) := by decide +kernel
theorem dL_law_206 : decode cL_law 206 = .ok (.invokestatic 111, 3) := by decide +kernel
theorem dL_law_209 : decode cL_law 209 = .ok (.istore 6, 2) := by decide +kernel
theorem dL_law_211 : decode cL_law 211 = .ok (.aload_n 2, 1) := by decide +kernel
theorem dL_law_212 : decode cL_law 212 = .ok (.aload_n 0, 1) := by decide +kernel
theorem dL_law_213 : decode cL_law 213 = .ok (.iload 5, 2) := by decide +kernel
theorem dL_law_215 : decode cL_law 215 = .ok (.iconst 1, 1) := by decide +kernel
theorem dL_law_216 : decode cL_law 216 = .ok (.iadd, 1) := by decide +kernel
theorem dL_law_217 : decode cL_law 217 = .ok (.iaload, 1) := by decide +kernel
theorem dL_law_218 : decode cL_law 218 = .ok (.aload_n 0, 1) := by decide +kernel
theorem dL_law_219 : decode cL_law 219 = .ok (.iload 5, 2) := by decide +kernel
theorem dL_law_221 : decode cL_law 221 = .ok (.iconst 2, 1) := by decide +kernel
theorem dL_law_222 : decode cL_law 222 = .ok (.iadd, 1) := by decide +kernel
theorem dL_law_223 : decode cL_law 223 = .ok (.iaload, 1) := by decide +kernel
theorem dL_law_224 : decode cL_law 224 = .ok (.aload_n 0, 1) := by decide +kernel
theorem dL_law_225 : decode cL_law 225 = .ok (.iload 5, 2) := by decide +kernel
theorem dL_law_227 : decode cL_law 227 = .ok (.iconst 3, 1) := by decide +kernel
theorem dL_law_228 : decode cL_law 228 = .ok (.iadd, 1) := by decide +kernel
theorem dL_law_229 : decode cL_law 229 = .ok (.iaload, 1) := by decide +kernel
theorem dL_law_230 : decode cL_law 230 = .ok (.aload_n 0, 1) := by decide +kernel
theorem dL_law_231 : decode cL_law 231 = .ok (.iload 5, 2) := by decide +kernel
theorem dL_law_233 : decode cL_law 233 = .ok (.iconst 4, 1) := by decide +kernel
theorem dL_law_234 : decode cL_law 234 = .ok (.iadd, 1) := by decide +kernel
theorem dL_law_235 : decode cL_law 235 = .ok (.iaload, 1) := by decide +kernel
theorem dL_law_236 : decode cL_law 236 = .ok (.invokevirtual 116, 3) := by decide +kernel
theorem dL_law_239 : decode cL_law 239 = .ok (.istore 7, 2) := by decide +kernel
theorem dL_law_241 : decode cL_law 241 = .ok (.aload_n 2, 1) := by decide +kernel
theorem dL_law_242 : decode cL_law 242 = .ok (.invokevirtual 117, 3) := by decide +kernel
theorem dL_law_245 : decode cL_law 245 = .ok (.iload 6, 2) := by decide +kernel
theorem dL_law_247 : decode cL_law 247 = .ok (.if_icmp .eq 5, 3) := by decide +kernel
theorem dL_law_250 : decode cL_law 250 = .ok (.iconst 0, 1) := by decide +kernel
theorem dL_law_251 : decode cL_law 251 = .ok (.ireturn, 1) := by decide +kernel
theorem dL_law_252 : decode cL_law 252 = .ok (.iload 6, 2) := by decide +kernel
theorem dL_law_254 : decode cL_law 254 = .ok (.ifCond .ne 15, 3) := by decide +kernel
theorem dL_law_257 : decode cL_law 257 = .ok (.aload_n 3, 1) := by decide +kernel
theorem dL_law_258 : decode cL_law 258 = .ok (.iconst 0, 1) := by decide +kernel
theorem dL_law_259 : decode cL_law 259 = .ok (.laload, 1) := by decide +kernel
theorem dL_law_260 : decode cL_law 260 = .ok (.iload 7, 2) := by decide +kernel
theorem dL_law_262 : decode cL_law 262 = .ok (.i2l, 1) := by decide +kernel
theorem dL_law_263 : decode cL_law 263 = .ok (.lcmp, 1) := by decide +kernel
theorem dL_law_264 : decode cL_law 264 = .ok (.ifCond .eq 5, 3) := by decide +kernel
theorem dL_law_267 : decode cL_law 267 = .ok (.iconst 0, 1) := by decide +kernel
theorem dL_law_268 : decode cL_law 268 = .ok (.ireturn, 1) := by decide +kernel
theorem dL_law_269 : decode cL_law 269 = .ok (.goto 1786, 3) := by decide +kernel
theorem dL_law_272 : decode cL_law 272 = .ok (.aload_n 1, 1) := by decide +kernel
theorem dL_law_273 : decode cL_law 273 = .ok (.aload_n 0, 1) := by decide +kernel
theorem dL_law_274 : decode cL_law 274 = .ok (.iload 5, 2) := by decide +kernel
theorem dL_law_276 : decode cL_law 276 = .ok (.iconst 1, 1) := by decide +kernel
theorem dL_law_277 : decode cL_law 277 = .ok (.iadd, 1) := by decide +kernel
theorem dL_law_278 : decode cL_law 278 = .ok (.iaload, 1) := by decide +kernel
theorem dL_law_279 : decode cL_law 279 = .ok (.aload_n 0, 1) := by decide +kernel
theorem dL_law_280 : decode cL_law 280 = .ok (.iload 5, 2) := by decide +kernel
theorem dL_law_282 : decode cL_law 282 = .ok (.iconst 2, 1) := by decide +kernel
theorem dL_law_283 : decode cL_law 283 = .ok (.iadd, 1) := by decide +kernel
theorem dL_law_284 : decode cL_law 284 = .ok (.iaload, 1) := by decide +kernel
theorem dL_law_285 : decode cL_law 285 = .ok (.aload_n 0, 1) := by decide +kernel
theorem dL_law_286 : decode cL_law 286 = .ok (.iload 5, 2) := by decide +kernel
theorem dL_law_288 : decode cL_law 288 = .ok (.iconst 3, 1) := by decide +kernel
theorem dL_law_289 : decode cL_law 289 = .ok (.iadd, 1) := by decide +kernel
theorem dL_law_290 : decode cL_law 290 = .ok (.iaload, 1) := by decide +kernel
theorem dL_law_291 : decode cL_law 291 = .ok (.aload_n 3, 1) := by decide +kernel
theorem dL_law_292 : decode cL_law 292 = .ok (.invokestatic 121, 3) := by decide +kernel
theorem dL_law_295 : decode cL_law 295 = .ok (.istore 6, 2) := by decide +kernel
theorem dL_law_297 : decode cL_law 297 = .ok (.aload_n 2, 1) := by decide +kernel
theorem dL_law_298 : decode cL_law 298 = .ok (.aload_n 0, 1) := by decide +kernel
theorem dL_law_299 : decode cL_law 299 = .ok (.iload 5, 2) := by decide +kernel
theorem dL_law_301 : decode cL_law 301 = .ok (.iconst 1, 1) := by decide +kernel
theorem dL_law_302 : decode cL_law 302 = .ok (.iadd, 1) := by decide +kernel
theorem dL_law_303 : decode cL_law 303 = .ok (.iaload, 1) := by decide +kernel
theorem dL_law_304 : decode cL_law 304 = .ok (.aload_n 0, 1) := by decide +kernel
theorem dL_law_305 : decode cL_law 305 = .ok (.iload 5, 2) := by decide +kernel
theorem dL_law_307 : decode cL_law 307 = .ok (.iconst 2, 1) := by decide +kernel
theorem dL_law_308 : decode cL_law 308 = .ok (.iadd, 1) := by decide +kernel
theorem dL_law_309 : decode cL_law 309 = .ok (.iaload, 1) := by decide +kernel
theorem dL_law_310 : decode cL_law 310 = .ok (.aload_n 0, 1) := by decide +kernel
theorem dL_law_311 : decode cL_law 311 = .ok (.iload 5, 2) := by decide +kernel
theorem dL_law_313 : decode cL_law 313 = .ok (.iconst 3, 1) := by decide +kernel
theorem dL_law_314 : decode cL_law 314 = .ok (.iadd, 1) := by decide +kernel
theorem dL_law_315 : decode cL_law 315 = .ok (.iaload, 1) := by decide +kernel
theorem dL_law_316 : decode cL_law 316 = .ok (.invokevirtual 124, 3) := by decide +kernel
theorem dL_law_319 : decode cL_law 319 = .ok (.istore 7, 2) := by decide +kernel
theorem dL_law_321 : decode cL_law 321 = .ok (.aload_n 2, 1) := by decide +kernel
theorem dL_law_322 : decode cL_law 322 = .ok (.invokevirtual 117, 3) := by decide +kernel
theorem dL_law_325 : decode cL_law 325 = .ok (.iload 6, 2) := by decide +kernel
theorem dL_law_327 : decode cL_law 327 = .ok (.if_icmp .eq 5, 3) := by decide +kernel
theorem dL_law_330 : decode cL_law 330 = .ok (.iconst 0, 1) := by decide +kernel
theorem dL_law_331 : decode cL_law 331 = .ok (.ireturn, 1) := by decide +kernel
theorem dL_law_332 : decode cL_law 332 = .ok (.iload 6, 2) := by decide +kernel
theorem dL_law_334 : decode cL_law 334 = .ok (.ifCond .ne 15, 3) := by decide +kernel
theorem dL_law_337 : decode cL_law 337 = .ok (.aload_n 3, 1) := by decide +kernel
theorem dL_law_338 : decode cL_law 338 = .ok (.iconst 0, 1) := by decide +kernel
theorem dL_law_339 : decode cL_law 339 = .ok (.laload, 1) := by decide +kernel
theorem dL_law_340 : decode cL_law 340 = .ok (.iload 7, 2) := by decide +kernel
theorem dL_law_342 : decode cL_law 342 = .ok (.i2l, 1) := by decide +kernel
theorem dL_law_343 : decode cL_law 343 = .ok (.lcmp, 1) := by decide +kernel
theorem dL_law_344 : decode cL_law 344 = .ok (.ifCond .eq 5, 3) := by decide +kernel
theorem dL_law_347 : decode cL_law 347 = .ok (.iconst 0, 1) := by decide +kernel
theorem dL_law_348 : decode cL_law 348 = .ok (.ireturn, 1) := by decide +kernel
theorem dL_law_349 : decode cL_law 349 = .ok (.goto 1706, 3) := by decide +kernel
theorem dL_law_352 : decode cL_law 352 = .ok (.aload_n 1, 1) := by decide +kernel
theorem dL_law_353 : decode cL_law 353 = .ok (.aload_n 0, 1) := by decide +kernel
theorem dL_law_354 : decode cL_law 354 = .ok (.iload 5, 2) := by decide +kernel
theorem dL_law_356 : decode cL_law 356 = .ok (.iconst 1, 1) := by decide +kernel
theorem dL_law_357 : decode cL_law 357 = .ok (.iadd, 1) := by decide +kernel
theorem dL_law_358 : decode cL_law 358 = .ok (.iaload, 1) := by decide +kernel
theorem dL_law_359 : decode cL_law 359 = .ok (.aload_n 0, 1) := by decide +kernel
theorem dL_law_360 : decode cL_law 360 = .ok (.iload 5, 2) := by decide +kernel
theorem dL_law_362 : decode cL_law 362 = .ok (.iconst 2, 1) := by decide +kernel
theorem dL_law_363 : decode cL_law 363 = .ok (.iadd, 1) := by decide +kernel
theorem dL_law_364 : decode cL_law 364 = .ok (.iaload, 1) := by decide +kernel
theorem dL_law_365 : decode cL_law 365 = .ok (.aload_n 0, 1) := by decide +kernel
theorem dL_law_366 : decode cL_law 366 = .ok (.iload 5, 2) := by decide +kernel
theorem dL_law_368 : decode cL_law 368 = .ok (.iconst 3, 1) := by decide +kernel
theorem dL_law_369 : decode cL_law 369 = .ok (.iadd, 1) := by decide +kernel
theorem dL_law_370 : decode cL_law 370 = .ok (.iaload, 1) := by decide +kernel
theorem dL_law_371 : decode cL_law 371 = .ok (.aload_n 3, 1) := by decide +kernel
theorem dL_law_372 : decode cL_law 372 = .ok (.invokestatic 125, 3) := by decide +kernel
theorem dL_law_375 : decode cL_law 375 = .ok (.istore 6, 2) := by decide +kernel
theorem dL_law_377 : decode cL_law 377 = .ok (.aload_n 2, 1) := by decide +kernel
theorem dL_law_378 : decode cL_law 378 = .ok (.aload_n 0, 1) := by decide +kernel
theorem dL_law_379 : decode cL_law 379 = .ok (.iload 5, 2) := by decide +kernel
theorem dL_law_381 : decode cL_law 381 = .ok (.iconst 1, 1) := by decide +kernel
theorem dL_law_382 : decode cL_law 382 = .ok (.iadd, 1) := by decide +kernel
theorem dL_law_383 : decode cL_law 383 = .ok (.iaload, 1) := by decide +kernel
theorem dL_law_384 : decode cL_law 384 = .ok (.aload_n 0, 1) := by decide +kernel
theorem dL_law_385 : decode cL_law 385 = .ok (.iload 5, 2) := by decide +kernel
theorem dL_law_387 : decode cL_law 387 = .ok (.iconst 2, 1) := by decide +kernel
theorem dL_law_388 : decode cL_law 388 = .ok (.iadd, 1) := by decide +kernel
theorem dL_law_389 : decode cL_law 389 = .ok (.iaload, 1) := by decide +kernel
theorem dL_law_390 : decode cL_law 390 = .ok (.aload_n 0, 1) := by decide +kernel
theorem dL_law_391 : decode cL_law 391 = .ok (.iload 5, 2) := by decide +kernel
theorem dL_law_393 : decode cL_law 393 = .ok (.iconst 3, 1) := by decide +kernel
theorem dL_law_394 : decode cL_law 394 = .ok (.iadd, 1) := by decide +kernel
theorem dL_law_395 : decode cL_law 395 = .ok (.iaload, 1) := by decide +kernel
theorem dL_law_396 : decode cL_law 396 = .ok (.invokevirtual 127, 3) := by decide +kernel
theorem dL_law_399 : decode cL_law 399 = .ok (.istore 7, 2) := by decide +kernel
theorem dL_law_401 : decode cL_law 401 = .ok (.aload_n 2, 1) := by decide +kernel
theorem dL_law_402 : decode cL_law 402 = .ok (.invokevirtual 117, 3) := by decide +kernel
theorem dL_law_405 : decode cL_law 405 = .ok (.iload 6, 2) := by decide +kernel
theorem dL_law_407 : decode cL_law 407 = .ok (.if_icmp .eq 5, 3) := by decide +kernel
theorem dL_law_410 : decode cL_law 410 = .ok (.iconst 0, 1) := by decide +kernel
theorem dL_law_411 : decode cL_law 411 = .ok (.ireturn, 1) := by decide +kernel
theorem dL_law_412 : decode cL_law 412 = .ok (.iload 6, 2) := by decide +kernel
theorem dL_law_414 : decode cL_law 414 = .ok (.ifCond .ne 15, 3) := by decide +kernel
theorem dL_law_417 : decode cL_law 417 = .ok (.aload_n 3, 1) := by decide +kernel
theorem dL_law_418 : decode cL_law 418 = .ok (.iconst 0, 1) := by decide +kernel
theorem dL_law_419 : decode cL_law 419 = .ok (.laload, 1) := by decide +kernel
theorem dL_law_420 : decode cL_law 420 = .ok (.iload 7, 2) := by decide +kernel
theorem dL_law_422 : decode cL_law 422 = .ok (.i2l, 1) := by decide +kernel
theorem dL_law_423 : decode cL_law 423 = .ok (.lcmp, 1) := by decide +kernel
theorem dL_law_424 : decode cL_law 424 = .ok (.ifCond .eq 5, 3) := by decide +kernel
theorem dL_law_427 : decode cL_law 427 = .ok (.iconst 0, 1) := by decide +kernel
theorem dL_law_428 : decode cL_law 428 = .ok (.ireturn, 1) := by decide +kernel
theorem dL_law_429 : decode cL_law 429 = .ok (.goto 1626, 3) := by decide +kernel
theorem dL_law_432 : decode cL_law 432 = .ok (.aload_n 1, 1) := by decide +kernel
theorem dL_law_433 : decode cL_law 433 = .ok (.aload_n 0, 1) := by decide +kernel
theorem dL_law_434 : decode cL_law 434 = .ok (.iload 5, 2) := by decide +kernel
theorem dL_law_436 : decode cL_law 436 = .ok (.iconst 1, 1) := by decide +kernel
theorem dL_law_437 : decode cL_law 437 = .ok (.iadd, 1) := by decide +kernel
theorem dL_law_438 : decode cL_law 438 = .ok (.iaload, 1) := by decide +kernel
theorem dL_law_439 : decode cL_law 439 = .ok (.aload_n 0, 1) := by decide +kernel
theorem dL_law_440 : decode cL_law 440 = .ok (.iload 5, 2) := by decide +kernel
theorem dL_law_442 : decode cL_law 442 = .ok (.iconst 2, 1) := by decide +kernel
theorem dL_law_443 : decode cL_law 443 = .ok (.iadd, 1) := by decide +kernel
theorem dL_law_444 : decode cL_law 444 = .ok (.iaload, 1) := by decide +kernel
theorem dL_law_445 : decode cL_law 445 = .ok (.aload_n 0, 1) := by decide +kernel
theorem dL_law_446 : decode cL_law 446 = .ok (.iload 5, 2) := by decide +kernel
theorem dL_law_448 : decode cL_law 448 = .ok (.iconst 3, 1) := by decide +kernel
theorem dL_law_449 : decode cL_law 449 = .ok (.iadd, 1) := by decide +kernel
theorem dL_law_450 : decode cL_law 450 = .ok (.iaload, 1) := by decide +kernel
theorem dL_law_451 : decode cL_law 451 = .ok (.aload_n 0, 1) := by decide +kernel
theorem dL_law_452 : decode cL_law 452 = .ok (.iload 5, 2) := by decide +kernel
theorem dL_law_454 : decode cL_law 454 = .ok (.iconst 4, 1) := by decide +kernel
theorem dL_law_455 : decode cL_law 455 = .ok (.iadd, 1) := by decide +kernel
theorem dL_law_456 : decode cL_law 456 = .ok (.iaload, 1) := by decide +kernel
theorem dL_law_457 : decode cL_law 457 = .ok (.aload_n 0, 1) := by decide +kernel
theorem dL_law_458 : decode cL_law 458 = .ok (.iload 5, 2) := by decide +kernel
theorem dL_law_460 : decode cL_law 460 = .ok (.iconst 5, 1) := by decide +kernel
theorem dL_law_461 : decode cL_law 461 = .ok (.iadd, 1) := by decide +kernel
theorem dL_law_462 : decode cL_law 462 = .ok (.iaload, 1) := by decide +kernel
theorem dL_law_463 : decode cL_law 463 = .ok (.aload_n 0, 1) := by decide +kernel
theorem dL_law_464 : decode cL_law 464 = .ok (.iload 5, 2) := by decide +kernel
theorem dL_law_466 : decode cL_law 466 = .ok (.bipush 6, 2) := by decide +kernel
theorem dL_law_468 : decode cL_law 468 = .ok (.iadd, 1) := by decide +kernel
theorem dL_law_469 : decode cL_law 469 = .ok (.iaload, 1) := by decide +kernel
theorem dL_law_470 : decode cL_law 470 = .ok (.aload_n 3, 1) := by decide +kernel
theorem dL_law_471 : decode cL_law 471 = .ok (.invokestatic 128, 3) := by decide +kernel
theorem dL_law_474 : decode cL_law 474 = .ok (.istore 6, 2) := by decide +kernel
theorem dL_law_476 : decode cL_law 476 = .ok (.aload_n 2, 1) := by decide +kernel
theorem dL_law_477 : decode cL_law 477 = .ok (.aload_n 0, 1) := by decide +kernel
theorem dL_law_478 : decode cL_law 478 = .ok (.iload 5, 2) := by decide +kernel
theorem dL_law_480 : decode cL_law 480 = .ok (.iconst 1, 1) := by decide +kernel
theorem dL_law_481 : decode cL_law 481 = .ok (.iadd, 1) := by decide +kernel
theorem dL_law_482 : decode cL_law 482 = .ok (.iaload, 1) := by decide +kernel
theorem dL_law_483 : decode cL_law 483 = .ok (.aload_n 0, 1) := by decide +kernel
theorem dL_law_484 : decode cL_law 484 = .ok (.iload 5, 2) := by decide +kernel
theorem dL_law_486 : decode cL_law 486 = .ok (.iconst 2, 1) := by decide +kernel
theorem dL_law_487 : decode cL_law 487 = .ok (.iadd, 1) := by decide +kernel
theorem dL_law_488 : decode cL_law 488 = .ok (.iaload, 1) := by decide +kernel
theorem dL_law_489 : decode cL_law 489 = .ok (.aload_n 0, 1) := by decide +kernel
theorem dL_law_490 : decode cL_law 490 = .ok (.iload 5, 2) := by decide +kernel
theorem dL_law_492 : decode cL_law 492 = .ok (.iconst 3, 1) := by decide +kernel
theorem dL_law_493 : decode cL_law 493 = .ok (.iadd, 1) := by decide +kernel
theorem dL_law_494 : decode cL_law 494 = .ok (.iaload, 1) := by decide +kernel
theorem dL_law_495 : decode cL_law 495 = .ok (.aload_n 0, 1) := by decide +kernel
theorem dL_law_496 : decode cL_law 496 = .ok (.iload 5, 2) := by decide +kernel
theorem dL_law_498 : decode cL_law 498 = .ok (.iconst 4, 1) := by decide +kernel
theorem dL_law_499 : decode cL_law 499 = .ok (.iadd, 1) := by decide +kernel
theorem dL_law_500 : decode cL_law 500 = .ok (.iaload, 1) := by decide +kernel
theorem dL_law_501 : decode cL_law 501 = .ok (.aload_n 0, 1) := by decide +kernel
theorem dL_law_502 : decode cL_law 502 = .ok (.iload 5, 2) := by decide +kernel
theorem dL_law_504 : decode cL_law 504 = .ok (.iconst 5, 1) := by decide +kernel
theorem dL_law_505 : decode cL_law 505 = .ok (.iadd, 1) := by decide +kernel
theorem dL_law_506 : decode cL_law 506 = .ok (.iaload, 1) := by decide +kernel
theorem dL_law_507 : decode cL_law 507 = .ok (.aload_n 0, 1) := by decide +kernel
theorem dL_law_508 : decode cL_law 508 = .ok (.iload 5, 2) := by decide +kernel
theorem dL_law_510 : decode cL_law 510 = .ok (.bipush 6, 2) := by decide +kernel
theorem dL_law_512 : decode cL_law 512 = .ok (.iadd, 1) := by decide +kernel
theorem dL_law_513 : decode cL_law 513 = .ok (.iaload, 1) := by decide +kernel
theorem dL_law_514 : decode cL_law 514 = .ok (.invokevirtual 131, 3) := by decide +kernel
theorem dL_law_517 : decode cL_law 517 = .ok (.istore 7, 2) := by decide +kernel
theorem dL_law_519 : decode cL_law 519 = .ok (.aload_n 2, 1) := by decide +kernel
theorem dL_law_520 : decode cL_law 520 = .ok (.invokevirtual 117, 3) := by decide +kernel
theorem dL_law_523 : decode cL_law 523 = .ok (.iload 6, 2) := by decide +kernel
theorem dL_law_525 : decode cL_law 525 = .ok (.if_icmp .eq 5, 3) := by decide +kernel
theorem dL_law_528 : decode cL_law 528 = .ok (.iconst 0, 1) := by decide +kernel
theorem dL_law_529 : decode cL_law 529 = .ok (.ireturn, 1) := by decide +kernel
theorem dL_law_530 : decode cL_law 530 = .ok (.iload 6, 2) := by decide +kernel
theorem dL_law_532 : decode cL_law 532 = .ok (.ifCond .ne 15, 3) := by decide +kernel
theorem dL_law_535 : decode cL_law 535 = .ok (.aload_n 3, 1) := by decide +kernel
theorem dL_law_536 : decode cL_law 536 = .ok (.iconst 0, 1) := by decide +kernel
theorem dL_law_537 : decode cL_law 537 = .ok (.laload, 1) := by decide +kernel
theorem dL_law_538 : decode cL_law 538 = .ok (.iload 7, 2) := by decide +kernel
theorem dL_law_540 : decode cL_law 540 = .ok (.i2l, 1) := by decide +kernel
theorem dL_law_541 : decode cL_law 541 = .ok (.lcmp, 1) := by decide +kernel
theorem dL_law_542 : decode cL_law 542 = .ok (.ifCond .eq 5, 3) := by decide +kernel
theorem dL_law_545 : decode cL_law 545 = .ok (.iconst 0, 1) := by decide +kernel
theorem dL_law_546 : decode cL_law 546 = .ok (.ireturn, 1) := by decide +kernel
theorem dL_law_547 : decode cL_law 547 = .ok (.goto 1508, 3) := by decide +kernel
theorem dL_law_550 : decode cL_law 550 = .ok (.aload_n 1, 1) := by decide +kernel
theorem dL_law_551 : decode cL_law 551 = .ok (.aload_n 0, 1) := by decide +kernel
theorem dL_law_552 : decode cL_law 552 = .ok (.iload 5, 2) := by decide +kernel
theorem dL_law_554 : decode cL_law 554 = .ok (.iconst 1, 1) := by decide +kernel
theorem dL_law_555 : decode cL_law 555 = .ok (.iadd, 1) := by decide +kernel
theorem dL_law_556 : decode cL_law 556 = .ok (.iaload, 1) := by decide +kernel
theorem dL_law_557 : decode cL_law 557 = .ok (.aload_n 0, 1) := by decide +kernel
theorem dL_law_558 : decode cL_law 558 = .ok (.iload 5, 2) := by decide +kernel
theorem dL_law_560 : decode cL_law 560 = .ok (.iconst 2, 1) := by decide +kernel
theorem dL_law_561 : decode cL_law 561 = .ok (.iadd, 1) := by decide +kernel
theorem dL_law_562 : decode cL_law 562 = .ok (.iaload, 1) := by decide +kernel
theorem dL_law_563 : decode cL_law 563 = .ok (.aload_n 0, 1) := by decide +kernel
theorem dL_law_564 : decode cL_law 564 = .ok (.iload 5, 2) := by decide +kernel
theorem dL_law_566 : decode cL_law 566 = .ok (.iconst 3, 1) := by decide +kernel
theorem dL_law_567 : decode cL_law 567 = .ok (.iadd, 1) := by decide +kernel
theorem dL_law_568 : decode cL_law 568 = .ok (.iaload, 1) := by decide +kernel
theorem dL_law_569 : decode cL_law 569 = .ok (.i2c, 1) := by decide +kernel
theorem dL_law_570 : decode cL_law 570 = .ok (.aload_n 3, 1) := by decide +kernel
theorem dL_law_571 : decode cL_law 571 = .ok (.invokestatic 132, 3) := by decide +kernel
theorem dL_law_574 : decode cL_law 574 = .ok (.istore 6, 2) := by decide +kernel
theorem dL_law_576 : decode cL_law 576 = .ok (.aload_n 2, 1) := by decide +kernel
theorem dL_law_577 : decode cL_law 577 = .ok (.aload_n 0, 1) := by decide +kernel
theorem dL_law_578 : decode cL_law 578 = .ok (.iload 5, 2) := by decide +kernel
theorem dL_law_580 : decode cL_law 580 = .ok (.iconst 1, 1) := by decide +kernel
theorem dL_law_581 : decode cL_law 581 = .ok (.iadd, 1) := by decide +kernel
theorem dL_law_582 : decode cL_law 582 = .ok (.iaload, 1) := by decide +kernel
theorem dL_law_583 : decode cL_law 583 = .ok (.aload_n 0, 1) := by decide +kernel
theorem dL_law_584 : decode cL_law 584 = .ok (.iload 5, 2) := by decide +kernel
theorem dL_law_586 : decode cL_law 586 = .ok (.iconst 2, 1) := by decide +kernel
theorem dL_law_587 : decode cL_law 587 = .ok (.iadd, 1) := by decide +kernel
theorem dL_law_588 : decode cL_law 588 = .ok (.iaload, 1) := by decide +kernel
theorem dL_law_589 : decode cL_law 589 = .ok (.aload_n 0, 1) := by decide +kernel
theorem dL_law_590 : decode cL_law 590 = .ok (.iload 5, 2) := by decide +kernel
theorem dL_law_592 : decode cL_law 592 = .ok (.iconst 3, 1) := by decide +kernel
theorem dL_law_593 : decode cL_law 593 = .ok (.iadd, 1) := by decide +kernel
theorem dL_law_594 : decode cL_law 594 = .ok (.iaload, 1) := by decide +kernel
theorem dL_law_595 : decode cL_law 595 = .ok (.i2c, 1) := by decide +kernel
theorem dL_law_596 : decode cL_law 596 = .ok (.invokevirtual 135, 3) := by decide +kernel
theorem dL_law_599 : decode cL_law 599 = .ok (.istore 7, 2) := by decide +kernel
theorem dL_law_601 : decode cL_law 601 = .ok (.aload_n 2, 1) := by decide +kernel
theorem dL_law_602 : decode cL_law 602 = .ok (.invokevirtual 117, 3) := by decide +kernel
theorem dL_law_605 : decode cL_law 605 = .ok (.iload 6, 2) := by decide +kernel
theorem dL_law_607 : decode cL_law 607 = .ok (.if_icmp .eq 5, 3) := by decide +kernel
theorem dL_law_610 : decode cL_law 610 = .ok (.iconst 0, 1) := by decide +kernel
theorem dL_law_611 : decode cL_law 611 = .ok (.ireturn, 1) := by decide +kernel
theorem dL_law_612 : decode cL_law 612 = .ok (.iload 6, 2) := by decide +kernel
theorem dL_law_614 : decode cL_law 614 = .ok (.ifCond .ne 15, 3) := by decide +kernel
theorem dL_law_617 : decode cL_law 617 = .ok (.aload_n 3, 1) := by decide +kernel
theorem dL_law_618 : decode cL_law 618 = .ok (.iconst 0, 1) := by decide +kernel
theorem dL_law_619 : decode cL_law 619 = .ok (.laload, 1) := by decide +kernel
theorem dL_law_620 : decode cL_law 620 = .ok (.iload 7, 2) := by decide +kernel
theorem dL_law_622 : decode cL_law 622 = .ok (.i2l, 1) := by decide +kernel
theorem dL_law_623 : decode cL_law 623 = .ok (.lcmp, 1) := by decide +kernel
theorem dL_law_624 : decode cL_law 624 = .ok (.ifCond .eq 5, 3) := by decide +kernel
theorem dL_law_627 : decode cL_law 627 = .ok (.iconst 0, 1) := by decide +kernel
theorem dL_law_628 : decode cL_law 628 = .ok (.ireturn, 1) := by decide +kernel
theorem dL_law_629 : decode cL_law 629 = .ok (.goto 1426, 3) := by decide +kernel
theorem dL_law_632 : decode cL_law 632 = .ok (.aload_n 1, 1) := by decide +kernel
theorem dL_law_633 : decode cL_law 633 = .ok (.invokevirtual 136, 3) := by decide +kernel
theorem dL_law_636 : decode cL_law 636 = .ok (.aload_n 2, 1) := by decide +kernel
theorem dL_law_637 : decode cL_law 637 = .ok (.invokevirtual 139, 3) := by decide +kernel
theorem dL_law_640 : decode cL_law 640 = .ok (.if_icmp .eq 1415, 3) := by decide +kernel
theorem dL_law_643 : decode cL_law 643 = .ok (.iconst 0, 1) := by decide +kernel
theorem dL_law_644 : decode cL_law 644 = .ok (.ireturn, 1) := by decide +kernel
theorem dL_law_645 : decode cL_law 645 = .ok (.aload_n 1, 1) := by decide +kernel
theorem dL_law_646 : decode cL_law 646 = .ok (.invokevirtual 140, 3) := by decide +kernel
theorem dL_law_649 : decode cL_law 649 = .ok (.aload_n 2, 1) := by decide +kernel
theorem dL_law_650 : decode cL_law 650 = .ok (.invokevirtual 143, 3) := by decide +kernel
theorem dL_law_653 : decode cL_law 653 = .ok (.if_icmp .eq 1402, 3) := by decide +kernel
theorem dL_law_656 : decode cL_law 656 = .ok (.iconst 0, 1) := by decide +kernel
theorem dL_law_657 : decode cL_law 657 = .ok (.ireturn, 1) := by decide +kernel
theorem dL_law_658 : decode cL_law 658 = .ok (.aload_n 1, 1) := by decide +kernel
theorem dL_law_659 : decode cL_law 659 = .ok (.aload_n 0, 1) := by decide +kernel
theorem dL_law_660 : decode cL_law 660 = .ok (.iload 5, 2) := by decide +kernel
theorem dL_law_662 : decode cL_law 662 = .ok (.iconst 1, 1) := by decide +kernel
theorem dL_law_663 : decode cL_law 663 = .ok (.iadd, 1) := by decide +kernel
theorem dL_law_664 : decode cL_law 664 = .ok (.iaload, 1) := by decide +kernel
theorem dL_law_665 : decode cL_law 665 = .ok (.aload_n 0, 1) := by decide +kernel
theorem dL_law_666 : decode cL_law 666 = .ok (.iload 5, 2) := by decide +kernel
theorem dL_law_668 : decode cL_law 668 = .ok (.iconst 2, 1) := by decide +kernel
theorem dL_law_669 : decode cL_law 669 = .ok (.iadd, 1) := by decide +kernel
theorem dL_law_670 : decode cL_law 670 = .ok (.iaload, 1) := by decide +kernel
theorem dL_law_671 : decode cL_law 671 = .ok (.aload_n 3, 1) := by decide +kernel
theorem dL_law_672 : decode cL_law 672 = .ok (.invokestatic 144, 3) := by decide +kernel
theorem dL_law_675 : decode cL_law 675 = .ok (.istore 6, 2) := by decide +kernel
theorem dL_law_677 : decode cL_law 677 = .ok (.aload_n 2, 1) := by decide +kernel
theorem dL_law_678 : decode cL_law 678 = .ok (.aload_n 0, 1) := by decide +kernel
theorem dL_law_679 : decode cL_law 679 = .ok (.iload 5, 2) := by decide +kernel
theorem dL_law_681 : decode cL_law 681 = .ok (.iconst 1, 1) := by decide +kernel
theorem dL_law_682 : decode cL_law 682 = .ok (.iadd, 1) := by decide +kernel
theorem dL_law_683 : decode cL_law 683 = .ok (.iaload, 1) := by decide +kernel
theorem dL_law_684 : decode cL_law 684 = .ok (.aload_n 0, 1) := by decide +kernel
theorem dL_law_685 : decode cL_law 685 = .ok (.iload 5, 2) := by decide +kernel
theorem dL_law_687 : decode cL_law 687 = .ok (.iconst 2, 1) := by decide +kernel
theorem dL_law_688 : decode cL_law 688 = .ok (.iadd, 1) := by decide +kernel
theorem dL_law_689 : decode cL_law 689 = .ok (.iaload, 1) := by decide +kernel
theorem dL_law_690 : decode cL_law 690 = .ok (.invokevirtual 147, 3) := by decide +kernel
theorem dL_law_693 : decode cL_law 693 = .ok (.istore 7, 2) := by decide +kernel
theorem dL_law_695 : decode cL_law 695 = .ok (.aload_n 2, 1) := by decide +kernel
theorem dL_law_696 : decode cL_law 696 = .ok (.invokevirtual 117, 3) := by decide +kernel
theorem dL_law_699 : decode cL_law 699 = .ok (.iload 6, 2) := by decide +kernel
theorem dL_law_701 : decode cL_law 701 = .ok (.if_icmp .eq 5, 3) := by decide +kernel
theorem dL_law_704 : decode cL_law 704 = .ok (.iconst 0, 1) := by decide +kernel
theorem dL_law_705 : decode cL_law 705 = .ok (.ireturn, 1) := by decide +kernel
theorem dL_law_706 : decode cL_law 706 = .ok (.iload 6, 2) := by decide +kernel
theorem dL_law_708 : decode cL_law 708 = .ok (.ifCond .ne 15, 3) := by decide +kernel
theorem dL_law_711 : decode cL_law 711 = .ok (.aload_n 3, 1) := by decide +kernel
theorem dL_law_712 : decode cL_law 712 = .ok (.iconst 0, 1) := by decide +kernel
theorem dL_law_713 : decode cL_law 713 = .ok (.laload, 1) := by decide +kernel
theorem dL_law_714 : decode cL_law 714 = .ok (.iload 7, 2) := by decide +kernel
theorem dL_law_716 : decode cL_law 716 = .ok (.i2l, 1) := by decide +kernel
theorem dL_law_717 : decode cL_law 717 = .ok (.lcmp, 1) := by decide +kernel
theorem dL_law_718 : decode cL_law 718 = .ok (.ifCond .eq 5, 3) := by decide +kernel
theorem dL_law_721 : decode cL_law 721 = .ok (.iconst 0, 1) := by decide +kernel
theorem dL_law_722 : decode cL_law 722 = .ok (.ireturn, 1) := by decide +kernel
theorem dL_law_723 : decode cL_law 723 = .ok (.goto 1332, 3) := by decide +kernel
theorem dL_law_726 : decode cL_law 726 = .ok (.aload_n 1, 1) := by decide +kernel
theorem dL_law_727 : decode cL_law 727 = .ok (.aload_n 0, 1) := by decide +kernel
theorem dL_law_728 : decode cL_law 728 = .ok (.iload 5, 2) := by decide +kernel
theorem dL_law_730 : decode cL_law 730 = .ok (.iconst 1, 1) := by decide +kernel
theorem dL_law_731 : decode cL_law 731 = .ok (.iadd, 1) := by decide +kernel
theorem dL_law_732 : decode cL_law 732 = .ok (.iaload, 1) := by decide +kernel
theorem dL_law_733 : decode cL_law 733 = .ok (.aload_n 0, 1) := by decide +kernel
theorem dL_law_734 : decode cL_law 734 = .ok (.iload 5, 2) := by decide +kernel
theorem dL_law_736 : decode cL_law 736 = .ok (.iconst 2, 1) := by decide +kernel
theorem dL_law_737 : decode cL_law 737 = .ok (.iadd, 1) := by decide +kernel
theorem dL_law_738 : decode cL_law 738 = .ok (.iaload, 1) := by decide +kernel
theorem dL_law_739 : decode cL_law 739 = .ok (.aload_n 3, 1) := by decide +kernel
theorem dL_law_740 : decode cL_law 740 = .ok (.invokestatic 148, 3) := by decide +kernel
theorem dL_law_743 : decode cL_law 743 = .ok (.istore 6, 2) := by decide +kernel
theorem dL_law_745 : decode cL_law 745 = .ok (.aload_n 2, 1) := by decide +kernel
theorem dL_law_746 : decode cL_law 746 = .ok (.aload_n 0, 1) := by decide +kernel
theorem dL_law_747 : decode cL_law 747 = .ok (.iload 5, 2) := by decide +kernel
theorem dL_law_749 : decode cL_law 749 = .ok (.iconst 1, 1) := by decide +kernel
theorem dL_law_750 : decode cL_law 750 = .ok (.iadd, 1) := by decide +kernel
theorem dL_law_751 : decode cL_law 751 = .ok (.iaload, 1) := by decide +kernel
theorem dL_law_752 : decode cL_law 752 = .ok (.aload_n 0, 1) := by decide +kernel
theorem dL_law_753 : decode cL_law 753 = .ok (.iload 5, 2) := by decide +kernel
theorem dL_law_755 : decode cL_law 755 = .ok (.iconst 2, 1) := by decide +kernel
theorem dL_law_756 : decode cL_law 756 = .ok (.iadd, 1) := by decide +kernel
theorem dL_law_757 : decode cL_law 757 = .ok (.iaload, 1) := by decide +kernel
theorem dL_law_758 : decode cL_law 758 = .ok (.invokevirtual 150, 3) := by decide +kernel
theorem dL_law_761 : decode cL_law 761 = .ok (.istore 7, 2) := by decide +kernel
theorem dL_law_763 : decode cL_law 763 = .ok (.aload_n 2, 1) := by decide +kernel
theorem dL_law_764 : decode cL_law 764 = .ok (.invokevirtual 117, 3) := by decide +kernel
theorem dL_law_767 : decode cL_law 767 = .ok (.iload 6, 2) := by decide +kernel
theorem dL_law_769 : decode cL_law 769 = .ok (.if_icmp .eq 5, 3) := by decide +kernel
theorem dL_law_772 : decode cL_law 772 = .ok (.iconst 0, 1) := by decide +kernel
theorem dL_law_773 : decode cL_law 773 = .ok (.ireturn, 1) := by decide +kernel
theorem dL_law_774 : decode cL_law 774 = .ok (.iload 6, 2) := by decide +kernel
theorem dL_law_776 : decode cL_law 776 = .ok (.ifCond .ne 22, 3) := by decide +kernel
theorem dL_law_779 : decode cL_law 779 = .ok (.aload_n 3, 1) := by decide +kernel
theorem dL_law_780 : decode cL_law 780 = .ok (.iconst 0, 1) := by decide +kernel
theorem dL_law_781 : decode cL_law 781 = .ok (.laload, 1) := by decide +kernel
theorem dL_law_782 : decode cL_law 782 = .ok (.iload 7, 2) := by decide +kernel
theorem dL_law_784 : decode cL_law 784 = .ok (.ifCond .eq 7, 3) := by decide +kernel
theorem dL_law_787 : decode cL_law 787 = .ok (.lconst 1, 1) := by decide +kernel
theorem dL_law_788 : decode cL_law 788 = .ok (.goto 4, 3) := by decide +kernel
theorem dL_law_791 : decode cL_law 791 = .ok (.lconst 0, 1) := by decide +kernel
theorem dL_law_792 : decode cL_law 792 = .ok (.lcmp, 1) := by decide +kernel
theorem dL_law_793 : decode cL_law 793 = .ok (.ifCond .eq 5, 3) := by decide +kernel
theorem dL_law_796 : decode cL_law 796 = .ok (.iconst 0, 1) := by decide +kernel
theorem dL_law_797 : decode cL_law 797 = .ok (.ireturn, 1) := by decide +kernel
theorem dL_law_798 : decode cL_law 798 = .ok (.goto 1257, 3) := by decide +kernel
theorem dL_law_801 : decode cL_law 801 = .ok (.aload_n 1, 1) := by decide +kernel
theorem dL_law_802 : decode cL_law 802 = .ok (.aload_n 0, 1) := by decide +kernel
theorem dL_law_803 : decode cL_law 803 = .ok (.iload 5, 2) := by decide +kernel
theorem dL_law_805 : decode cL_law 805 = .ok (.iconst 1, 1) := by decide +kernel
theorem dL_law_806 : decode cL_law 806 = .ok (.iadd, 1) := by decide +kernel
theorem dL_law_807 : decode cL_law 807 = .ok (.iaload, 1) := by decide +kernel
theorem dL_law_808 : decode cL_law 808 = .ok (.aload_n 0, 1) := by decide +kernel
theorem dL_law_809 : decode cL_law 809 = .ok (.iload 5, 2) := by decide +kernel
theorem dL_law_811 : decode cL_law 811 = .ok (.iconst 2, 1) := by decide +kernel
theorem dL_law_812 : decode cL_law 812 = .ok (.iadd, 1) := by decide +kernel
theorem dL_law_813 : decode cL_law 813 = .ok (.iaload, 1) := by decide +kernel
theorem dL_law_814 : decode cL_law 814 = .ok (.aload_n 0, 1) := by decide +kernel
theorem dL_law_815 : decode cL_law 815 = .ok (.iload 5, 2) := by decide +kernel
theorem dL_law_817 : decode cL_law 817 = .ok (.iconst 3, 1) := by decide +kernel
theorem dL_law_818 : decode cL_law 818 = .ok (.iadd, 1) := by decide +kernel
theorem dL_law_819 : decode cL_law 819 = .ok (.iaload, 1) := by decide +kernel
theorem dL_law_820 : decode cL_law 820 = .ok (.aload_n 3, 1) := by decide +kernel
theorem dL_law_821 : decode cL_law 821 = .ok (.invokestatic 151, 3) := by decide +kernel
theorem dL_law_824 : decode cL_law 824 = .ok (.istore 6, 2) := by decide +kernel
theorem dL_law_826 : decode cL_law 826 = .ok (.aload_n 2, 1) := by decide +kernel
theorem dL_law_827 : decode cL_law 827 = .ok (.aload_n 0, 1) := by decide +kernel
theorem dL_law_828 : decode cL_law 828 = .ok (.iload 5, 2) := by decide +kernel
theorem dL_law_830 : decode cL_law 830 = .ok (.iconst 1, 1) := by decide +kernel
theorem dL_law_831 : decode cL_law 831 = .ok (.iadd, 1) := by decide +kernel
theorem dL_law_832 : decode cL_law 832 = .ok (.iaload, 1) := by decide +kernel
theorem dL_law_833 : decode cL_law 833 = .ok (.aload_n 0, 1) := by decide +kernel
theorem dL_law_834 : decode cL_law 834 = .ok (.iload 5, 2) := by decide +kernel
theorem dL_law_836 : decode cL_law 836 = .ok (.iconst 2, 1) := by decide +kernel
theorem dL_law_837 : decode cL_law 837 = .ok (.iadd, 1) := by decide +kernel
theorem dL_law_838 : decode cL_law 838 = .ok (.iaload, 1) := by decide +kernel
theorem dL_law_839 : decode cL_law 839 = .ok (.aload_n 0, 1) := by decide +kernel
theorem dL_law_840 : decode cL_law 840 = .ok (.iload 5, 2) := by decide +kernel
theorem dL_law_842 : decode cL_law 842 = .ok (.iconst 3, 1) := by decide +kernel
theorem dL_law_843 : decode cL_law 843 = .ok (.iadd, 1) := by decide +kernel
theorem dL_law_844 : decode cL_law 844 = .ok (.iaload, 1) := by decide +kernel
theorem dL_law_845 : decode cL_law 845 = .ok (.invokevirtual 153, 3) := by decide +kernel
theorem dL_law_848 : decode cL_law 848 = .ok (.istore 7, 2) := by decide +kernel
theorem dL_law_850 : decode cL_law 850 = .ok (.aload_n 2, 1) := by decide +kernel
theorem dL_law_851 : decode cL_law 851 = .ok (.invokevirtual 117, 3) := by decide +kernel
theorem dL_law_854 : decode cL_law 854 = .ok (.iload 6, 2) := by decide +kernel
theorem dL_law_856 : decode cL_law 856 = .ok (.if_icmp .eq 5, 3) := by decide +kernel
theorem dL_law_859 : decode cL_law 859 = .ok (.iconst 0, 1) := by decide +kernel
theorem dL_law_860 : decode cL_law 860 = .ok (.ireturn, 1) := by decide +kernel
theorem dL_law_861 : decode cL_law 861 = .ok (.iload 6, 2) := by decide +kernel
theorem dL_law_863 : decode cL_law 863 = .ok (.ifCond .ne 15, 3) := by decide +kernel
theorem dL_law_866 : decode cL_law 866 = .ok (.aload_n 3, 1) := by decide +kernel
theorem dL_law_867 : decode cL_law 867 = .ok (.iconst 0, 1) := by decide +kernel
theorem dL_law_868 : decode cL_law 868 = .ok (.laload, 1) := by decide +kernel
theorem dL_law_869 : decode cL_law 869 = .ok (.iload 7, 2) := by decide +kernel
theorem dL_law_871 : decode cL_law 871 = .ok (.i2l, 1) := by decide +kernel
theorem dL_law_872 : decode cL_law 872 = .ok (.lcmp, 1) := by decide +kernel
theorem dL_law_873 : decode cL_law 873 = .ok (.ifCond .eq 5, 3) := by decide +kernel
theorem dL_law_876 : decode cL_law 876 = .ok (.iconst 0, 1) := by decide +kernel
theorem dL_law_877 : decode cL_law 877 = .ok (.ireturn, 1) := by decide +kernel
theorem dL_law_878 : decode cL_law 878 = .ok (.goto 1177, 3) := by decide +kernel
theorem dL_law_881 : decode cL_law 881 = .ok (.aload_n 1, 1) := by decide +kernel
theorem dL_law_882 : decode cL_law 882 = .ok (.aload_n 0, 1) := by decide +kernel
theorem dL_law_883 : decode cL_law 883 = .ok (.iload 5, 2) := by decide +kernel
theorem dL_law_885 : decode cL_law 885 = .ok (.iconst 1, 1) := by decide +kernel
theorem dL_law_886 : decode cL_law 886 = .ok (.iadd, 1) := by decide +kernel
theorem dL_law_887 : decode cL_law 887 = .ok (.iaload, 1) := by decide +kernel
theorem dL_law_888 : decode cL_law 888 = .ok (.aload_n 0, 1) := by decide +kernel
theorem dL_law_889 : decode cL_law 889 = .ok (.iload 5, 2) := by decide +kernel
theorem dL_law_891 : decode cL_law 891 = .ok (.iconst 2, 1) := by decide +kernel
theorem dL_law_892 : decode cL_law 892 = .ok (.iadd, 1) := by decide +kernel
theorem dL_law_893 : decode cL_law 893 = .ok (.iaload, 1) := by decide +kernel
theorem dL_law_894 : decode cL_law 894 = .ok (.aload_n 3, 1) := by decide +kernel
theorem dL_law_895 : decode cL_law 895 = .ok (.invokestatic 154, 3) := by decide +kernel
theorem dL_law_898 : decode cL_law 898 = .ok (.istore 6, 2) := by decide +kernel
theorem dL_law_900 : decode cL_law 900 = .ok (.aload_n 2, 1) := by decide +kernel
theorem dL_law_901 : decode cL_law 901 = .ok (.aload_n 0, 1) := by decide +kernel
theorem dL_law_902 : decode cL_law 902 = .ok (.iload 5, 2) := by decide +kernel
theorem dL_law_904 : decode cL_law 904 = .ok (.iconst 1, 1) := by decide +kernel
theorem dL_law_905 : decode cL_law 905 = .ok (.iadd, 1) := by decide +kernel
theorem dL_law_906 : decode cL_law 906 = .ok (.iaload, 1) := by decide +kernel
theorem dL_law_907 : decode cL_law 907 = .ok (.aload_n 0, 1) := by decide +kernel
theorem dL_law_908 : decode cL_law 908 = .ok (.iload 5, 2) := by decide +kernel
theorem dL_law_910 : decode cL_law 910 = .ok (.iconst 2, 1) := by decide +kernel
theorem dL_law_911 : decode cL_law 911 = .ok (.iadd, 1) := by decide +kernel
theorem dL_law_912 : decode cL_law 912 = .ok (.iaload, 1) := by decide +kernel
theorem dL_law_913 : decode cL_law 913 = .ok (.invokevirtual 156, 3) := by decide +kernel
theorem dL_law_916 : decode cL_law 916 = .ok (.istore 7, 2) := by decide +kernel
theorem dL_law_918 : decode cL_law 918 = .ok (.aload_n 2, 1) := by decide +kernel
theorem dL_law_919 : decode cL_law 919 = .ok (.invokevirtual 117, 3) := by decide +kernel
theorem dL_law_922 : decode cL_law 922 = .ok (.iload 6, 2) := by decide +kernel
theorem dL_law_924 : decode cL_law 924 = .ok (.if_icmp .eq 5, 3) := by decide +kernel
theorem dL_law_927 : decode cL_law 927 = .ok (.iconst 0, 1) := by decide +kernel
theorem dL_law_928 : decode cL_law 928 = .ok (.ireturn, 1) := by decide +kernel
theorem dL_law_929 : decode cL_law 929 = .ok (.iload 6, 2) := by decide +kernel
theorem dL_law_931 : decode cL_law 931 = .ok (.ifCond .ne 15, 3) := by decide +kernel
theorem dL_law_934 : decode cL_law 934 = .ok (.aload_n 3, 1) := by decide +kernel
theorem dL_law_935 : decode cL_law 935 = .ok (.iconst 0, 1) := by decide +kernel
theorem dL_law_936 : decode cL_law 936 = .ok (.laload, 1) := by decide +kernel
theorem dL_law_937 : decode cL_law 937 = .ok (.iload 7, 2) := by decide +kernel
theorem dL_law_939 : decode cL_law 939 = .ok (.i2l, 1) := by decide +kernel
theorem dL_law_940 : decode cL_law 940 = .ok (.lcmp, 1) := by decide +kernel
theorem dL_law_941 : decode cL_law 941 = .ok (.ifCond .eq 5, 3) := by decide +kernel
theorem dL_law_944 : decode cL_law 944 = .ok (.iconst 0, 1) := by decide +kernel
theorem dL_law_945 : decode cL_law 945 = .ok (.ireturn, 1) := by decide +kernel
theorem dL_law_946 : decode cL_law 946 = .ok (.goto 1109, 3) := by decide +kernel
theorem dL_law_949 : decode cL_law 949 = .ok (.aload_n 1, 1) := by decide +kernel
theorem dL_law_950 : decode cL_law 950 = .ok (.aload_n 0, 1) := by decide +kernel
theorem dL_law_951 : decode cL_law 951 = .ok (.iload 5, 2) := by decide +kernel
theorem dL_law_953 : decode cL_law 953 = .ok (.iconst 1, 1) := by decide +kernel
theorem dL_law_954 : decode cL_law 954 = .ok (.iadd, 1) := by decide +kernel
theorem dL_law_955 : decode cL_law 955 = .ok (.iaload, 1) := by decide +kernel
theorem dL_law_956 : decode cL_law 956 = .ok (.aload_n 3, 1) := by decide +kernel
theorem dL_law_957 : decode cL_law 957 = .ok (.invokestatic 157, 3) := by decide +kernel
theorem dL_law_960 : decode cL_law 960 = .ok (.istore 6, 2) := by decide +kernel
theorem dL_law_962 : decode cL_law 962 = .ok (.aload_n 2, 1) := by decide +kernel
theorem dL_law_963 : decode cL_law 963 = .ok (.aload_n 0, 1) := by decide +kernel
theorem dL_law_964 : decode cL_law 964 = .ok (.iload 5, 2) := by decide +kernel
theorem dL_law_966 : decode cL_law 966 = .ok (.iconst 1, 1) := by decide +kernel
theorem dL_law_967 : decode cL_law 967 = .ok (.iadd, 1) := by decide +kernel
theorem dL_law_968 : decode cL_law 968 = .ok (.iaload, 1) := by decide +kernel
theorem dL_law_969 : decode cL_law 969 = .ok (.invokevirtual 160, 3) := by decide +kernel
theorem dL_law_972 : decode cL_law 972 = .ok (.istore 7, 2) := by decide +kernel
theorem dL_law_974 : decode cL_law 974 = .ok (.aload_n 2, 1) := by decide +kernel
theorem dL_law_975 : decode cL_law 975 = .ok (.invokevirtual 117, 3) := by decide +kernel
theorem dL_law_978 : decode cL_law 978 = .ok (.iload 6, 2) := by decide +kernel
theorem dL_law_980 : decode cL_law 980 = .ok (.if_icmp .eq 5, 3) := by decide +kernel
theorem dL_law_983 : decode cL_law 983 = .ok (.iconst 0, 1) := by decide +kernel
theorem dL_law_984 : decode cL_law 984 = .ok (.ireturn, 1) := by decide +kernel
theorem dL_law_985 : decode cL_law 985 = .ok (.iload 6, 2) := by decide +kernel
theorem dL_law_987 : decode cL_law 987 = .ok (.ifCond .ne 15, 3) := by decide +kernel
theorem dL_law_990 : decode cL_law 990 = .ok (.aload_n 3, 1) := by decide +kernel
theorem dL_law_991 : decode cL_law 991 = .ok (.iconst 0, 1) := by decide +kernel
theorem dL_law_992 : decode cL_law 992 = .ok (.laload, 1) := by decide +kernel
theorem dL_law_993 : decode cL_law 993 = .ok (.iload 7, 2) := by decide +kernel
theorem dL_law_995 : decode cL_law 995 = .ok (.i2l, 1) := by decide +kernel
theorem dL_law_996 : decode cL_law 996 = .ok (.lcmp, 1) := by decide +kernel
theorem dL_law_997 : decode cL_law 997 = .ok (.ifCond .eq 5, 3) := by decide +kernel
theorem dL_law_1000 : decode cL_law 1000 = .ok (.iconst 0, 1) := by decide +kernel
theorem dL_law_1001 : decode cL_law 1001 = .ok (.ireturn, 1) := by decide +kernel
theorem dL_law_1002 : decode cL_law 1002 = .ok (.goto 1053, 3) := by decide +kernel
theorem dL_law_1005 : decode cL_law 1005 = .ok (.aload_n 1, 1) := by decide +kernel
theorem dL_law_1006 : decode cL_law 1006 = .ok (.aload_n 0, 1) := by decide +kernel
theorem dL_law_1007 : decode cL_law 1007 = .ok (.iload 5, 2) := by decide +kernel
theorem dL_law_1009 : decode cL_law 1009 = .ok (.iconst 1, 1) := by decide +kernel
theorem dL_law_1010 : decode cL_law 1010 = .ok (.iadd, 1) := by decide +kernel
theorem dL_law_1011 : decode cL_law 1011 = .ok (.iaload, 1) := by decide +kernel
theorem dL_law_1012 : decode cL_law 1012 = .ok (.aload_n 3, 1) := by decide +kernel
theorem dL_law_1013 : decode cL_law 1013 = .ok (.invokestatic 161, 3) := by decide +kernel
theorem dL_law_1016 : decode cL_law 1016 = .ok (.istore 6, 2) := by decide +kernel
theorem dL_law_1018 : decode cL_law 1018 = .ok (.aload_n 2, 1) := by decide +kernel
theorem dL_law_1019 : decode cL_law 1019 = .ok (.aload_n 0, 1) := by decide +kernel
theorem dL_law_1020 : decode cL_law 1020 = .ok (.iload 5, 2) := by decide +kernel
theorem dL_law_1022 : decode cL_law 1022 = .ok (.iconst 1, 1) := by decide +kernel
theorem dL_law_1023 : decode cL_law 1023 = .ok (.iadd, 1) := by decide +kernel
theorem dL_law_1024 : decode cL_law 1024 = .ok (.iaload, 1) := by decide +kernel
theorem dL_law_1025 : decode cL_law 1025 = .ok (.invokevirtual 163, 3) := by decide +kernel
theorem dL_law_1028 : decode cL_law 1028 = .ok (.istore 7, 2) := by decide +kernel
theorem dL_law_1030 : decode cL_law 1030 = .ok (.aload_n 2, 1) := by decide +kernel
theorem dL_law_1031 : decode cL_law 1031 = .ok (.invokevirtual 117, 3) := by decide +kernel
theorem dL_law_1034 : decode cL_law 1034 = .ok (.iload 6, 2) := by decide +kernel
theorem dL_law_1036 : decode cL_law 1036 = .ok (.if_icmp .eq 5, 3) := by decide +kernel
theorem dL_law_1039 : decode cL_law 1039 = .ok (.iconst 0, 1) := by decide +kernel
theorem dL_law_1040 : decode cL_law 1040 = .ok (.ireturn, 1) := by decide +kernel
theorem dL_law_1041 : decode cL_law 1041 = .ok (.iload 6, 2) := by decide +kernel
theorem dL_law_1043 : decode cL_law 1043 = .ok (.ifCond .ne 15, 3) := by decide +kernel
theorem dL_law_1046 : decode cL_law 1046 = .ok (.aload_n 3, 1) := by decide +kernel
theorem dL_law_1047 : decode cL_law 1047 = .ok (.iconst 0, 1) := by decide +kernel
theorem dL_law_1048 : decode cL_law 1048 = .ok (.laload, 1) := by decide +kernel
theorem dL_law_1049 : decode cL_law 1049 = .ok (.iload 7, 2) := by decide +kernel
theorem dL_law_1051 : decode cL_law 1051 = .ok (.i2l, 1) := by decide +kernel
theorem dL_law_1052 : decode cL_law 1052 = .ok (.lcmp, 1) := by decide +kernel
theorem dL_law_1053 : decode cL_law 1053 = .ok (.ifCond .eq 5, 3) := by decide +kernel
theorem dL_law_1056 : decode cL_law 1056 = .ok (.iconst 0, 1) := by decide +kernel
theorem dL_law_1057 : decode cL_law 1057 = .ok (.ireturn, 1) := by decide +kernel
theorem dL_law_1058 : decode cL_law 1058 = .ok (.goto 997, 3) := by decide +kernel
theorem dL_law_1061 : decode cL_law 1061 = .ok (.aload_n 1, 1) := by decide +kernel
theorem dL_law_1062 : decode cL_law 1062 = .ok (.aload_n 0, 1) := by decide +kernel
theorem dL_law_1063 : decode cL_law 1063 = .ok (.iload 5, 2) := by decide +kernel
theorem dL_law_1065 : decode cL_law 1065 = .ok (.iconst 1, 1) := by decide +kernel
theorem dL_law_1066 : decode cL_law 1066 = .ok (.iadd, 1) := by decide +kernel
theorem dL_law_1067 : decode cL_law 1067 = .ok (.iaload, 1) := by decide +kernel
theorem dL_law_1068 : decode cL_law 1068 = .ok (.aload_n 3, 1) := by decide +kernel
theorem dL_law_1069 : decode cL_law 1069 = .ok (.invokestatic 164, 3) := by decide +kernel
theorem dL_law_1072 : decode cL_law 1072 = .ok (.istore 6, 2) := by decide +kernel
theorem dL_law_1074 : decode cL_law 1074 = .ok (.aload_n 2, 1) := by decide +kernel
theorem dL_law_1075 : decode cL_law 1075 = .ok (.aload_n 0, 1) := by decide +kernel
theorem dL_law_1076 : decode cL_law 1076 = .ok (.iload 5, 2) := by decide +kernel
theorem dL_law_1078 : decode cL_law 1078 = .ok (.iconst 1, 1) := by decide +kernel
theorem dL_law_1079 : decode cL_law 1079 = .ok (.iadd, 1) := by decide +kernel
theorem dL_law_1080 : decode cL_law 1080 = .ok (.iaload, 1) := by decide +kernel
theorem dL_law_1081 : decode cL_law 1081 = .ok (.invokevirtual 166, 3) := by decide +kernel
theorem dL_law_1084 : decode cL_law 1084 = .ok (.istore 7, 2) := by decide +kernel
theorem dL_law_1086 : decode cL_law 1086 = .ok (.aload_n 2, 1) := by decide +kernel
theorem dL_law_1087 : decode cL_law 1087 = .ok (.invokevirtual 117, 3) := by decide +kernel
theorem dL_law_1090 : decode cL_law 1090 = .ok (.iload 6, 2) := by decide +kernel
theorem dL_law_1092 : decode cL_law 1092 = .ok (.if_icmp .eq 5, 3) := by decide +kernel
theorem dL_law_1095 : decode cL_law 1095 = .ok (.iconst 0, 1) := by decide +kernel
theorem dL_law_1096 : decode cL_law 1096 = .ok (.ireturn, 1) := by decide +kernel
theorem dL_law_1097 : decode cL_law 1097 = .ok (.iload 6, 2) := by decide +kernel
theorem dL_law_1099 : decode cL_law 1099 = .ok (.ifCond .ne 15, 3) := by decide +kernel
theorem dL_law_1102 : decode cL_law 1102 = .ok (.aload_n 3, 1) := by decide +kernel
theorem dL_law_1103 : decode cL_law 1103 = .ok (.iconst 0, 1) := by decide +kernel
theorem dL_law_1104 : decode cL_law 1104 = .ok (.laload, 1) := by decide +kernel
theorem dL_law_1105 : decode cL_law 1105 = .ok (.iload 7, 2) := by decide +kernel
theorem dL_law_1107 : decode cL_law 1107 = .ok (.i2l, 1) := by decide +kernel
theorem dL_law_1108 : decode cL_law 1108 = .ok (.lcmp, 1) := by decide +kernel
theorem dL_law_1109 : decode cL_law 1109 = .ok (.ifCond .eq 5, 3) := by decide +kernel
theorem dL_law_1112 : decode cL_law 1112 = .ok (.iconst 0, 1) := by decide +kernel
theorem dL_law_1113 : decode cL_law 1113 = .ok (.ireturn, 1) := by decide +kernel
theorem dL_law_1114 : decode cL_law 1114 = .ok (.goto 941, 3) := by decide +kernel
theorem dL_law_1117 : decode cL_law 1117 = .ok (.aload_n 1, 1) := by decide +kernel
theorem dL_law_1118 : decode cL_law 1118 = .ok (.aload_n 0, 1) := by decide +kernel
theorem dL_law_1119 : decode cL_law 1119 = .ok (.iload 5, 2) := by decide +kernel
theorem dL_law_1121 : decode cL_law 1121 = .ok (.iconst 1, 1) := by decide +kernel
theorem dL_law_1122 : decode cL_law 1122 = .ok (.iadd, 1) := by decide +kernel
theorem dL_law_1123 : decode cL_law 1123 = .ok (.iaload, 1) := by decide +kernel
theorem dL_law_1124 : decode cL_law 1124 = .ok (.aload_n 3, 1) := by decide +kernel
theorem dL_law_1125 : decode cL_law 1125 = .ok (.invokestatic 167, 3) := by decide +kernel
theorem dL_law_1128 : decode cL_law 1128 = .ok (.istore 6, 2) := by decide +kernel
theorem dL_law_1130 : decode cL_law 1130 = .ok (.aload_n 2, 1) := by decide +kernel
theorem dL_law_1131 : decode cL_law 1131 = .ok (.aload_n 0, 1) := by decide +kernel
theorem dL_law_1132 : decode cL_law 1132 = .ok (.iload 5, 2) := by decide +kernel
theorem dL_law_1134 : decode cL_law 1134 = .ok (.iconst 1, 1) := by decide +kernel
theorem dL_law_1135 : decode cL_law 1135 = .ok (.iadd, 1) := by decide +kernel
theorem dL_law_1136 : decode cL_law 1136 = .ok (.iaload, 1) := by decide +kernel
theorem dL_law_1137 : decode cL_law 1137 = .ok (.invokevirtual 169, 3) := by decide +kernel
theorem dL_law_1140 : decode cL_law 1140 = .ok (.istore 7, 2) := by decide +kernel
theorem dL_law_1142 : decode cL_law 1142 = .ok (.aload_n 2, 1) := by decide +kernel
theorem dL_law_1143 : decode cL_law 1143 = .ok (.invokevirtual 117, 3) := by decide +kernel
theorem dL_law_1146 : decode cL_law 1146 = .ok (.iload 6, 2) := by decide +kernel
theorem dL_law_1148 : decode cL_law 1148 = .ok (.if_icmp .eq 5, 3) := by decide +kernel
theorem dL_law_1151 : decode cL_law 1151 = .ok (.iconst 0, 1) := by decide +kernel
theorem dL_law_1152 : decode cL_law 1152 = .ok (.ireturn, 1) := by decide +kernel
theorem dL_law_1153 : decode cL_law 1153 = .ok (.iload 6, 2) := by decide +kernel
theorem dL_law_1155 : decode cL_law 1155 = .ok (.ifCond .ne 15, 3) := by decide +kernel
theorem dL_law_1158 : decode cL_law 1158 = .ok (.aload_n 3, 1) := by decide +kernel
theorem dL_law_1159 : decode cL_law 1159 = .ok (.iconst 0, 1) := by decide +kernel
theorem dL_law_1160 : decode cL_law 1160 = .ok (.laload, 1) := by decide +kernel
theorem dL_law_1161 : decode cL_law 1161 = .ok (.iload 7, 2) := by decide +kernel
theorem dL_law_1163 : decode cL_law 1163 = .ok (.i2l, 1) := by decide +kernel
theorem dL_law_1164 : decode cL_law 1164 = .ok (.lcmp, 1) := by decide +kernel
theorem dL_law_1165 : decode cL_law 1165 = .ok (.ifCond .eq 5, 3) := by decide +kernel
theorem dL_law_1168 : decode cL_law 1168 = .ok (.iconst 0, 1) := by decide +kernel
theorem dL_law_1169 : decode cL_law 1169 = .ok (.ireturn, 1) := by decide +kernel
theorem dL_law_1170 : decode cL_law 1170 = .ok (.goto 885, 3) := by decide +kernel
theorem dL_law_1173 : decode cL_law 1173 = .ok (.aload_n 1, 1) := by decide +kernel
theorem dL_law_1174 : decode cL_law 1174 = .ok (.aload_n 0, 1) := by decide +kernel
theorem dL_law_1175 : decode cL_law 1175 = .ok (.iload 5, 2) := by decide +kernel
theorem dL_law_1177 : decode cL_law 1177 = .ok (.iconst 1, 1) := by decide +kernel
theorem dL_law_1178 : decode cL_law 1178 = .ok (.iadd, 1) := by decide +kernel
theorem dL_law_1179 : decode cL_law 1179 = .ok (.iaload, 1) := by decide +kernel
theorem dL_law_1180 : decode cL_law 1180 = .ok (.aload_n 0, 1) := by decide +kernel
theorem dL_law_1181 : decode cL_law 1181 = .ok (.iload 5, 2) := by decide +kernel
theorem dL_law_1183 : decode cL_law 1183 = .ok (.iconst 2, 1) := by decide +kernel
theorem dL_law_1184 : decode cL_law 1184 = .ok (.iadd, 1) := by decide +kernel
theorem dL_law_1185 : decode cL_law 1185 = .ok (.iaload, 1) := by decide +kernel
theorem dL_law_1186 : decode cL_law 1186 = .ok (.aload_n 3, 1) := by decide +kernel
theorem dL_law_1187 : decode cL_law 1187 = .ok (.invokestatic 170, 3) := by decide +kernel
theorem dL_law_1190 : decode cL_law 1190 = .ok (.istore 6, 2) := by decide +kernel
theorem dL_law_1192 : decode cL_law 1192 = .ok (.aload_n 2, 1) := by decide +kernel
theorem dL_law_1193 : decode cL_law 1193 = .ok (.aload_n 0, 1) := by decide +kernel
theorem dL_law_1194 : decode cL_law 1194 = .ok (.iload 5, 2) := by decide +kernel
theorem dL_law_1196 : decode cL_law 1196 = .ok (.iconst 1, 1) := by decide +kernel
theorem dL_law_1197 : decode cL_law 1197 = .ok (.iadd, 1) := by decide +kernel
theorem dL_law_1198 : decode cL_law 1198 = .ok (.iaload, 1) := by decide +kernel
theorem dL_law_1199 : decode cL_law 1199 = .ok (.aload_n 0, 1) := by decide +kernel
theorem dL_law_1200 : decode cL_law 1200 = .ok (.iload 5, 2) := by decide +kernel
theorem dL_law_1202 : decode cL_law 1202 = .ok (.iconst 2, 1) := by decide +kernel
theorem dL_law_1203 : decode cL_law 1203 = .ok (.iadd, 1) := by decide +kernel
theorem dL_law_1204 : decode cL_law 1204 = .ok (.iaload, 1) := by decide +kernel
theorem dL_law_1205 : decode cL_law 1205 = .ok (.invokevirtual 172, 3) := by decide +kernel
theorem dL_law_1208 : decode cL_law 1208 = .ok (.istore 7, 2) := by decide +kernel
theorem dL_law_1210 : decode cL_law 1210 = .ok (.aload_n 2, 1) := by decide +kernel
theorem dL_law_1211 : decode cL_law 1211 = .ok (.invokevirtual 117, 3) := by decide +kernel
theorem dL_law_1214 : decode cL_law 1214 = .ok (.iload 6, 2) := by decide +kernel
theorem dL_law_1216 : decode cL_law 1216 = .ok (.if_icmp .eq 5, 3) := by decide +kernel
theorem dL_law_1219 : decode cL_law 1219 = .ok (.iconst 0, 1) := by decide +kernel
theorem dL_law_1220 : decode cL_law 1220 = .ok (.ireturn, 1) := by decide +kernel
theorem dL_law_1221 : decode cL_law 1221 = .ok (.iload 6, 2) := by decide +kernel
theorem dL_law_1223 : decode cL_law 1223 = .ok (.ifCond .ne 15, 3) := by decide +kernel
theorem dL_law_1226 : decode cL_law 1226 = .ok (.aload_n 3, 1) := by decide +kernel
theorem dL_law_1227 : decode cL_law 1227 = .ok (.iconst 0, 1) := by decide +kernel
theorem dL_law_1228 : decode cL_law 1228 = .ok (.laload, 1) := by decide +kernel
theorem dL_law_1229 : decode cL_law 1229 = .ok (.iload 7, 2) := by decide +kernel
theorem dL_law_1231 : decode cL_law 1231 = .ok (.i2l, 1) := by decide +kernel
theorem dL_law_1232 : decode cL_law 1232 = .ok (.lcmp, 1) := by decide +kernel
theorem dL_law_1233 : decode cL_law 1233 = .ok (.ifCond .eq 5, 3) := by decide +kernel
theorem dL_law_1236 : decode cL_law 1236 = .ok (.iconst 0, 1) := by decide +kernel
theorem dL_law_1237 : decode cL_law 1237 = .ok (.ireturn, 1) := by decide +kernel
theorem dL_law_1238 : decode cL_law 1238 = .ok (.goto 817, 3) := by decide +kernel
theorem dL_law_1241 : decode cL_law 1241 = .ok (.aload_n 1, 1) := by decide +kernel
theorem dL_law_1242 : decode cL_law 1242 = .ok (.aload_n 0, 1) := by decide +kernel
theorem dL_law_1243 : decode cL_law 1243 = .ok (.iload 5, 2) := by decide +kernel
theorem dL_law_1245 : decode cL_law 1245 = .ok (.iconst 1, 1) := by decide +kernel
theorem dL_law_1246 : decode cL_law 1246 = .ok (.iadd, 1) := by decide +kernel
theorem dL_law_1247 : decode cL_law 1247 = .ok (.iaload, 1) := by decide +kernel
theorem dL_law_1248 : decode cL_law 1248 = .ok (.aload_n 0, 1) := by decide +kernel
theorem dL_law_1249 : decode cL_law 1249 = .ok (.iload 5, 2) := by decide +kernel
theorem dL_law_1251 : decode cL_law 1251 = .ok (.iconst 2, 1) := by decide +kernel
theorem dL_law_1252 : decode cL_law 1252 = .ok (.iadd, 1) := by decide +kernel
theorem dL_law_1253 : decode cL_law 1253 = .ok (.iaload, 1) := by decide +kernel
theorem dL_law_1254 : decode cL_law 1254 = .ok (.aload_n 3, 1) := by decide +kernel
theorem dL_law_1255 : decode cL_law 1255 = .ok (.invokestatic 173, 3) := by decide +kernel
theorem dL_law_1258 : decode cL_law 1258 = .ok (.istore 6, 2) := by decide +kernel
theorem dL_law_1260 : decode cL_law 1260 = .ok (.aload_n 2, 1) := by decide +kernel
theorem dL_law_1261 : decode cL_law 1261 = .ok (.aload_n 0, 1) := by decide +kernel
theorem dL_law_1262 : decode cL_law 1262 = .ok (.iload 5, 2) := by decide +kernel
theorem dL_law_1264 : decode cL_law 1264 = .ok (.iconst 1, 1) := by decide +kernel
theorem dL_law_1265 : decode cL_law 1265 = .ok (.iadd, 1) := by decide +kernel
theorem dL_law_1266 : decode cL_law 1266 = .ok (.iaload, 1) := by decide +kernel
theorem dL_law_1267 : decode cL_law 1267 = .ok (.aload_n 0, 1) := by decide +kernel
theorem dL_law_1268 : decode cL_law 1268 = .ok (.iload 5, 2) := by decide +kernel
theorem dL_law_1270 : decode cL_law 1270 = .ok (.iconst 2, 1) := by decide +kernel
theorem dL_law_1271 : decode cL_law 1271 = .ok (.iadd, 1) := by decide +kernel
theorem dL_law_1272 : decode cL_law 1272 = .ok (.iaload, 1) := by decide +kernel
theorem dL_law_1273 : decode cL_law 1273 = .ok (.invokevirtual 175, 3) := by decide +kernel
theorem dL_law_1276 : decode cL_law 1276 = .ok (.istore 7, 2) := by decide +kernel
theorem dL_law_1278 : decode cL_law 1278 = .ok (.aload_n 2, 1) := by decide +kernel
theorem dL_law_1279 : decode cL_law 1279 = .ok (.invokevirtual 117, 3) := by decide +kernel
theorem dL_law_1282 : decode cL_law 1282 = .ok (.iload 6, 2) := by decide +kernel
theorem dL_law_1284 : decode cL_law 1284 = .ok (.if_icmp .eq 5, 3) := by decide +kernel
theorem dL_law_1287 : decode cL_law 1287 = .ok (.iconst 0, 1) := by decide +kernel
theorem dL_law_1288 : decode cL_law 1288 = .ok (.ireturn, 1) := by decide +kernel
theorem dL_law_1289 : decode cL_law 1289 = .ok (.iload 6, 2) := by decide +kernel
theorem dL_law_1291 : decode cL_law 1291 = .ok (.ifCond .ne 15, 3) := by decide +kernel
theorem dL_law_1294 : decode cL_law 1294 = .ok (.aload_n 3, 1) := by decide +kernel
theorem dL_law_1295 : decode cL_law 1295 = .ok (.iconst 0, 1) := by decide +kernel
theorem dL_law_1296 : decode cL_law 1296 = .ok (.laload, 1) := by decide +kernel
theorem dL_law_1297 : decode cL_law 1297 = .ok (.iload 7, 2) := by decide +kernel
theorem dL_law_1299 : decode cL_law 1299 = .ok (.i2l, 1) := by decide +kernel
theorem dL_law_1300 : decode cL_law 1300 = .ok (.lcmp, 1) := by decide +kernel
theorem dL_law_1301 : decode cL_law 1301 = .ok (.ifCond .eq 5, 3) := by decide +kernel
theorem dL_law_1304 : decode cL_law 1304 = .ok (.iconst 0, 1) := by decide +kernel
theorem dL_law_1305 : decode cL_law 1305 = .ok (.ireturn, 1) := by decide +kernel
theorem dL_law_1306 : decode cL_law 1306 = .ok (.goto 749, 3) := by decide +kernel
theorem dL_law_1309 : decode cL_law 1309 = .ok (.aload_n 1, 1) := by decide +kernel
theorem dL_law_1310 : decode cL_law 1310 = .ok (.aload_n 0, 1) := by decide +kernel
theorem dL_law_1311 : decode cL_law 1311 = .ok (.iload 5, 2) := by decide +kernel
theorem dL_law_1313 : decode cL_law 1313 = .ok (.iconst 1, 1) := by decide +kernel
theorem dL_law_1314 : decode cL_law 1314 = .ok (.iadd, 1) := by decide +kernel
theorem dL_law_1315 : decode cL_law 1315 = .ok (.iaload, 1) := by decide +kernel
theorem dL_law_1316 : decode cL_law 1316 = .ok (.aload_n 0, 1) := by decide +kernel
theorem dL_law_1317 : decode cL_law 1317 = .ok (.iload 5, 2) := by decide +kernel
theorem dL_law_1319 : decode cL_law 1319 = .ok (.iconst 2, 1) := by decide +kernel
theorem dL_law_1320 : decode cL_law 1320 = .ok (.iadd, 1) := by decide +kernel
theorem dL_law_1321 : decode cL_law 1321 = .ok (.iaload, 1) := by decide +kernel
theorem dL_law_1322 : decode cL_law 1322 = .ok (.aload_n 3, 1) := by decide +kernel
theorem dL_law_1323 : decode cL_law 1323 = .ok (.invokestatic 176, 3) := by decide +kernel
theorem dL_law_1326 : decode cL_law 1326 = .ok (.istore 6, 2) := by decide +kernel
theorem dL_law_1328 : decode cL_law 1328 = .ok (.aload_n 2, 1) := by decide +kernel
theorem dL_law_1329 : decode cL_law 1329 = .ok (.aload_n 0, 1) := by decide +kernel
theorem dL_law_1330 : decode cL_law 1330 = .ok (.iload 5, 2) := by decide +kernel
theorem dL_law_1332 : decode cL_law 1332 = .ok (.iconst 1, 1) := by decide +kernel
theorem dL_law_1333 : decode cL_law 1333 = .ok (.iadd, 1) := by decide +kernel
theorem dL_law_1334 : decode cL_law 1334 = .ok (.iaload, 1) := by decide +kernel
theorem dL_law_1335 : decode cL_law 1335 = .ok (.aload_n 0, 1) := by decide +kernel
theorem dL_law_1336 : decode cL_law 1336 = .ok (.iload 5, 2) := by decide +kernel
theorem dL_law_1338 : decode cL_law 1338 = .ok (.iconst 2, 1) := by decide +kernel
theorem dL_law_1339 : decode cL_law 1339 = .ok (.iadd, 1) := by decide +kernel
theorem dL_law_1340 : decode cL_law 1340 = .ok (.iaload, 1) := by decide +kernel
theorem dL_law_1341 : decode cL_law 1341 = .ok (.invokevirtual 178, 3) := by decide +kernel
theorem dL_law_1344 : decode cL_law 1344 = .ok (.istore 7, 2) := by decide +kernel
theorem dL_law_1346 : decode cL_law 1346 = .ok (.aload_n 2, 1) := by decide +kernel
theorem dL_law_1347 : decode cL_law 1347 = .ok (.invokevirtual 117, 3) := by decide +kernel
theorem dL_law_1350 : decode cL_law 1350 = .ok (.iload 6, 2) := by decide +kernel
theorem dL_law_1352 : decode cL_law 1352 = .ok (.if_icmp .eq 5, 3) := by decide +kernel
theorem dL_law_1355 : decode cL_law 1355 = .ok (.iconst 0, 1) := by decide +kernel
theorem dL_law_1356 : decode cL_law 1356 = .ok (.ireturn, 1) := by decide +kernel
theorem dL_law_1357 : decode cL_law 1357 = .ok (.iload 6, 2) := by decide +kernel
theorem dL_law_1359 : decode cL_law 1359 = .ok (.ifCond .ne 22, 3) := by decide +kernel
theorem dL_law_1362 : decode cL_law 1362 = .ok (.aload_n 3, 1) := by decide +kernel
theorem dL_law_1363 : decode cL_law 1363 = .ok (.iconst 0, 1) := by decide +kernel
theorem dL_law_1364 : decode cL_law 1364 = .ok (.laload, 1) := by decide +kernel
theorem dL_law_1365 : decode cL_law 1365 = .ok (.iload 7, 2) := by decide +kernel
theorem dL_law_1367 : decode cL_law 1367 = .ok (.ifCond .eq 7, 3) := by decide +kernel
theorem dL_law_1370 : decode cL_law 1370 = .ok (.lconst 1, 1) := by decide +kernel
theorem dL_law_1371 : decode cL_law 1371 = .ok (.goto 4, 3) := by decide +kernel
theorem dL_law_1374 : decode cL_law 1374 = .ok (.lconst 0, 1) := by decide +kernel
theorem dL_law_1375 : decode cL_law 1375 = .ok (.lcmp, 1) := by decide +kernel
theorem dL_law_1376 : decode cL_law 1376 = .ok (.ifCond .eq 5, 3) := by decide +kernel
theorem dL_law_1379 : decode cL_law 1379 = .ok (.iconst 0, 1) := by decide +kernel
theorem dL_law_1380 : decode cL_law 1380 = .ok (.ireturn, 1) := by decide +kernel
theorem dL_law_1381 : decode cL_law 1381 = .ok (.goto 674, 3) := by decide +kernel
theorem dL_law_1384 : decode cL_law 1384 = .ok (.aload_n 1, 1) := by decide +kernel
theorem dL_law_1385 : decode cL_law 1385 = .ok (.aload_n 0, 1) := by decide +kernel
theorem dL_law_1386 : decode cL_law 1386 = .ok (.iload 5, 2) := by decide +kernel
theorem dL_law_1388 : decode cL_law 1388 = .ok (.iconst 1, 1) := by decide +kernel
theorem dL_law_1389 : decode cL_law 1389 = .ok (.iadd, 1) := by decide +kernel
theorem dL_law_1390 : decode cL_law 1390 = .ok (.iaload, 1) := by decide +kernel
theorem dL_law_1391 : decode cL_law 1391 = .ok (.aload_n 0, 1) := by decide +kernel
theorem dL_law_1392 : decode cL_law 1392 = .ok (.iload 5, 2) := by decide +kernel
theorem dL_law_1394 : decode cL_law 1394 = .ok (.iconst 2, 1) := by decide +kernel
theorem dL_law_1395 : decode cL_law 1395 = .ok (.iadd, 1) := by decide +kernel
theorem dL_law_1396 : decode cL_law 1396 = .ok (.iaload, 1) := by decide +kernel
theorem dL_law_1397 : decode cL_law 1397 = .ok (.aload_n 3, 1) := by decide +kernel
theorem dL_law_1398 : decode cL_law 1398 = .ok (.invokestatic 179, 3) := by decide +kernel
theorem dL_law_1401 : decode cL_law 1401 = .ok (.istore 6, 2) := by decide +kernel
theorem dL_law_1403 : decode cL_law 1403 = .ok (.aload_n 2, 1) := by decide +kernel
theorem dL_law_1404 : decode cL_law 1404 = .ok (.aload_n 0, 1) := by decide +kernel
theorem dL_law_1405 : decode cL_law 1405 = .ok (.iload 5, 2) := by decide +kernel
theorem dL_law_1407 : decode cL_law 1407 = .ok (.iconst 1, 1) := by decide +kernel
theorem dL_law_1408 : decode cL_law 1408 = .ok (.iadd, 1) := by decide +kernel
theorem dL_law_1409 : decode cL_law 1409 = .ok (.iaload, 1) := by decide +kernel
theorem dL_law_1410 : decode cL_law 1410 = .ok (.aload_n 0, 1) := by decide +kernel
theorem dL_law_1411 : decode cL_law 1411 = .ok (.iload 5, 2) := by decide +kernel
theorem dL_law_1413 : decode cL_law 1413 = .ok (.iconst 2, 1) := by decide +kernel
theorem dL_law_1414 : decode cL_law 1414 = .ok (.iadd, 1) := by decide +kernel
theorem dL_law_1415 : decode cL_law 1415 = .ok (.iaload, 1) := by decide +kernel
theorem dL_law_1416 : decode cL_law 1416 = .ok (.invokevirtual 181, 3) := by decide +kernel
theorem dL_law_1419 : decode cL_law 1419 = .ok (.istore 7, 2) := by decide +kernel
theorem dL_law_1421 : decode cL_law 1421 = .ok (.aload_n 2, 1) := by decide +kernel
theorem dL_law_1422 : decode cL_law 1422 = .ok (.invokevirtual 117, 3) := by decide +kernel
theorem dL_law_1425 : decode cL_law 1425 = .ok (.iload 6, 2) := by decide +kernel
theorem dL_law_1427 : decode cL_law 1427 = .ok (.if_icmp .eq 5, 3) := by decide +kernel
theorem dL_law_1430 : decode cL_law 1430 = .ok (.iconst 0, 1) := by decide +kernel
theorem dL_law_1431 : decode cL_law 1431 = .ok (.ireturn, 1) := by decide +kernel
theorem dL_law_1432 : decode cL_law 1432 = .ok (.iload 6, 2) := by decide +kernel
theorem dL_law_1434 : decode cL_law 1434 = .ok (.ifCond .ne 15, 3) := by decide +kernel
theorem dL_law_1437 : decode cL_law 1437 = .ok (.aload_n 3, 1) := by decide +kernel
theorem dL_law_1438 : decode cL_law 1438 = .ok (.iconst 0, 1) := by decide +kernel
theorem dL_law_1439 : decode cL_law 1439 = .ok (.laload, 1) := by decide +kernel
theorem dL_law_1440 : decode cL_law 1440 = .ok (.iload 7, 2) := by decide +kernel
theorem dL_law_1442 : decode cL_law 1442 = .ok (.i2l, 1) := by decide +kernel
theorem dL_law_1443 : decode cL_law 1443 = .ok (.lcmp, 1) := by decide +kernel
theorem dL_law_1444 : decode cL_law 1444 = .ok (.ifCond .eq 5, 3) := by decide +kernel
theorem dL_law_1447 : decode cL_law 1447 = .ok (.iconst 0, 1) := by decide +kernel
theorem dL_law_1448 : decode cL_law 1448 = .ok (.ireturn, 1) := by decide +kernel
theorem dL_law_1449 : decode cL_law 1449 = .ok (.goto 606, 3) := by decide +kernel
theorem dL_law_1452 : decode cL_law 1452 = .ok (.aload_n 1, 1) := by decide +kernel
theorem dL_law_1453 : decode cL_law 1453 = .ok (.aload_n 0, 1) := by decide +kernel
theorem dL_law_1454 : decode cL_law 1454 = .ok (.iload 5, 2) := by decide +kernel
theorem dL_law_1456 : decode cL_law 1456 = .ok (.iconst 1, 1) := by decide +kernel
theorem dL_law_1457 : decode cL_law 1457 = .ok (.iadd, 1) := by decide +kernel
theorem dL_law_1458 : decode cL_law 1458 = .ok (.iaload, 1) := by decide +kernel
theorem dL_law_1459 : decode cL_law 1459 = .ok (.aload_n 0, 1) := by decide +kernel
theorem dL_law_1460 : decode cL_law 1460 = .ok (.iload 5, 2) := by decide +kernel
theorem dL_law_1462 : decode cL_law 1462 = .ok (.iconst 2, 1) := by decide +kernel
theorem dL_law_1463 : decode cL_law 1463 = .ok (.iadd, 1) := by decide +kernel
theorem dL_law_1464 : decode cL_law 1464 = .ok (.iaload, 1) := by decide +kernel
theorem dL_law_1465 : decode cL_law 1465 = .ok (.aload_n 3, 1) := by decide +kernel
theorem dL_law_1466 : decode cL_law 1466 = .ok (.invokestatic 182, 3) := by decide +kernel
theorem dL_law_1469 : decode cL_law 1469 = .ok (.istore 6, 2) := by decide +kernel
theorem dL_law_1471 : decode cL_law 1471 = .ok (.aload_n 2, 1) := by decide +kernel
theorem dL_law_1472 : decode cL_law 1472 = .ok (.aload_n 0, 1) := by decide +kernel
theorem dL_law_1473 : decode cL_law 1473 = .ok (.iload 5, 2) := by decide +kernel
theorem dL_law_1475 : decode cL_law 1475 = .ok (.iconst 1, 1) := by decide +kernel
theorem dL_law_1476 : decode cL_law 1476 = .ok (.iadd, 1) := by decide +kernel
theorem dL_law_1477 : decode cL_law 1477 = .ok (.iaload, 1) := by decide +kernel
theorem dL_law_1478 : decode cL_law 1478 = .ok (.aload_n 0, 1) := by decide +kernel
theorem dL_law_1479 : decode cL_law 1479 = .ok (.iload 5, 2) := by decide +kernel
theorem dL_law_1481 : decode cL_law 1481 = .ok (.iconst 2, 1) := by decide +kernel
theorem dL_law_1482 : decode cL_law 1482 = .ok (.iadd, 1) := by decide +kernel
theorem dL_law_1483 : decode cL_law 1483 = .ok (.iaload, 1) := by decide +kernel
theorem dL_law_1484 : decode cL_law 1484 = .ok (.invokevirtual 184, 3) := by decide +kernel
theorem dL_law_1487 : decode cL_law 1487 = .ok (.istore 7, 2) := by decide +kernel
theorem dL_law_1489 : decode cL_law 1489 = .ok (.aload_n 2, 1) := by decide +kernel
theorem dL_law_1490 : decode cL_law 1490 = .ok (.invokevirtual 117, 3) := by decide +kernel
theorem dL_law_1493 : decode cL_law 1493 = .ok (.iload 6, 2) := by decide +kernel
theorem dL_law_1495 : decode cL_law 1495 = .ok (.if_icmp .eq 5, 3) := by decide +kernel
theorem dL_law_1498 : decode cL_law 1498 = .ok (.iconst 0, 1) := by decide +kernel
theorem dL_law_1499 : decode cL_law 1499 = .ok (.ireturn, 1) := by decide +kernel
theorem dL_law_1500 : decode cL_law 1500 = .ok (.iload 6, 2) := by decide +kernel
theorem dL_law_1502 : decode cL_law 1502 = .ok (.ifCond .ne 15, 3) := by decide +kernel
theorem dL_law_1505 : decode cL_law 1505 = .ok (.aload_n 3, 1) := by decide +kernel
theorem dL_law_1506 : decode cL_law 1506 = .ok (.iconst 0, 1) := by decide +kernel
theorem dL_law_1507 : decode cL_law 1507 = .ok (.laload, 1) := by decide +kernel
theorem dL_law_1508 : decode cL_law 1508 = .ok (.iload 7, 2) := by decide +kernel
theorem dL_law_1510 : decode cL_law 1510 = .ok (.i2l, 1) := by decide +kernel
theorem dL_law_1511 : decode cL_law 1511 = .ok (.lcmp, 1) := by decide +kernel
theorem dL_law_1512 : decode cL_law 1512 = .ok (.ifCond .eq 5, 3) := by decide +kernel
theorem dL_law_1515 : decode cL_law 1515 = .ok (.iconst 0, 1) := by decide +kernel
theorem dL_law_1516 : decode cL_law 1516 = .ok (.ireturn, 1) := by decide +kernel
theorem dL_law_1517 : decode cL_law 1517 = .ok (.goto 538, 3) := by decide +kernel
theorem dL_law_1520 : decode cL_law 1520 = .ok (.aload_n 1, 1) := by decide +kernel
theorem dL_law_1521 : decode cL_law 1521 = .ok (.aload_n 0, 1) := by decide +kernel
theorem dL_law_1522 : decode cL_law 1522 = .ok (.iload 5, 2) := by decide +kernel
theorem dL_law_1524 : decode cL_law 1524 = .ok (.iconst 1, 1) := by decide +kernel
theorem dL_law_1525 : decode cL_law 1525 = .ok (.iadd, 1) := by decide +kernel
theorem dL_law_1526 : decode cL_law 1526 = .ok (.iaload, 1) := by decide +kernel
theorem dL_law_1527 : decode cL_law 1527 = .ok (.aload_n 0, 1) := by decide +kernel
theorem dL_law_1528 : decode cL_law 1528 = .ok (.iload 5, 2) := by decide +kernel
theorem dL_law_1530 : decode cL_law 1530 = .ok (.iconst 2, 1) := by decide +kernel
theorem dL_law_1531 : decode cL_law 1531 = .ok (.iadd, 1) := by decide +kernel
theorem dL_law_1532 : decode cL_law 1532 = .ok (.iaload, 1) := by decide +kernel
theorem dL_law_1533 : decode cL_law 1533 = .ok (.aload_n 3, 1) := by decide +kernel
theorem dL_law_1534 : decode cL_law 1534 = .ok (.invokestatic 185, 3) := by decide +kernel
theorem dL_law_1537 : decode cL_law 1537 = .ok (.istore 6, 2) := by decide +kernel
theorem dL_law_1539 : decode cL_law 1539 = .ok (.aload_n 2, 1) := by decide +kernel
theorem dL_law_1540 : decode cL_law 1540 = .ok (.aload_n 0, 1) := by decide +kernel
theorem dL_law_1541 : decode cL_law 1541 = .ok (.iload 5, 2) := by decide +kernel
theorem dL_law_1543 : decode cL_law 1543 = .ok (.iconst 1, 1) := by decide +kernel
theorem dL_law_1544 : decode cL_law 1544 = .ok (.iadd, 1) := by decide +kernel
theorem dL_law_1545 : decode cL_law 1545 = .ok (.iaload, 1) := by decide +kernel
theorem dL_law_1546 : decode cL_law 1546 = .ok (.aload_n 0, 1) := by decide +kernel
theorem dL_law_1547 : decode cL_law 1547 = .ok (.iload 5, 2) := by decide +kernel
theorem dL_law_1549 : decode cL_law 1549 = .ok (.iconst 2, 1) := by decide +kernel
theorem dL_law_1550 : decode cL_law 1550 = .ok (.iadd, 1) := by decide +kernel
theorem dL_law_1551 : decode cL_law 1551 = .ok (.iaload, 1) := by decide +kernel
theorem dL_law_1552 : decode cL_law 1552 = .ok (.invokevirtual 187, 3) := by decide +kernel
theorem dL_law_1555 : decode cL_law 1555 = .ok (.istore 7, 2) := by decide +kernel
theorem dL_law_1557 : decode cL_law 1557 = .ok (.aload_n 2, 1) := by decide +kernel
theorem dL_law_1558 : decode cL_law 1558 = .ok (.invokevirtual 117, 3) := by decide +kernel
theorem dL_law_1561 : decode cL_law 1561 = .ok (.iload 6, 2) := by decide +kernel
theorem dL_law_1563 : decode cL_law 1563 = .ok (.if_icmp .eq 5, 3) := by decide +kernel
theorem dL_law_1566 : decode cL_law 1566 = .ok (.iconst 0, 1) := by decide +kernel
theorem dL_law_1567 : decode cL_law 1567 = .ok (.ireturn, 1) := by decide +kernel
theorem dL_law_1568 : decode cL_law 1568 = .ok (.iload 6, 2) := by decide +kernel
theorem dL_law_1570 : decode cL_law 1570 = .ok (.ifCond .ne 15, 3) := by decide +kernel
theorem dL_law_1573 : decode cL_law 1573 = .ok (.aload_n 3, 1) := by decide +kernel
theorem dL_law_1574 : decode cL_law 1574 = .ok (.iconst 0, 1) := by decide +kernel
theorem dL_law_1575 : decode cL_law 1575 = .ok (.laload, 1) := by decide +kernel
theorem dL_law_1576 : decode cL_law 1576 = .ok (.iload 7, 2) := by decide +kernel
theorem dL_law_1578 : decode cL_law 1578 = .ok (.i2l, 1) := by decide +kernel
theorem dL_law_1579 : decode cL_law 1579 = .ok (.lcmp, 1) := by decide +kernel
theorem dL_law_1580 : decode cL_law 1580 = .ok (.ifCond .eq 5, 3) := by decide +kernel
theorem dL_law_1583 : decode cL_law 1583 = .ok (.iconst 0, 1) := by decide +kernel
theorem dL_law_1584 : decode cL_law 1584 = .ok (.ireturn, 1) := by decide +kernel
theorem dL_law_1585 : decode cL_law 1585 = .ok (.goto 470, 3) := by decide +kernel
theorem dL_law_1588 : decode cL_law 1588 = .ok (.aload_n 1, 1) := by decide +kernel
theorem dL_law_1589 : decode cL_law 1589 = .ok (.aload_n 0, 1) := by decide +kernel
theorem dL_law_1590 : decode cL_law 1590 = .ok (.iload 5, 2) := by decide +kernel
theorem dL_law_1592 : decode cL_law 1592 = .ok (.iconst 1, 1) := by decide +kernel
theorem dL_law_1593 : decode cL_law 1593 = .ok (.iadd, 1) := by decide +kernel
theorem dL_law_1594 : decode cL_law 1594 = .ok (.iaload, 1) := by decide +kernel
theorem dL_law_1595 : decode cL_law 1595 = .ok (.aload_n 0, 1) := by decide +kernel
theorem dL_law_1596 : decode cL_law 1596 = .ok (.iload 5, 2) := by decide +kernel
theorem dL_law_1598 : decode cL_law 1598 = .ok (.iconst 2, 1) := by decide +kernel
theorem dL_law_1599 : decode cL_law 1599 = .ok (.iadd, 1) := by decide +kernel
theorem dL_law_1600 : decode cL_law 1600 = .ok (.iaload, 1) := by decide +kernel
theorem dL_law_1601 : decode cL_law 1601 = .ok (.aload_n 3, 1) := by decide +kernel
theorem dL_law_1602 : decode cL_law 1602 = .ok (.invokestatic 188, 3) := by decide +kernel
theorem dL_law_1605 : decode cL_law 1605 = .ok (.istore 6, 2) := by decide +kernel
theorem dL_law_1607 : decode cL_law 1607 = .ok (.aload_n 2, 1) := by decide +kernel
theorem dL_law_1608 : decode cL_law 1608 = .ok (.aload_n 0, 1) := by decide +kernel
theorem dL_law_1609 : decode cL_law 1609 = .ok (.iload 5, 2) := by decide +kernel
theorem dL_law_1611 : decode cL_law 1611 = .ok (.iconst 1, 1) := by decide +kernel
theorem dL_law_1612 : decode cL_law 1612 = .ok (.iadd, 1) := by decide +kernel
theorem dL_law_1613 : decode cL_law 1613 = .ok (.iaload, 1) := by decide +kernel
theorem dL_law_1614 : decode cL_law 1614 = .ok (.aload_n 0, 1) := by decide +kernel
theorem dL_law_1615 : decode cL_law 1615 = .ok (.iload 5, 2) := by decide +kernel
theorem dL_law_1617 : decode cL_law 1617 = .ok (.iconst 2, 1) := by decide +kernel
theorem dL_law_1618 : decode cL_law 1618 = .ok (.iadd, 1) := by decide +kernel
theorem dL_law_1619 : decode cL_law 1619 = .ok (.iaload, 1) := by decide +kernel
theorem dL_law_1620 : decode cL_law 1620 = .ok (.invokevirtual 190, 3) := by decide +kernel
theorem dL_law_1623 : decode cL_law 1623 = .ok (.istore 7, 2) := by decide +kernel
theorem dL_law_1625 : decode cL_law 1625 = .ok (.aload_n 2, 1) := by decide +kernel
theorem dL_law_1626 : decode cL_law 1626 = .ok (.invokevirtual 117, 3) := by decide +kernel
theorem dL_law_1629 : decode cL_law 1629 = .ok (.iload 6, 2) := by decide +kernel
theorem dL_law_1631 : decode cL_law 1631 = .ok (.if_icmp .eq 5, 3) := by decide +kernel
theorem dL_law_1634 : decode cL_law 1634 = .ok (.iconst 0, 1) := by decide +kernel
theorem dL_law_1635 : decode cL_law 1635 = .ok (.ireturn, 1) := by decide +kernel
theorem dL_law_1636 : decode cL_law 1636 = .ok (.iload 6, 2) := by decide +kernel
theorem dL_law_1638 : decode cL_law 1638 = .ok (.ifCond .ne 15, 3) := by decide +kernel
theorem dL_law_1641 : decode cL_law 1641 = .ok (.aload_n 3, 1) := by decide +kernel
theorem dL_law_1642 : decode cL_law 1642 = .ok (.iconst 0, 1) := by decide +kernel
theorem dL_law_1643 : decode cL_law 1643 = .ok (.laload, 1) := by decide +kernel
theorem dL_law_1644 : decode cL_law 1644 = .ok (.iload 7, 2) := by decide +kernel
theorem dL_law_1646 : decode cL_law 1646 = .ok (.i2l, 1) := by decide +kernel
theorem dL_law_1647 : decode cL_law 1647 = .ok (.lcmp, 1) := by decide +kernel
theorem dL_law_1648 : decode cL_law 1648 = .ok (.ifCond .eq 5, 3) := by decide +kernel
theorem dL_law_1651 : decode cL_law 1651 = .ok (.iconst 0, 1) := by decide +kernel
theorem dL_law_1652 : decode cL_law 1652 = .ok (.ireturn, 1) := by decide +kernel
theorem dL_law_1653 : decode cL_law 1653 = .ok (.goto 402, 3) := by decide +kernel
theorem dL_law_1656 : decode cL_law 1656 = .ok (.aload_n 1, 1) := by decide +kernel
theorem dL_law_1657 : decode cL_law 1657 = .ok (.aload_n 0, 1) := by decide +kernel
theorem dL_law_1658 : decode cL_law 1658 = .ok (.iload 5, 2) := by decide +kernel
theorem dL_law_1660 : decode cL_law 1660 = .ok (.iconst 1, 1) := by decide +kernel
theorem dL_law_1661 : decode cL_law 1661 = .ok (.iadd, 1) := by decide +kernel
theorem dL_law_1662 : decode cL_law 1662 = .ok (.iaload, 1) := by decide +kernel
theorem dL_law_1663 : decode cL_law 1663 = .ok (.aload_n 0, 1) := by decide +kernel
theorem dL_law_1664 : decode cL_law 1664 = .ok (.iload 5, 2) := by decide +kernel
theorem dL_law_1666 : decode cL_law 1666 = .ok (.iconst 2, 1) := by decide +kernel
theorem dL_law_1667 : decode cL_law 1667 = .ok (.iadd, 1) := by decide +kernel
theorem dL_law_1668 : decode cL_law 1668 = .ok (.iaload, 1) := by decide +kernel
theorem dL_law_1669 : decode cL_law 1669 = .ok (.aload_n 3, 1) := by decide +kernel
theorem dL_law_1670 : decode cL_law 1670 = .ok (.invokestatic 191, 3) := by decide +kernel
theorem dL_law_1673 : decode cL_law 1673 = .ok (.istore 6, 2) := by decide +kernel
theorem dL_law_1675 : decode cL_law 1675 = .ok (.aload_n 2, 1) := by decide +kernel
theorem dL_law_1676 : decode cL_law 1676 = .ok (.aload_n 0, 1) := by decide +kernel
theorem dL_law_1677 : decode cL_law 1677 = .ok (.iload 5, 2) := by decide +kernel
theorem dL_law_1679 : decode cL_law 1679 = .ok (.iconst 1, 1) := by decide +kernel
theorem dL_law_1680 : decode cL_law 1680 = .ok (.iadd, 1) := by decide +kernel
theorem dL_law_1681 : decode cL_law 1681 = .ok (.iaload, 1) := by decide +kernel
theorem dL_law_1682 : decode cL_law 1682 = .ok (.aload_n 0, 1) := by decide +kernel
theorem dL_law_1683 : decode cL_law 1683 = .ok (.iload 5, 2) := by decide +kernel
theorem dL_law_1685 : decode cL_law 1685 = .ok (.iconst 2, 1) := by decide +kernel
theorem dL_law_1686 : decode cL_law 1686 = .ok (.iadd, 1) := by decide +kernel
theorem dL_law_1687 : decode cL_law 1687 = .ok (.iaload, 1) := by decide +kernel
theorem dL_law_1688 : decode cL_law 1688 = .ok (.invokevirtual 193, 3) := by decide +kernel
theorem dL_law_1691 : decode cL_law 1691 = .ok (.istore 7, 2) := by decide +kernel
theorem dL_law_1693 : decode cL_law 1693 = .ok (.aload_n 2, 1) := by decide +kernel
theorem dL_law_1694 : decode cL_law 1694 = .ok (.invokevirtual 117, 3) := by decide +kernel
theorem dL_law_1697 : decode cL_law 1697 = .ok (.iload 6, 2) := by decide +kernel
theorem dL_law_1699 : decode cL_law 1699 = .ok (.if_icmp .eq 5, 3) := by decide +kernel
theorem dL_law_1702 : decode cL_law 1702 = .ok (.iconst 0, 1) := by decide +kernel
theorem dL_law_1703 : decode cL_law 1703 = .ok (.ireturn, 1) := by decide +kernel
theorem dL_law_1704 : decode cL_law 1704 = .ok (.iload 6, 2) := by decide +kernel
theorem dL_law_1706 : decode cL_law 1706 = .ok (.ifCond .ne 15, 3) := by decide +kernel
theorem dL_law_1709 : decode cL_law 1709 = .ok (.aload_n 3, 1) := by decide +kernel
theorem dL_law_1710 : decode cL_law 1710 = .ok (.iconst 0, 1) := by decide +kernel
theorem dL_law_1711 : decode cL_law 1711 = .ok (.laload, 1) := by decide +kernel
theorem dL_law_1712 : decode cL_law 1712 = .ok (.iload 7, 2) := by decide +kernel
theorem dL_law_1714 : decode cL_law 1714 = .ok (.i2l, 1) := by decide +kernel
theorem dL_law_1715 : decode cL_law 1715 = .ok (.lcmp, 1) := by decide +kernel
theorem dL_law_1716 : decode cL_law 1716 = .ok (.ifCond .eq 5, 3) := by decide +kernel
theorem dL_law_1719 : decode cL_law 1719 = .ok (.iconst 0, 1) := by decide +kernel
theorem dL_law_1720 : decode cL_law 1720 = .ok (.ireturn, 1) := by decide +kernel
theorem dL_law_1721 : decode cL_law 1721 = .ok (.goto 334, 3) := by decide +kernel
theorem dL_law_1724 : decode cL_law 1724 = .ok (.aload_n 1, 1) := by decide +kernel
theorem dL_law_1725 : decode cL_law 1725 = .ok (.aload_n 0, 1) := by decide +kernel
theorem dL_law_1726 : decode cL_law 1726 = .ok (.iload 5, 2) := by decide +kernel
theorem dL_law_1728 : decode cL_law 1728 = .ok (.iconst 1, 1) := by decide +kernel
theorem dL_law_1729 : decode cL_law 1729 = .ok (.iadd, 1) := by decide +kernel
theorem dL_law_1730 : decode cL_law 1730 = .ok (.iaload, 1) := by decide +kernel
theorem dL_law_1731 : decode cL_law 1731 = .ok (.aload_n 0, 1) := by decide +kernel
theorem dL_law_1732 : decode cL_law 1732 = .ok (.iload 5, 2) := by decide +kernel
theorem dL_law_1734 : decode cL_law 1734 = .ok (.iconst 2, 1) := by decide +kernel
theorem dL_law_1735 : decode cL_law 1735 = .ok (.iadd, 1) := by decide +kernel
theorem dL_law_1736 : decode cL_law 1736 = .ok (.iaload, 1) := by decide +kernel
theorem dL_law_1737 : decode cL_law 1737 = .ok (.aload_n 3, 1) := by decide +kernel
theorem dL_law_1738 : decode cL_law 1738 = .ok (.invokestatic 194, 3) := by decide +kernel
theorem dL_law_1741 : decode cL_law 1741 = .ok (.istore 6, 2) := by decide +kernel
theorem dL_law_1743 : decode cL_law 1743 = .ok (.aload_n 2, 1) := by decide +kernel
theorem dL_law_1744 : decode cL_law 1744 = .ok (.aload_n 0, 1) := by decide +kernel
theorem dL_law_1745 : decode cL_law 1745 = .ok (.iload 5, 2) := by decide +kernel
theorem dL_law_1747 : decode cL_law 1747 = .ok (.iconst 1, 1) := by decide +kernel
theorem dL_law_1748 : decode cL_law 1748 = .ok (.iadd, 1) := by decide +kernel
theorem dL_law_1749 : decode cL_law 1749 = .ok (.iaload, 1) := by decide +kernel
theorem dL_law_1750 : decode cL_law 1750 = .ok (.aload_n 0, 1) := by decide +kernel
theorem dL_law_1751 : decode cL_law 1751 = .ok (.iload 5, 2) := by decide +kernel
theorem dL_law_1753 : decode cL_law 1753 = .ok (.iconst 2, 1) := by decide +kernel
theorem dL_law_1754 : decode cL_law 1754 = .ok (.iadd, 1) := by decide +kernel
theorem dL_law_1755 : decode cL_law 1755 = .ok (.iaload, 1) := by decide +kernel
theorem dL_law_1756 : decode cL_law 1756 = .ok (.invokevirtual 196, 3) := by decide +kernel
theorem dL_law_1759 : decode cL_law 1759 = .ok (.istore 7, 2) := by decide +kernel
theorem dL_law_1761 : decode cL_law 1761 = .ok (.aload_n 2, 1) := by decide +kernel
theorem dL_law_1762 : decode cL_law 1762 = .ok (.invokevirtual 117, 3) := by decide +kernel
theorem dL_law_1765 : decode cL_law 1765 = .ok (.iload 6, 2) := by decide +kernel
theorem dL_law_1767 : decode cL_law 1767 = .ok (.if_icmp .eq 5, 3) := by decide +kernel
theorem dL_law_1770 : decode cL_law 1770 = .ok (.iconst 0, 1) := by decide +kernel
theorem dL_law_1771 : decode cL_law 1771 = .ok (.ireturn, 1) := by decide +kernel
theorem dL_law_1772 : decode cL_law 1772 = .ok (.iload 6, 2) := by decide +kernel
theorem dL_law_1774 : decode cL_law 1774 = .ok (.ifCond .ne 15, 3) := by decide +kernel
theorem dL_law_1777 : decode cL_law 1777 = .ok (.aload_n 3, 1) := by decide +kernel
theorem dL_law_1778 : decode cL_law 1778 = .ok (.iconst 0, 1) := by decide +kernel
theorem dL_law_1779 : decode cL_law 1779 = .ok (.laload, 1) := by decide +kernel
theorem dL_law_1780 : decode cL_law 1780 = .ok (.iload 7, 2) := by decide +kernel
theorem dL_law_1782 : decode cL_law 1782 = .ok (.i2l, 1) := by decide +kernel
theorem dL_law_1783 : decode cL_law 1783 = .ok (.lcmp, 1) := by decide +kernel
theorem dL_law_1784 : decode cL_law 1784 = .ok (.ifCond .eq 5, 3) := by decide +kernel
theorem dL_law_1787 : decode cL_law 1787 = .ok (.iconst 0, 1) := by decide +kernel
theorem dL_law_1788 : decode cL_law 1788 = .ok (.ireturn, 1) := by decide +kernel
theorem dL_law_1789 : decode cL_law 1789 = .ok (.goto 266, 3) := by decide +kernel
theorem dL_law_1792 : decode cL_law 1792 = .ok (.aload_n 1, 1) := by decide +kernel
theorem dL_law_1793 : decode cL_law 1793 = .ok (.aload_n 0, 1) := by decide +kernel
theorem dL_law_1794 : decode cL_law 1794 = .ok (.iload 5, 2) := by decide +kernel
theorem dL_law_1796 : decode cL_law 1796 = .ok (.iconst 1, 1) := by decide +kernel
theorem dL_law_1797 : decode cL_law 1797 = .ok (.iadd, 1) := by decide +kernel
theorem dL_law_1798 : decode cL_law 1798 = .ok (.iaload, 1) := by decide +kernel
theorem dL_law_1799 : decode cL_law 1799 = .ok (.aload_n 0, 1) := by decide +kernel
theorem dL_law_1800 : decode cL_law 1800 = .ok (.iload 5, 2) := by decide +kernel
theorem dL_law_1802 : decode cL_law 1802 = .ok (.iconst 2, 1) := by decide +kernel
theorem dL_law_1803 : decode cL_law 1803 = .ok (.iadd, 1) := by decide +kernel
theorem dL_law_1804 : decode cL_law 1804 = .ok (.iaload, 1) := by decide +kernel
theorem dL_law_1805 : decode cL_law 1805 = .ok (.aload_n 3, 1) := by decide +kernel
theorem dL_law_1806 : decode cL_law 1806 = .ok (.invokestatic 197, 3) := by decide +kernel
theorem dL_law_1809 : decode cL_law 1809 = .ok (.istore 6, 2) := by decide +kernel
theorem dL_law_1811 : decode cL_law 1811 = .ok (.aload_n 2, 1) := by decide +kernel
theorem dL_law_1812 : decode cL_law 1812 = .ok (.aload_n 0, 1) := by decide +kernel
theorem dL_law_1813 : decode cL_law 1813 = .ok (.iload 5, 2) := by decide +kernel
theorem dL_law_1815 : decode cL_law 1815 = .ok (.iconst 1, 1) := by decide +kernel
theorem dL_law_1816 : decode cL_law 1816 = .ok (.iadd, 1) := by decide +kernel
theorem dL_law_1817 : decode cL_law 1817 = .ok (.iaload, 1) := by decide +kernel
theorem dL_law_1818 : decode cL_law 1818 = .ok (.aload_n 0, 1) := by decide +kernel
theorem dL_law_1819 : decode cL_law 1819 = .ok (.iload 5, 2) := by decide +kernel
theorem dL_law_1821 : decode cL_law 1821 = .ok (.iconst 2, 1) := by decide +kernel
theorem dL_law_1822 : decode cL_law 1822 = .ok (.iadd, 1) := by decide +kernel
theorem dL_law_1823 : decode cL_law 1823 = .ok (.iaload, 1) := by decide +kernel
theorem dL_law_1824 : decode cL_law 1824 = .ok (.invokevirtual 199, 3) := by decide +kernel
theorem dL_law_1827 : decode cL_law 1827 = .ok (.istore 7, 2) := by decide +kernel
theorem dL_law_1829 : decode cL_law 1829 = .ok (.aload_n 2, 1) := by decide +kernel
theorem dL_law_1830 : decode cL_law 1830 = .ok (.invokevirtual 117, 3) := by decide +kernel
theorem dL_law_1833 : decode cL_law 1833 = .ok (.iload 6, 2) := by decide +kernel
theorem dL_law_1835 : decode cL_law 1835 = .ok (.if_icmp .eq 5, 3) := by decide +kernel
theorem dL_law_1838 : decode cL_law 1838 = .ok (.iconst 0, 1) := by decide +kernel
theorem dL_law_1839 : decode cL_law 1839 = .ok (.ireturn, 1) := by decide +kernel
theorem dL_law_1840 : decode cL_law 1840 = .ok (.iload 6, 2) := by decide +kernel
theorem dL_law_1842 : decode cL_law 1842 = .ok (.ifCond .ne 15, 3) := by decide +kernel
theorem dL_law_1845 : decode cL_law 1845 = .ok (.aload_n 3, 1) := by decide +kernel
theorem dL_law_1846 : decode cL_law 1846 = .ok (.iconst 0, 1) := by decide +kernel
theorem dL_law_1847 : decode cL_law 1847 = .ok (.laload, 1) := by decide +kernel
theorem dL_law_1848 : decode cL_law 1848 = .ok (.iload 7, 2) := by decide +kernel
theorem dL_law_1850 : decode cL_law 1850 = .ok (.i2l, 1) := by decide +kernel
theorem dL_law_1851 : decode cL_law 1851 = .ok (.lcmp, 1) := by decide +kernel
theorem dL_law_1852 : decode cL_law 1852 = .ok (.ifCond .eq 5, 3) := by decide +kernel
theorem dL_law_1855 : decode cL_law 1855 = .ok (.iconst 0, 1) := by decide +kernel
theorem dL_law_1856 : decode cL_law 1856 = .ok (.ireturn, 1) := by decide +kernel
theorem dL_law_1857 : decode cL_law 1857 = .ok (.goto 198, 3) := by decide +kernel
theorem dL_law_1860 : decode cL_law 1860 = .ok (.aload_n 1, 1) := by decide +kernel
theorem dL_law_1861 : decode cL_law 1861 = .ok (.invokevirtual 200, 3) := by decide +kernel
theorem dL_law_1864 : decode cL_law 1864 = .ok (.aload_n 2, 1) := by decide +kernel
theorem dL_law_1865 : decode cL_law 1865 = .ok (.invokevirtual 203, 3) := by decide +kernel
theorem dL_law_1868 : decode cL_law 1868 = .ok (.if_icmp .eq 187, 3) := by decide +kernel
theorem dL_law_1871 : decode cL_law 1871 = .ok (.iconst 0, 1) := by decide +kernel
theorem dL_law_1872 : decode cL_law 1872 = .ok (.ireturn, 1) := by decide +kernel
theorem dL_law_1873 : decode cL_law 1873 = .ok (.aload_n 1, 1) := by decide +kernel
theorem dL_law_1874 : decode cL_law 1874 = .ok (.invokevirtual 204, 3) := by decide +kernel
theorem dL_law_1877 : decode cL_law 1877 = .ok (.aload_n 2, 1) := by decide +kernel
theorem dL_law_1878 : decode cL_law 1878 = .ok (.invokevirtual 208, 3) := by decide +kernel
theorem dL_law_1881 : decode cL_law 1881 = .ok (.lcmp, 1) := by decide +kernel
theorem dL_law_1882 : decode cL_law 1882 = .ok (.ifCond .eq 173, 3) := by decide +kernel
theorem dL_law_1885 : decode cL_law 1885 = .ok (.iconst 0, 1) := by decide +kernel
theorem dL_law_1886 : decode cL_law 1886 = .ok (.ireturn, 1) := by decide +kernel
theorem dL_law_1887 : decode cL_law 1887 = .ok (.aload_n 1, 1) := by decide +kernel
theorem dL_law_1888 : decode cL_law 1888 = .ok (.aload 4, 2) := by decide +kernel
theorem dL_law_1890 : decode cL_law 1890 = .ok (.invokestatic 209, 3) := by decide +kernel
theorem dL_law_1893 : decode cL_law 1893 = .ok (.istore 6, 2) := by decide +kernel
theorem dL_law_1895 : decode cL_law 1895 = .ok (.aload_n 2, 1) := by decide +kernel
theorem dL_law_1896 : decode cL_law 1896 = .ok (.invokevirtual 212, 3) := by decide +kernel
theorem dL_law_1899 : decode cL_law 1899 = .ok (.dstore 7, 2) := by decide +kernel
theorem dL_law_1901 : decode cL_law 1901 = .ok (.aload_n 2, 1) := by decide +kernel
theorem dL_law_1902 : decode cL_law 1902 = .ok (.invokevirtual 117, 3) := by decide +kernel
theorem dL_law_1905 : decode cL_law 1905 = .ok (.iload 6, 2) := by decide +kernel
theorem dL_law_1907 : decode cL_law 1907 = .ok (.if_icmp .eq 5, 3) := by decide +kernel
theorem dL_law_1910 : decode cL_law 1910 = .ok (.iconst 0, 1) := by decide +kernel
theorem dL_law_1911 : decode cL_law 1911 = .ok (.ireturn, 1) := by decide +kernel
theorem dL_law_1912 : decode cL_law 1912 = .ok (.iload 6, 2) := by decide +kernel
theorem dL_law_1914 : decode cL_law 1914 = .ok (.ifCond .ne 35, 3) := by decide +kernel
theorem dL_law_1917 : decode cL_law 1917 = .ok (.aload 4, 2) := by decide +kernel
theorem dL_law_1919 : decode cL_law 1919 = .ok (.iconst 0, 1) := by decide +kernel
theorem dL_law_1920 : decode cL_law 1920 = .ok (.daload, 1) := by decide +kernel
theorem dL_law_1921 : decode cL_law 1921 = .ok (.dload 7, 2) := by decide +kernel
theorem dL_law_1923 : decode cL_law 1923 = .ok (.dcmp .l, 1) := by decide +kernel
theorem dL_law_1924 : decode cL_law 1924 = .ok (.ifCond .eq 25, 3) := by decide +kernel
theorem dL_law_1927 : decode cL_law 1927 = .ok (.aload 4, 2) := by decide +kernel
theorem dL_law_1929 : decode cL_law 1929 = .ok (.iconst 0, 1) := by decide +kernel
theorem dL_law_1930 : decode cL_law 1930 = .ok (.daload, 1) := by decide +kernel
theorem dL_law_1931 : decode cL_law 1931 = .ok (.aload 4, 2) := by decide +kernel
theorem dL_law_1933 : decode cL_law 1933 = .ok (.iconst 0, 1) := by decide +kernel
theorem dL_law_1934 : decode cL_law 1934 = .ok (.daload, 1) := by decide +kernel
theorem dL_law_1935 : decode cL_law 1935 = .ok (.dcmp .l, 1) := by decide +kernel
theorem dL_law_1936 : decode cL_law 1936 = .ok (.ifCond .eq 11, 3) := by decide +kernel
theorem dL_law_1939 : decode cL_law 1939 = .ok (.dload 7, 2) := by decide +kernel
theorem dL_law_1941 : decode cL_law 1941 = .ok (.dload 7, 2) := by decide +kernel
theorem dL_law_1943 : decode cL_law 1943 = .ok (.dcmp .l, 1) := by decide +kernel
theorem dL_law_1944 : decode cL_law 1944 = .ok (.ifCond .ne 5, 3) := by decide +kernel
theorem dL_law_1947 : decode cL_law 1947 = .ok (.iconst 0, 1) := by decide +kernel
theorem dL_law_1948 : decode cL_law 1948 = .ok (.ireturn, 1) := by decide +kernel
theorem dL_law_1949 : decode cL_law 1949 = .ok (.goto 106, 3) := by decide +kernel
theorem dL_law_1952 : decode cL_law 1952 = .ok (.aload_n 1, 1) := by decide +kernel
theorem dL_law_1953 : decode cL_law 1953 = .ok (.aload_n 0, 1) := by decide +kernel
theorem dL_law_1954 : decode cL_law 1954 = .ok (.iload 5, 2) := by decide +kernel
theorem dL_law_1956 : decode cL_law 1956 = .ok (.iconst 1, 1) := by decide +kernel
theorem dL_law_1957 : decode cL_law 1957 = .ok (.iadd, 1) := by decide +kernel
theorem dL_law_1958 : decode cL_law 1958 = .ok (.iaload, 1) := by decide +kernel
theorem dL_law_1959 : decode cL_law 1959 = .ok (.aload_n 0, 1) := by decide +kernel
theorem dL_law_1960 : decode cL_law 1960 = .ok (.iload 5, 2) := by decide +kernel
theorem dL_law_1962 : decode cL_law 1962 = .ok (.iconst 2, 1) := by decide +kernel
theorem dL_law_1963 : decode cL_law 1963 = .ok (.iadd, 1) := by decide +kernel
theorem dL_law_1964 : decode cL_law 1964 = .ok (.iaload, 1) := by decide +kernel
theorem dL_law_1965 : decode cL_law 1965 = .ok (.aload 4, 2) := by decide +kernel
theorem dL_law_1967 : decode cL_law 1967 = .ok (.invokestatic 213, 3) := by decide +kernel
theorem dL_law_1970 : decode cL_law 1970 = .ok (.istore 6, 2) := by decide +kernel
theorem dL_law_1972 : decode cL_law 1972 = .ok (.aload_n 2, 1) := by decide +kernel
theorem dL_law_1973 : decode cL_law 1973 = .ok (.aload_n 0, 1) := by decide +kernel
theorem dL_law_1974 : decode cL_law 1974 = .ok (.iload 5, 2) := by decide +kernel
theorem dL_law_1976 : decode cL_law 1976 = .ok (.iconst 1, 1) := by decide +kernel
theorem dL_law_1977 : decode cL_law 1977 = .ok (.iadd, 1) := by decide +kernel
theorem dL_law_1978 : decode cL_law 1978 = .ok (.iaload, 1) := by decide +kernel
theorem dL_law_1979 : decode cL_law 1979 = .ok (.aload_n 0, 1) := by decide +kernel
theorem dL_law_1980 : decode cL_law 1980 = .ok (.iload 5, 2) := by decide +kernel
theorem dL_law_1982 : decode cL_law 1982 = .ok (.iconst 2, 1) := by decide +kernel
theorem dL_law_1983 : decode cL_law 1983 = .ok (.iadd, 1) := by decide +kernel
theorem dL_law_1984 : decode cL_law 1984 = .ok (.iaload, 1) := by decide +kernel
theorem dL_law_1985 : decode cL_law 1985 = .ok (.invokevirtual 216, 3) := by decide +kernel
theorem dL_law_1988 : decode cL_law 1988 = .ok (.fstore 7, 2) := by decide +kernel
theorem dL_law_1990 : decode cL_law 1990 = .ok (.aload_n 2, 1) := by decide +kernel
theorem dL_law_1991 : decode cL_law 1991 = .ok (.invokevirtual 117, 3) := by decide +kernel
theorem dL_law_1994 : decode cL_law 1994 = .ok (.iload 6, 2) := by decide +kernel
theorem dL_law_1996 : decode cL_law 1996 = .ok (.if_icmp .eq 5, 3) := by decide +kernel
theorem dL_law_1999 : decode cL_law 1999 = .ok (.iconst 0, 1) := by decide +kernel
theorem dL_law_2000 : decode cL_law 2000 = .ok (.ireturn, 1) := by decide +kernel
theorem dL_law_2001 : decode cL_law 2001 = .ok (.iload 6, 2) := by decide +kernel
theorem dL_law_2003 : decode cL_law 2003 = .ok (.ifCond .ne 36, 3) := by decide +kernel
theorem dL_law_2006 : decode cL_law 2006 = .ok (.aload 4, 2) := by decide +kernel
theorem dL_law_2008 : decode cL_law 2008 = .ok (.iconst 0, 1) := by decide +kernel
theorem dL_law_2009 : decode cL_law 2009 = .ok (.daload, 1) := by decide +kernel
theorem dL_law_2010 : decode cL_law 2010 = .ok (.fload 7, 2) := by decide +kernel
theorem dL_law_2012 : decode cL_law 2012 = .ok (.f2d, 1) := by decide +kernel
theorem dL_law_2013 : decode cL_law 2013 = .ok (.dcmp .l, 1) := by decide +kernel
theorem dL_law_2014 : decode cL_law 2014 = .ok (.ifCond .eq 25, 3) := by decide +kernel
theorem dL_law_2017 : decode cL_law 2017 = .ok (.aload 4, 2) := by decide +kernel
theorem dL_law_2019 : decode cL_law 2019 = .ok (.iconst 0, 1) := by decide +kernel
theorem dL_law_2020 : decode cL_law 2020 = .ok (.daload, 1) := by decide +kernel
theorem dL_law_2021 : decode cL_law 2021 = .ok (.aload 4, 2) := by decide +kernel
theorem dL_law_2023 : decode cL_law 2023 = .ok (.iconst 0, 1) := by decide +kernel
theorem dL_law_2024 : decode cL_law 2024 = .ok (.daload, 1) := by decide +kernel
theorem dL_law_2025 : decode cL_law 2025 = .ok (.dcmp .l, 1) := by decide +kernel
theorem dL_law_2026 : decode cL_law 2026 = .ok (.ifCond .eq 11, 3) := by decide +kernel
theorem dL_law_2029 : decode cL_law 2029 = .ok (.fload 7, 2) := by decide +kernel
theorem dL_law_2031 : decode cL_law 2031 = .ok (.fload 7, 2) := by decide +kernel
theorem dL_law_2033 : decode cL_law 2033 = .ok (.fcmp .l, 1) := by decide +kernel
theorem dL_law_2034 : decode cL_law 2034 = .ok (.ifCond .ne 5, 3) := by decide +kernel
theorem dL_law_2037 : decode cL_law 2037 = .ok (.iconst 0, 1) := by decide +kernel
theorem dL_law_2038 : decode cL_law 2038 = .ok (.ireturn, 1) := by decide +kernel
theorem dL_law_2039 : decode cL_law 2039 = .ok (.goto 16, 3) := by decide +kernel
theorem dL_law_2042 : decode cL_law 2042 = .ok (.aload_n 1, 1) := by decide +kernel
theorem dL_law_2043 : decode cL_law 2043 = .ok (.invokevirtual 217, 3) := by decide +kernel
theorem dL_law_2046 : decode cL_law 2046 = .ok (.aload_n 2, 1) := by decide +kernel
theorem dL_law_2047 : decode cL_law 2047 = .ok (.invokevirtual 221, 3) := by decide +kernel
theorem dL_law_2050 : decode cL_law 2050 = .ok (.if_icmp .eq 5, 3) := by decide +kernel
theorem dL_law_2053 : decode cL_law 2053 = .ok (.iconst 0, 1) := by decide +kernel
theorem dL_law_2054 : decode cL_law 2054 = .ok (.ireturn, 1) := by decide +kernel
theorem dL_law_2055 : decode cL_law 2055 = .ok (.iinc 5 7, 3) := by decide +kernel
theorem dL_law_2058 : decode cL_law 2058 = .ok (.goto (-2030), 3) := by decide +kernel
theorem dL_law_2061 : decode cL_law 2061 = .ok (.iconst 1, 1) := by decide +kernel
theorem dL_law_2062 : decode cL_law 2062 = .ok (.ireturn, 1) := by decide +kernel
