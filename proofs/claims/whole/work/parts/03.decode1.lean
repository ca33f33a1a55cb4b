theorem dX0_init_0 : decode cX0_init 0 = .ok (.aload_n 0, 1) := by decide +kernel
theorem dX0_init_1 : decode cX0_init 1 = .ok (.invokespecial 3, 3) := by decide +kernel
theorem dX0_init_4 : decode cX0_init 4 = .ok (.aload_n 0, 1) := by decide +kernel
theorem dX0_init_5 : decode cX0_init 5 = .ok (.bipush 8, 2) := by decide +kernel
theorem dX0_init_7 : decode cX0_init 7 = .ok (.newarray .int, 2) := by decide +kernel
theorem dX0_init_9 : decode cX0_init 9 = .ok (.putfield 9, 3) := by decide +kernel
theorem dX0_init_12 : decode cX0_init 12 = .ok (.aload_n 0, 1) := by decide +kernel
theorem dX0_init_13 : decode cX0_init 13 = .ok (.iconst 5, 1) := by decide +kernel
theorem dX0_init_14 : decode cX0_init 14 = .ok (.newarray .int, 2) := by decide +kernel
theorem dX0_init_16 : decode cX0_init 16 = .ok (.putfield 15, 3) := by decide +kernel
theorem dX0_init_19 : decode cX0_init 19 = .ok (.aload_n 0, 1) := by decide +kernel
theorem dX0_init_20 : decode cX0_init 20 = .ok (.iconst 5, 1) := by decide +kernel
theorem dX0_init_21 : decode cX0_init 21 = .ok (.newarray .int, 2) := by decide +kernel
theorem dX0_init_23 : decode cX0_init 23 = .ok (.putfield 18, 3) := by decide +kernel
theorem dX0_init_26 : decode cX0_init 26 = .ok (.aload_n 0, 1) := by decide +kernel
theorem dX0_init_27 : decode cX0_init 27 = .ok (.bipush 40, 2) := by decide +kernel
theorem dX0_init_29 : decode cX0_init 29 = .ok (.newarray .int, 2) := by decide +kernel
theorem dX0_init_31 : decode cX0_init 31 = .ok (.putfield 21, 3) := by decide +kernel
theorem dX0_init_34 : decode cX0_init 34 = .ok (.aload_n 0, 1) := by decide +kernel
theorem dX0_init_35 : decode cX0_init 35 = .ok (.bipush 25, 2) := by decide +kernel
theorem dX0_init_37 : decode cX0_init 37 = .ok (.newarray .int, 2) := by decide +kernel
theorem dX0_init_39 : decode cX0_init 39 = .ok (.putfield 24, 3) := by decide +kernel
theorem dX0_init_42 : decode cX0_init 42 = .ok (.return_, 1) := by decide +kernel
theorem dX0_prepare_0 : decode cX0_prepare 0 = .ok (.aload_n 0, 1) := by decide +kernel
theorem dX0_prepare_1 : decode cX0_prepare 1 = .ok (.aload_n 1, 1) := by decide +kernel
theorem dX0_prepare_2 : decode cX0_prepare 2 = .ok (.getfield 27, 3) := by decide +kernel
theorem dX0_prepare_5 : decode cX0_prepare 5 = .ok (.invokevirtual 33, 3) := by decide +kernel
theorem dX0_prepare_8 : decode cX0_prepare 8 = .ok (.putfield 39, 3) := by decide +kernel
theorem dX0_prepare_11 : decode cX0_prepare 11 = .ok (.aload_n 0, 1) := by decide +kernel
theorem dX0_prepare_12 : decode cX0_prepare 12 = .ok (.aload_n 2, 1) := by decide +kernel
theorem dX0_prepare_13 : decode cX0_prepare 13 = .ok (.invokevirtual 43, 3) := by decide +kernel
theorem dX0_prepare_16 : decode cX0_prepare 16 = .ok (.putfield 48, 3) := by decide +kernel
theorem dX0_prepare_19 : decode cX0_prepare 19 = .ok (.iconst 0, 1) := by decide +kernel
theorem dX0_prepare_20 : decode cX0_prepare 20 = .ok (.istore 5, 2) := by decide +kernel
theorem dX0_prepare_22 : decode cX0_prepare 22 = .ok (.iload 5, 2) := by decide +kernel
theorem dX0_prepare_24 : decode cX0_prepare 24 = .ok (.aload_n 0, 1) := by decide +kernel
theorem dX0_prepare_25 : decode cX0_prepare 25 = .ok (.getfield 48, 3) := by decide +kernel
theorem dX0_prepare_28 : decode cX0_prepare 28 = .ok (.if_icmp .ge 32, 3) := by decide +kernel
theorem dX0_prepare_31 : decode cX0_prepare 31 = .ok (.aload_n 0, 1) := by decide +kernel
theorem dX0_prepare_32 : decode cX0_prepare 32 = .ok (.getfield 9, 3) := by decide +kernel
theorem dX0_prepare_35 : decode cX0_prepare 35 = .ok (.iload 5, 2) := by decide +kernel
theorem dX0_prepare_37 : decode cX0_prepare 37 = .ok (.aload_n 2, 1) := by decide +kernel
theorem dX0_prepare_38 : decode cX0_prepare 38 = .ok (.iload 5, 2) := by decide +kernel
theorem dX0_prepare_40 : decode cX0_prepare 40 = .ok (.invokevirtual 50, 3) := by decide +kernel
theorem dX0_prepare_43 : decode cX0_prepare 43 = .ok (.aload_n 3, 1) := by decide +kernel
theorem dX0_prepare_44 : decode cX0_prepare 44 = .ok (.aload_n 1, 1) := by decide +kernel
theorem dX0_prepare_45 : decode cX0_prepare 45 = .ok (.iload 5, 2) := by decide +kernel
theorem dX0_prepare_47 : decode cX0_prepare 47 = .ok (.invokevirtual 54, 3) := by decide +kernel
theorem dX0_prepare_50 : decode cX0_prepare 50 = .ok (.isub, 1) := by decide +kernel
theorem dX0_prepare_51 : decode cX0_prepare 51 = .ok (.invokestatic 60, 3) := by decide +kernel
theorem dX0_prepare_54 : decode cX0_prepare 54 = .ok (.iinc 5 1, 3) := by decide +kernel
theorem dX0_prepare_57 : decode cX0_prepare 57 = .ok (.goto (-35), 3) := by decide +kernel
theorem dX0_prepare_60 : decode cX0_prepare 60 = .ok (.iconst 0, 1) := by decide +kernel
theorem dX0_prepare_61 : decode cX0_prepare 61 = .ok (.istore 5, 2) := by decide +kernel
theorem dX0_prepare_63 : decode cX0_prepare 63 = .ok (.iload 5, 2) := by decide +kernel
theorem dX0_prepare_65 : decode cX0_prepare 65 = .ok (.aload_n 1, 1) := by decide +kernel
theorem dX0_prepare_66 : decode cX0_prepare 66 = .ok (.getfield 27, 3) := by decide +kernel
theorem dX0_prepare_69 : decode cX0_prepare 69 = .ok (.invokevirtual 33, 3) := by decide +kernel
theorem dX0_prepare_72 : decode cX0_prepare 72 = .ok (.if_icmp .ge 129, 3) := by decide +kernel
theorem dX0_prepare_75 : decode cX0_prepare 75 = .ok (.aload_n 1, 1) := by decide +kernel
theorem dX0_prepare_76 : decode cX0_prepare 76 = .ok (.getfield 27, 3) := by decide +kernel
theorem dX0_prepare_79 : decode cX0_prepare 79 = .ok (.iload 5, 2) := by decide +kernel
theorem dX0_prepare_81 : decode cX0_prepare 81 = .ok (.invokevirtual 64, 3) := by decide +kernel
theorem dX0_prepare_84 : decode cX0_prepare 84 = .ok (.checkcast 68, 3) := by decide +kernel
theorem dX0_prepare_87 : decode cX0_prepare 87 = .ok (.astore 6, 2) := by decide +kernel
theorem dX0_prepare_89 : decode cX0_prepare 89 = .ok (.aload_n 0, 1) := by decide +kernel
theorem dX0_prepare_90 : decode cX0_prepare 90 = .ok (.getfield 15, 3) := by decide +kernel
theorem dX0_prepare_93 : decode cX0_prepare 93 = .ok (.iload 5, 2) := by decide +kernel
theorem dX0_prepare_95 : decode cX0_prepare 95 = .ok (.aload 6, 2) := by decide +kernel
theorem dX0_prepare_97 : decode cX0_prepare 97 = .ok (.getfield 70, 3) := by decide +kernel
theorem dX0_prepare_100 : decode cX0_prepare 100 = .ok (.aload_n 1, 1) := by decide +kernel
theorem dX0_prepare_101 : decode cX0_prepare 101 = .ok (.getfield 73, 3) := by decide +kernel
theorem dX0_prepare_104 : decode cX0_prepare 104 = .ok (.iadd, 1) := by decide +kernel
theorem dX0_prepare_105 : decode cX0_prepare 105 = .ok (.invokestatic 60, 3) := by decide +kernel
theorem dX0_prepare_108 : decode cX0_prepare 108 = .ok (.iconst 0, 1) := by decide +kernel
theorem dX0_prepare_109 : decode cX0_prepare 109 = .ok (.istore 7, 2) := by decide +kernel
theorem dX0_prepare_111 : decode cX0_prepare 111 = .ok (.iload 7, 2) := by decide +kernel
theorem dX0_prepare_113 : decode cX0_prepare 113 = .ok (.iload 5, 2) := by decide +kernel
theorem dX0_prepare_115 : decode cX0_prepare 115 = .ok (.if_icmp .ge 52, 3) := by decide +kernel
theorem dX0_prepare_118 : decode cX0_prepare 118 = .ok (.aload 4, 2) := by decide +kernel
theorem dX0_prepare_120 : decode cX0_prepare 120 = .ok (.aload 6, 2) := by decide +kernel
theorem dX0_prepare_122 : decode cX0_prepare 122 = .ok (.getfield 76, 3) := by decide +kernel
theorem dX0_prepare_125 : decode cX0_prepare 125 = .ok (.aload_n 1, 1) := by decide +kernel
theorem dX0_prepare_126 : decode cX0_prepare 126 = .ok (.getfield 27, 3) := by decide +kernel
theorem dX0_prepare_129 : decode cX0_prepare 129 = .ok (.iload 7, 2) := by decide +kernel
theorem dX0_prepare_131 : decode cX0_prepare 131 = .ok (.invokevirtual 64, 3) := by decide +kernel
theorem dX0_prepare_134 : decode cX0_prepare 134 = .ok (.checkcast 68, 3) := by decide +kernel
theorem dX0_prepare_137 : decode cX0_prepare 137 = .ok (.getfield 76, 3) := by decide +kernel
theorem dX0_prepare_140 : decode cX0_prepare 140 = .ok (.invokevirtual 79, 3) := by decide +kernel
theorem dX0_prepare_143 : decode cX0_prepare 143 = .ok (.istore 8, 2) := by decide +kernel
theorem dX0_prepare_145 : decode cX0_prepare 145 = .ok (.aload_n 0, 1) := by decide +kernel
theorem dX0_prepare_146 : decode cX0_prepare 146 = .ok (.getfield 24, 3) := by decide +kernel
theorem dX0_prepare_149 : decode cX0_prepare 149 = .ok (.iload 5, 2) := by decide +kernel
theorem dX0_prepare_151 : decode cX0_prepare 151 = .ok (.iconst 5, 1) := by decide +kernel
theorem dX0_prepare_152 : decode cX0_prepare 152 = .ok (.imul, 1) := by decide +kernel
theorem dX0_prepare_153 : decode cX0_prepare 153 = .ok (.iload 7, 2) := by decide +kernel
theorem dX0_prepare_155 : decode cX0_prepare 155 = .ok (.iadd, 1) := by decide +kernel
theorem dX0_prepare_156 : decode cX0_prepare 156 = .ok (.iload 8, 2) := by decide +kernel
theorem dX0_prepare_158 : decode cX0_prepare 158 = .ok (.invokestatic 60, 3) := by decide +kernel
theorem dX0_prepare_161 : decode cX0_prepare 161 = .ok (.iinc 7 1, 3) := by decide +kernel
theorem dX0_prepare_164 : decode cX0_prepare 164 = .ok (.goto (-53), 3) := by decide +kernel
theorem dX0_prepare_167 : decode cX0_prepare 167 = .ok (.aload_n 3, 1) := by decide +kernel
theorem dX0_prepare_168 : decode cX0_prepare 168 = .ok (.aload_n 1, 1) := by decide +kernel
theorem dX0_prepare_169 : decode cX0_prepare 169 = .ok (.aload 6, 2) := by decide +kernel
theorem dX0_prepare_171 : decode cX0_prepare 171 = .ok (.invokevirtual 85, 3) := by decide +kernel
theorem dX0_prepare_174 : decode cX0_prepare 174 = .ok (.ifCond .eq 19, 3) := by decide +kernel
theorem dX0_prepare_177 : decode cX0_prepare 177 = .ok (.aload_n 0, 1) := by decide +kernel
theorem dX0_prepare_178 : decode cX0_prepare 178 = .ok (.iload 5, 2) := by decide +kernel
theorem dX0_prepare_180 : decode cX0_prepare 180 = .ok (.aload 6, 2) := by decide +kernel
theorem dX0_prepare_182 : decode cX0_prepare 182 = .ok (.aload_n 1, 1) := by decide +kernel
theorem dX0_prepare_183 : decode cX0_prepare 183 = .ok (.aload_n 2, 1) := by decide +kernel
theorem dX0_prepare_184 : decode cX0_prepare 184 = .ok (.aload_n 3, 1) := by decide +kernel
theorem dX0_prepare_185 : decode cX0_prepare 185 = .ok (.aload 4, 2) := by decide +kernel
theorem dX0_prepare_187 : decode cX0_prepare 187 = .ok (.invokevirtual 89, 3) := by decide +kernel
theorem dX0_prepare_190 : decode cX0_prepare 190 = .ok (.ifCond .ne 5, 3) := by decide +kernel
theorem dX0_prepare_193 : decode cX0_prepare 193 = .ok (.iconst 0, 1) := by decide +kernel
theorem dX0_prepare_194 : decode cX0_prepare 194 = .ok (.ireturn, 1) := by decide +kernel
theorem dX0_prepare_195 : decode cX0_prepare 195 = .ok (.iinc 5 1, 3) := by decide +kernel
theorem dX0_prepare_198 : decode cX0_prepare 198 = .ok (.goto (-135), 3) := by decide +kernel
theorem dX0_prepare_201 : decode cX0_prepare 201 = .ok (.iconst 1, 1) := by decide +kernel
theorem dX0_prepare_202 : decode cX0_prepare 202 = .ok (.ireturn, 1) := by decide +kernel
theorem dX0_opensAWall_0 : decode cX0_opensAWall 0 = .ok (.iconst 0, 1) := by decide +kernel
theorem dX0_opensAWall_1 : decode cX0_opensAWall 1 = .ok (.istore 7, 2) := by decide +kernel
theorem dX0_opensAWall_3 : decode cX0_opensAWall 3 = .ok (.iconst 0, 1) := by decide +kernel
theorem dX0_opensAWall_4 : decode cX0_opensAWall 4 = .ok (.istore 8, 2) := by decide +kernel
theorem dX0_opensAWall_6 : decode cX0_opensAWall 6 = .ok (.iload 8, 2) := by decide +kernel
theorem dX0_opensAWall_8 : decode cX0_opensAWall 8 = .ok (.aload_n 0, 1) := by decide +kernel
theorem dX0_opensAWall_9 : decode cX0_opensAWall 9 = .ok (.getfield 48, 3) := by decide +kernel
theorem dX0_opensAWall_12 : decode cX0_opensAWall 12 = .ok (.if_icmp .ge 102, 3) := by decide +kernel
theorem dX0_opensAWall_15 : decode cX0_opensAWall 15 = .ok (.aload 4, 2) := by decide +kernel
theorem dX0_opensAWall_17 : decode cX0_opensAWall 17 = .ok (.aload_n 2, 1) := by decide +kernel
theorem dX0_opensAWall_18 : decode cX0_opensAWall 18 = .ok (.iload 8, 2) := by decide +kernel
theorem dX0_opensAWall_20 : decode cX0_opensAWall 20 = .ok (.invokevirtual 93, 3) := by decide +kernel
theorem dX0_opensAWall_23 : decode cX0_opensAWall 23 = .ok (.ifCond .eq 41, 3) := by decide +kernel
theorem dX0_opensAWall_26 : decode cX0_opensAWall 26 = .ok (.aload_n 0, 1) := by decide +kernel
theorem dX0_opensAWall_27 : decode cX0_opensAWall 27 = .ok (.getfield 15, 3) := by decide +kernel
theorem dX0_opensAWall_30 : decode cX0_opensAWall 30 = .ok (.iload_n 1, 1) := by decide +kernel
theorem dX0_opensAWall_31 : decode cX0_opensAWall 31 = .ok (.invokestatic 97, 3) := by decide +kernel
theorem dX0_opensAWall_34 : decode cX0_opensAWall 34 = .ok (.aload_n 0, 1) := by decide +kernel
theorem dX0_opensAWall_35 : decode cX0_opensAWall 35 = .ok (.getfield 9, 3) := by decide +kernel
theorem dX0_opensAWall_38 : decode cX0_opensAWall 38 = .ok (.iload 8, 2) := by decide +kernel
theorem dX0_opensAWall_40 : decode cX0_opensAWall 40 = .ok (.invokestatic 97, 3) := by decide +kernel
theorem dX0_opensAWall_43 : decode cX0_opensAWall 43 = .ok (.if_icmp .gt 21, 3) := by decide +kernel
theorem dX0_opensAWall_46 : decode cX0_opensAWall 46 = .ok (.aload 5, 2) := by decide +kernel
theorem dX0_opensAWall_48 : decode cX0_opensAWall 48 = .ok (.aload 6, 2) := by decide +kernel
theorem dX0_opensAWall_50 : decode cX0_opensAWall 50 = .ok (.aload_n 3, 1) := by decide +kernel
theorem dX0_opensAWall_51 : decode cX0_opensAWall 51 = .ok (.aload_n 2, 1) := by decide +kernel
theorem dX0_opensAWall_52 : decode cX0_opensAWall 52 = .ok (.iload 8, 2) := by decide +kernel
theorem dX0_opensAWall_54 : decode cX0_opensAWall 54 = .ok (.invokevirtual 101, 3) := by decide +kernel
theorem dX0_opensAWall_57 : decode cX0_opensAWall 57 = .ok (.ifCond .ne 7, 3) := by decide +kernel
theorem dX0_opensAWall_60 : decode cX0_opensAWall 60 = .ok (.iconst 1, 1) := by decide +kernel
theorem dX0_opensAWall_61 : decode cX0_opensAWall 61 = .ok (.goto 4, 3) := by decide +kernel
theorem dX0_opensAWall_64 : decode cX0_opensAWall 64 = .ok (.iconst 0, 1) := by decide +kernel
theorem dX0_opensAWall_65 : decode cX0_opensAWall 65 = .ok (.istore 9, 2) := by decide +kernel
theorem dX0_opensAWall_67 : decode cX0_opensAWall 67 = .ok (.aload_n 0, 1) := by decide +kernel
theorem dX0_opensAWall_68 : decode cX0_opensAWall 68 = .ok (.getfield 21, 3) := by decide +kernel
theorem dX0_opensAWall_71 : decode cX0_opensAWall 71 = .ok (.iload_n 1, 1) := by decide +kernel
theorem dX0_opensAWall_72 : decode cX0_opensAWall 72 = .ok (.bipush 8, 2) := by decide +kernel
theorem dX0_opensAWall_74 : decode cX0_opensAWall 74 = .ok (.imul, 1) := by decide +kernel
theorem dX0_opensAWall_75 : decode cX0_opensAWall 75 = .ok (.iload 8, 2) := by decide +kernel
theorem dX0_opensAWall_77 : decode cX0_opensAWall 77 = .ok (.iadd, 1) := by decide +kernel
theorem dX0_opensAWall_78 : decode cX0_opensAWall 78 = .ok (.iload 9, 2) := by decide +kernel
theorem dX0_opensAWall_80 : decode cX0_opensAWall 80 = .ok (.ifCond .eq 7, 3) := by decide +kernel
theorem dX0_opensAWall_83 : decode cX0_opensAWall 83 = .ok (.iconst 1, 1) := by decide +kernel
theorem dX0_opensAWall_84 : decode cX0_opensAWall 84 = .ok (.goto 4, 3) := by decide +kernel
theorem dX0_opensAWall_87 : decode cX0_opensAWall 87 = .ok (.iconst 0, 1) := by decide +kernel
theorem dX0_opensAWall_88 : decode cX0_opensAWall 88 = .ok (.invokestatic 60, 3) := by decide +kernel
theorem dX0_opensAWall_91 : decode cX0_opensAWall 91 = .ok (.iload 7, 2) := by decide +kernel
theorem dX0_opensAWall_93 : decode cX0_opensAWall 93 = .ok (.ifCond .ne 8, 3) := by decide +kernel
theorem dX0_opensAWall_96 : decode cX0_opensAWall 96 = .ok (.iload 9, 2) := by decide +kernel
theorem dX0_opensAWall_98 : decode cX0_opensAWall 98 = .ok (.ifCond .eq 7, 3) := by decide +kernel
theorem dX0_opensAWall_101 : decode cX0_opensAWall 101 = .ok (.iconst 1, 1) := by decide +kernel
theorem dX0_opensAWall_102 : decode cX0_opensAWall 102 = .ok (.goto 4, 3) := by decide +kernel
theorem dX0_opensAWall_105 : decode cX0_opensAWall 105 = .ok (.iconst 0, 1) := by decide +kernel
theorem dX0_opensAWall_106 : decode cX0_opensAWall 106 = .ok (.istore 7, 2) := by decide +kernel
theorem dX0_opensAWall_108 : decode cX0_opensAWall 108 = .ok (.iinc 8 1, 3) := by decide +kernel
theorem dX0_opensAWall_111 : decode cX0_opensAWall 111 = .ok (.goto (-105), 3) := by decide +kernel
theorem dX0_opensAWall_114 : decode cX0_opensAWall 114 = .ok (.iload 7, 2) := by decide +kernel
theorem dX0_opensAWall_116 : decode cX0_opensAWall 116 = .ok (.ireturn, 1) := by decide +kernel
theorem dX0_hangWorkByWork_0 : decode cX0_hangWorkByWork 0 = .ok (.aload_n 0, 1) := by decide +kernel
theorem dX0_hangWorkByWork_1 : decode cX0_hangWorkByWork 1 = .ok (.iconst 0, 1) := by decide +kernel
theorem dX0_hangWorkByWork_2 : decode cX0_hangWorkByWork 2 = .ok (.invokestatic 105, 3) := by decide +kernel
theorem dX0_hangWorkByWork_5 : decode cX0_hangWorkByWork 5 = .ok (.ireturn, 1) := by decide +kernel
theorem dX0_hangFrom_0 : decode cX0_hangFrom 0 = .ok (.iload_n 1, 1) := by decide +kernel
theorem dX0_hangFrom_1 : decode cX0_hangFrom 1 = .ok (.aload_n 0, 1) := by decide +kernel
theorem dX0_hangFrom_2 : decode cX0_hangFrom 2 = .ok (.getfield 39, 3) := by decide +kernel
theorem dX0_hangFrom_5 : decode cX0_hangFrom 5 = .ok (.if_icmp .ge 8, 3) := by decide +kernel
theorem dX0_hangFrom_8 : decode cX0_hangFrom 8 = .ok (.iload_n 1, 1) := by decide +kernel
theorem dX0_hangFrom_9 : decode cX0_hangFrom 9 = .ok (.iconst 5, 1) := by decide +kernel
theorem dX0_hangFrom_10 : decode cX0_hangFrom 10 = .ok (.if_icmp .lt 5, 3) := by decide +kernel
theorem dX0_hangFrom_13 : decode cX0_hangFrom 13 = .ok (.iconst 1, 1) := by decide +kernel
theorem dX0_hangFrom_14 : decode cX0_hangFrom 14 = .ok (.ireturn, 1) := by decide +kernel
theorem dX0_hangFrom_15 : decode cX0_hangFrom 15 = .ok (.iconst 0, 1) := by decide +kernel
theorem dX0_hangFrom_16 : decode cX0_hangFrom 16 = .ok (.istore_n 2, 1) := by decide +kernel
theorem dX0_hangFrom_17 : decode cX0_hangFrom 17 = .ok (.iload_n 2, 1) := by decide +kernel
theorem dX0_hangFrom_18 : decode cX0_hangFrom 18 = .ok (.aload_n 0, 1) := by decide +kernel
theorem dX0_hangFrom_19 : decode cX0_hangFrom 19 = .ok (.getfield 48, 3) := by decide +kernel
theorem dX0_hangFrom_22 : decode cX0_hangFrom 22 = .ok (.if_icmp .ge 38, 3) := by decide +kernel
theorem dX0_hangFrom_25 : decode cX0_hangFrom 25 = .ok (.aload_n 0, 1) := by decide +kernel
theorem dX0_hangFrom_26 : decode cX0_hangFrom 26 = .ok (.getfield 18, 3) := by decide +kernel
theorem dX0_hangFrom_29 : decode cX0_hangFrom 29 = .ok (.iload_n 1, 1) := by decide +kernel
theorem dX0_hangFrom_30 : decode cX0_hangFrom 30 = .ok (.iload_n 2, 1) := by decide +kernel
theorem dX0_hangFrom_31 : decode cX0_hangFrom 31 = .ok (.invokestatic 60, 3) := by decide +kernel
theorem dX0_hangFrom_34 : decode cX0_hangFrom 34 = .ok (.aload_n 0, 1) := by decide +kernel
theorem dX0_hangFrom_35 : decode cX0_hangFrom 35 = .ok (.iload_n 1, 1) := by decide +kernel
theorem dX0_hangFrom_36 : decode cX0_hangFrom 36 = .ok (.invokevirtual 109, 3) := by decide +kernel
theorem dX0_hangFrom_39 : decode cX0_hangFrom 39 = .ok (.ifCond .eq 15, 3) := by decide +kernel
theorem dX0_hangFrom_42 : decode cX0_hangFrom 42 = .ok (.aload_n 0, 1) := by decide +kernel
theorem dX0_hangFrom_43 : decode cX0_hangFrom 43 = .ok (.iload_n 1, 1) := by decide +kernel
theorem dX0_hangFrom_44 : decode cX0_hangFrom 44 = .ok (.iconst 1, 1) := by decide +kernel
theorem dX0_hangFrom_45 : decode cX0_hangFrom 45 = .ok (.iadd, 1) := by decide +kernel
theorem dX0_hangFrom_46 : decode cX0_hangFrom 46 = .ok (.invokestatic 105, 3) := by decide +kernel
theorem dX0_hangFrom_49 : decode cX0_hangFrom 49 = .ok (.ifCond .eq 5, 3) := by decide +kernel
theorem dX0_hangFrom_52 : decode cX0_hangFrom 52 = .ok (.iconst 1, 1) := by decide +kernel
theorem dX0_hangFrom_53 : decode cX0_hangFrom 53 = .ok (.ireturn, 1) := by decide +kernel
theorem dX0_hangFrom_54 : decode cX0_hangFrom 54 = .ok (.iinc 2 1, 3) := by decide +kernel
theorem dX0_hangFrom_57 : decode cX0_hangFrom 57 = .ok (.goto (-40), 3) := by decide +kernel
theorem dX0_hangFrom_60 : decode cX0_hangFrom 60 = .ok (.iconst 0, 1) := by decide +kernel
theorem dX0_hangFrom_61 : decode cX0_hangFrom 61 = .ok (.ireturn, 1) := by decide +kernel
theorem dX0_searchAllWalls_0 : decode cX0_searchAllWalls 0 = .ok (.aload_n 0, 1) := by decide +kernel
theorem dX0_searchAllWalls_1 : decode cX0_searchAllWalls 1 = .ok (.getfield 48, 3) := by decide +kernel
theorem dX0_searchAllWalls_4 : decode cX0_searchAllWalls 4 = .ok (.aload_n 0, 1) := by decide +kernel
theorem dX0_searchAllWalls_5 : decode cX0_searchAllWalls 5 = .ok (.getfield 39, 3) := by decide +kernel
theorem dX0_searchAllWalls_8 : decode cX0_searchAllWalls 8 = .ok (.invokestatic 113, 3) := by decide +kernel
theorem dX0_searchAllWalls_11 : decode cX0_searchAllWalls 11 = .ok (.istore_n 1, 1) := by decide +kernel
theorem dX0_searchAllWalls_12 : decode cX0_searchAllWalls 12 = .ok (.iconst 0, 1) := by decide +kernel
theorem dX0_searchAllWalls_13 : decode cX0_searchAllWalls 13 = .ok (.istore_n 2, 1) := by decide +kernel
theorem dX0_searchAllWalls_14 : decode cX0_searchAllWalls 14 = .ok (.iload_n 2, 1) := by decide +kernel
theorem dX0_searchAllWalls_15 : decode cX0_searchAllWalls 15 = .ok (.iload_n 1, 1) := by decide +kernel
theorem dX0_searchAllWalls_16 : decode cX0_searchAllWalls 16 = .ok (.if_icmp .ge 57, 3) := by decide +kernel
theorem dX0_searchAllWalls_19 : decode cX0_searchAllWalls 19 = .ok (.aload_n 0, 1) := by decide +kernel
theorem dX0_searchAllWalls_20 : decode cX0_searchAllWalls 20 = .ok (.iload_n 2, 1) := by decide +kernel
theorem dX0_searchAllWalls_21 : decode cX0_searchAllWalls 21 = .ok (.invokevirtual 117, 3) := by decide +kernel
theorem dX0_searchAllWalls_24 : decode cX0_searchAllWalls 24 = .ok (.aload_n 0, 1) := by decide +kernel
theorem dX0_searchAllWalls_25 : decode cX0_searchAllWalls 25 = .ok (.invokevirtual 121, 3) := by decide +kernel
theorem dX0_searchAllWalls_28 : decode cX0_searchAllWalls 28 = .ok (.istore_n 3, 1) := by decide +kernel
theorem dX0_searchAllWalls_29 : decode cX0_searchAllWalls 29 = .ok (.iload_n 3, 1) := by decide +kernel
theorem dX0_searchAllWalls_30 : decode cX0_searchAllWalls 30 = .ok (.aload_n 0, 1) := by decide +kernel
theorem dX0_searchAllWalls_31 : decode cX0_searchAllWalls 31 = .ok (.getfield 39, 3) := by decide +kernel
theorem dX0_searchAllWalls_34 : decode cX0_searchAllWalls 34 = .ok (.if_icmp .lt 5, 3) := by decide +kernel
theorem dX0_searchAllWalls_37 : decode cX0_searchAllWalls 37 = .ok (.iconst 1, 1) := by decide +kernel
theorem dX0_searchAllWalls_38 : decode cX0_searchAllWalls 38 = .ok (.ireturn, 1) := by decide +kernel
theorem dX0_searchAllWalls_39 : decode cX0_searchAllWalls 39 = .ok (.iconst 1, 1) := by decide +kernel
theorem dX0_searchAllWalls_40 : decode cX0_searchAllWalls 40 = .ok (.aload_n 0, 1) := by decide +kernel
theorem dX0_searchAllWalls_41 : decode cX0_searchAllWalls 41 = .ok (.getfield 48, 3) := by decide +kernel
theorem dX0_searchAllWalls_44 : decode cX0_searchAllWalls 44 = .ok (.aload_n 0, 1) := by decide +kernel
theorem dX0_searchAllWalls_45 : decode cX0_searchAllWalls 45 = .ok (.getfield 39, 3) := by decide +kernel
theorem dX0_searchAllWalls_48 : decode cX0_searchAllWalls 48 = .ok (.iconst 1, 1) := by decide +kernel
theorem dX0_searchAllWalls_49 : decode cX0_searchAllWalls 49 = .ok (.isub, 1) := by decide +kernel
theorem dX0_searchAllWalls_50 : decode cX0_searchAllWalls 50 = .ok (.iload_n 3, 1) := by decide +kernel
theorem dX0_searchAllWalls_51 : decode cX0_searchAllWalls 51 = .ok (.isub, 1) := by decide +kernel
theorem dX0_searchAllWalls_52 : decode cX0_searchAllWalls 52 = .ok (.invokestatic 113, 3) := by decide +kernel
theorem dX0_searchAllWalls_55 : decode cX0_searchAllWalls 55 = .ok (.invokestatic 124, 3) := by decide +kernel
theorem dX0_searchAllWalls_58 : decode cX0_searchAllWalls 58 = .ok (.istore 4, 2) := by decide +kernel
theorem dX0_searchAllWalls_60 : decode cX0_searchAllWalls 60 = .ok (.iload_n 2, 1) := by decide +kernel
theorem dX0_searchAllWalls_61 : decode cX0_searchAllWalls 61 = .ok (.iload 4, 2) := by decide +kernel
theorem dX0_searchAllWalls_63 : decode cX0_searchAllWalls 63 = .ok (.iload_n 2, 1) := by decide +kernel
theorem dX0_searchAllWalls_64 : decode cX0_searchAllWalls 64 = .ok (.iload 4, 2) := by decide +kernel
theorem dX0_searchAllWalls_66 : decode cX0_searchAllWalls 66 = .ok (.irem, 1) := by decide +kernel
theorem dX0_searchAllWalls_67 : decode cX0_searchAllWalls 67 = .ok (.isub, 1) := by decide +kernel
theorem dX0_searchAllWalls_68 : decode cX0_searchAllWalls 68 = .ok (.iadd, 1) := by decide +kernel
theorem dX0_searchAllWalls_69 : decode cX0_searchAllWalls 69 = .ok (.istore_n 2, 1) := by decide +kernel
theorem dX0_searchAllWalls_70 : decode cX0_searchAllWalls 70 = .ok (.goto (-56), 3) := by decide +kernel
theorem dX0_searchAllWalls_73 : decode cX0_searchAllWalls 73 = .ok (.iconst 0, 1) := by decide +kernel
theorem dX0_searchAllWalls_74 : decode cX0_searchAllWalls 74 = .ok (.ireturn, 1) := by decide +kernel
theorem dX0_chooseAsIn_0 : decode cX0_chooseAsIn 0 = .ok (.iload_n 1, 1) := by decide +kernel
theorem dX0_chooseAsIn_1 : decode cX0_chooseAsIn 1 = .ok (.istore_n 2, 1) := by decide +kernel
theorem dX0_chooseAsIn_2 : decode cX0_chooseAsIn 2 = .ok (.aload_n 0, 1) := by decide +kernel
theorem dX0_chooseAsIn_3 : decode cX0_chooseAsIn 3 = .ok (.getfield 39, 3) := by decide +kernel
theorem dX0_chooseAsIn_6 : decode cX0_chooseAsIn 6 = .ok (.iconst 1, 1) := by decide +kernel
theorem dX0_chooseAsIn_7 : decode cX0_chooseAsIn 7 = .ok (.isub, 1) := by decide +kernel
theorem dX0_chooseAsIn_8 : decode cX0_chooseAsIn 8 = .ok (.istore_n 3, 1) := by decide +kernel
theorem dX0_chooseAsIn_9 : decode cX0_chooseAsIn 9 = .ok (.iload_n 3, 1) := by decide +kernel
theorem dX0_chooseAsIn_10 : decode cX0_chooseAsIn 10 = .ok (.ifCond .lt 37, 3) := by decide +kernel
theorem dX0_chooseAsIn_13 : decode cX0_chooseAsIn 13 = .ok (.aload_n 0, 1) := by decide +kernel
theorem dX0_chooseAsIn_14 : decode cX0_chooseAsIn 14 = .ok (.getfield 48, 3) := by decide +kernel
theorem dX0_chooseAsIn_17 : decode cX0_chooseAsIn 17 = .ok (.ifCond .le 30, 3) := by decide +kernel
theorem dX0_chooseAsIn_20 : decode cX0_chooseAsIn 20 = .ok (.aload_n 0, 1) := by decide +kernel
theorem dX0_chooseAsIn_21 : decode cX0_chooseAsIn 21 = .ok (.getfield 18, 3) := by decide +kernel
theorem dX0_chooseAsIn_24 : decode cX0_chooseAsIn 24 = .ok (.iload_n 3, 1) := by decide +kernel
theorem dX0_chooseAsIn_25 : decode cX0_chooseAsIn 25 = .ok (.iload_n 2, 1) := by decide +kernel
theorem dX0_chooseAsIn_26 : decode cX0_chooseAsIn 26 = .ok (.aload_n 0, 1) := by decide +kernel
theorem dX0_chooseAsIn_27 : decode cX0_chooseAsIn 27 = .ok (.getfield 48, 3) := by decide +kernel
theorem dX0_chooseAsIn_30 : decode cX0_chooseAsIn 30 = .ok (.irem, 1) := by decide +kernel
theorem dX0_chooseAsIn_31 : decode cX0_chooseAsIn 31 = .ok (.invokestatic 60, 3) := by decide +kernel
theorem dX0_chooseAsIn_34 : decode cX0_chooseAsIn 34 = .ok (.iload_n 2, 1) := by decide +kernel
theorem dX0_chooseAsIn_35 : decode cX0_chooseAsIn 35 = .ok (.aload_n 0, 1) := by decide +kernel
theorem dX0_chooseAsIn_36 : decode cX0_chooseAsIn 36 = .ok (.getfield 48, 3) := by decide +kernel
theorem dX0_chooseAsIn_39 : decode cX0_chooseAsIn 39 = .ok (.idiv, 1) := by decide +kernel
theorem dX0_chooseAsIn_40 : decode cX0_chooseAsIn 40 = .ok (.istore_n 2, 1) := by decide +kernel
theorem dX0_chooseAsIn_41 : decode cX0_chooseAsIn 41 = .ok (.iinc 3 (-1), 3) := by decide +kernel
theorem dX0_chooseAsIn_44 : decode cX0_chooseAsIn 44 = .ok (.goto (-35), 3) := by decide +kernel
theorem dX0_chooseAsIn_47 : decode cX0_chooseAsIn 47 = .ok (.return_, 1) := by decide +kernel
theorem dX0_worksBeforeTheFirstMisfit_0 : decode cX0_worksBeforeTheFirstMisfit 0 = .ok (.iconst 0, 1) := by decide +kernel
theorem dX0_worksBeforeTheFirstMisfit_1 : decode cX0_worksBeforeTheFirstMisfit 1 = .ok (.istore_n 1, 1) := by decide +kernel
theorem dX0_worksBeforeTheFirstMisfit_2 : decode cX0_worksBeforeTheFirstMisfit 2 = .ok (.iload_n 1, 1) := by decide +kernel
theorem dX0_worksBeforeTheFirstMisfit_3 : decode cX0_worksBeforeTheFirstMisfit 3 = .ok (.aload_n 0, 1) := by decide +kernel
theorem dX0_worksBeforeTheFirstMisfit_4 : decode cX0_worksBeforeTheFirstMisfit 4 = .ok (.getfield 39, 3) := by decide +kernel
theorem dX0_worksBeforeTheFirstMisfit_7 : decode cX0_worksBeforeTheFirstMisfit 7 = .ok (.if_icmp .ge 19, 3) := by decide +kernel
theorem dX0_worksBeforeTheFirstMisfit_10 : decode cX0_worksBeforeTheFirstMisfit 10 = .ok (.aload_n 0, 1) := by decide +kernel
theorem dX0_worksBeforeTheFirstMisfit_11 : decode cX0_worksBeforeTheFirstMisfit 11 = .ok (.iload_n 1, 1) := by decide +kernel
theorem dX0_worksBeforeTheFirstMisfit_12 : decode cX0_worksBeforeTheFirstMisfit 12 = .ok (.invokevirtual 109, 3) := by decide +kernel
theorem dX0_worksBeforeTheFirstMisfit_15 : decode cX0_worksBeforeTheFirstMisfit 15 = .ok (.ifCond .ne 5, 3) := by decide +kernel
theorem dX0_worksBeforeTheFirstMisfit_18 : decode cX0_worksBeforeTheFirstMisfit 18 = .ok (.iload_n 1, 1) := by decide +kernel
theorem dX0_worksBeforeTheFirstMisfit_19 : decode cX0_worksBeforeTheFirstMisfit 19 = .ok (.ireturn, 1) := by decide +kernel
theorem dX0_worksBeforeTheFirstMisfit_20 : decode cX0_worksBeforeTheFirstMisfit 20 = .ok (.iinc 1 1, 3) := by decide +kernel
theorem dX0_worksBeforeTheFirstMisfit_23 : decode cX0_worksBeforeTheFirstMisfit 23 = .ok (.goto (-21), 3) := by decide +kernel
theorem dX0_worksBeforeTheFirstMisfit_26 : decode cX0_worksBeforeTheFirstMisfit 26 = .ok (.aload_n 0, 1) := by decide +kernel
theorem dX0_worksBeforeTheFirstMisfit_27 : decode cX0_worksBeforeTheFirstMisfit 27 = .ok (.getfield 39, 3) := by decide +kernel
theorem dX0_worksBeforeTheFirstMisfit_30 : decode cX0_worksBeforeTheFirstMisfit 30 = .ok (.ireturn, 1) := by decide +kernel
theorem dX0_fitsToThoseBefore_0 : decode cX0_fitsToThoseBefore 0 = .ok (.aload_n 0, 1) := by decide +kernel
theorem dX0_fitsToThoseBefore_1 : decode cX0_fitsToThoseBefore 1 = .ok (.getfield 18, 3) := by decide +kernel
theorem dX0_fitsToThoseBefore_4 : decode cX0_fitsToThoseBefore 4 = .ok (.iload_n 1, 1) := by decide +kernel
theorem dX0_fitsToThoseBefore_5 : decode cX0_fitsToThoseBefore 5 = .ok (.invokestatic 97, 3) := by decide +kernel
theorem dX0_fitsToThoseBefore_8 : decode cX0_fitsToThoseBefore 8 = .ok (.istore_n 2, 1) := by decide +kernel
theorem dX0_fitsToThoseBefore_9 : decode cX0_fitsToThoseBefore 9 = .ok (.aload_n 0, 1) := by decide +kernel
theorem dX0_fitsToThoseBefore_10 : decode cX0_fitsToThoseBefore 10 = .ok (.getfield 21, 3) := by decide +kernel
theorem dX0_fitsToThoseBefore_13 : decode cX0_fitsToThoseBefore 13 = .ok (.iload_n 1, 1) := by decide +kernel
theorem dX0_fitsToThoseBefore_14 : decode cX0_fitsToThoseBefore 14 = .ok (.bipush 8, 2) := by decide +kernel
theorem dX0_fitsToThoseBefore_16 : decode cX0_fitsToThoseBefore 16 = .ok (.imul, 1) := by decide +kernel
theorem dX0_fitsToThoseBefore_17 : decode cX0_fitsToThoseBefore 17 = .ok (.iload_n 2, 1) := by decide +kernel
theorem dX0_fitsToThoseBefore_18 : decode cX0_fitsToThoseBefore 18 = .ok (.iadd, 1) := by decide +kernel
theorem dX0_fitsToThoseBefore_19 : decode cX0_fitsToThoseBefore 19 = .ok (.invokestatic 97, 3) := by decide +kernel
theorem dX0_fitsToThoseBefore_22 : decode cX0_fitsToThoseBefore 22 = .ok (.ifCond .ne 5, 3) := by decide +kernel
theorem dX0_fitsToThoseBefore_25 : decode cX0_fitsToThoseBefore 25 = .ok (.iconst 0, 1) := by decide +kernel
theorem dX0_fitsToThoseBefore_26 : decode cX0_fitsToThoseBefore 26 = .ok (.ireturn, 1) := by decide +kernel
theorem dX0_fitsToThoseBefore_27 : decode cX0_fitsToThoseBefore 27 = .ok (.aload_n 0, 1) := by decide +kernel
theorem dX0_fitsToThoseBefore_28 : decode cX0_fitsToThoseBefore 28 = .ok (.getfield 15, 3) := by decide +kernel
theorem dX0_fitsToThoseBefore_31 : decode cX0_fitsToThoseBefore 31 = .ok (.iload_n 1, 1) := by decide +kernel
theorem dX0_fitsToThoseBefore_32 : decode cX0_fitsToThoseBefore 32 = .ok (.invokestatic 97, 3) := by decide +kernel
theorem dX0_fitsToThoseBefore_35 : decode cX0_fitsToThoseBefore 35 = .ok (.istore_n 3, 1) := by decide +kernel
theorem dX0_fitsToThoseBefore_36 : decode cX0_fitsToThoseBefore 36 = .ok (.iconst 0, 1) := by decide +kernel
theorem dX0_fitsToThoseBefore_37 : decode cX0_fitsToThoseBefore 37 = .ok (.istore 4, 2) := by decide +kernel
theorem dX0_fitsToThoseBefore_39 : decode cX0_fitsToThoseBefore 39 = .ok (.iload 4, 2) := by decide +kernel
theorem dX0_fitsToThoseBefore_41 : decode cX0_fitsToThoseBefore 41 = .ok (.iload_n 1, 1) := by decide +kernel
theorem dX0_fitsToThoseBefore_42 : decode cX0_fitsToThoseBefore 42 = .ok (.if_icmp .ge 67, 3) := by decide +kernel
theorem dX0_fitsToThoseBefore_45 : decode cX0_fitsToThoseBefore 45 = .ok (.aload_n 0, 1) := by decide +kernel
theorem dX0_fitsToThoseBefore_46 : decode cX0_fitsToThoseBefore 46 = .ok (.getfield 18, 3) := by decide +kernel
theorem dX0_fitsToThoseBefore_49 : decode cX0_fitsToThoseBefore 49 = .ok (.iload 4, 2) := by decide +kernel
theorem dX0_fitsToThoseBefore_51 : decode cX0_fitsToThoseBefore 51 = .ok (.invokestatic 97, 3) := by decide +kernel
theorem dX0_fitsToThoseBefore_54 : decode cX0_fitsToThoseBefore 54 = .ok (.istore 5, 2) := by decide +kernel
theorem dX0_fitsToThoseBefore_56 : decode cX0_fitsToThoseBefore 56 = .ok (.aload_n 0, 1) := by decide +kernel
theorem dX0_fitsToThoseBefore_57 : decode cX0_fitsToThoseBefore 57 = .ok (.getfield 24, 3) := by decide +kernel
theorem dX0_fitsToThoseBefore_60 : decode cX0_fitsToThoseBefore 60 = .ok (.iload_n 1, 1) := by decide +kernel
theorem dX0_fitsToThoseBefore_61 : decode cX0_fitsToThoseBefore 61 = .ok (.iconst 5, 1) := by decide +kernel
theorem dX0_fitsToThoseBefore_62 : decode cX0_fitsToThoseBefore 62 = .ok (.imul, 1) := by decide +kernel
theorem dX0_fitsToThoseBefore_63 : decode cX0_fitsToThoseBefore 63 = .ok (.iload 4, 2) := by decide +kernel
theorem dX0_fitsToThoseBefore_65 : decode cX0_fitsToThoseBefore 65 = .ok (.iadd, 1) := by decide +kernel
theorem dX0_fitsToThoseBefore_66 : decode cX0_fitsToThoseBefore 66 = .ok (.invokestatic 97, 3) := by decide +kernel
theorem dX0_fitsToThoseBefore_69 : decode cX0_fitsToThoseBefore 69 = .ok (.i2c, 1) := by decide +kernel
theorem dX0_fitsToThoseBefore_70 : decode cX0_fitsToThoseBefore 70 = .ok (.iload_n 2, 1) := by decide +kernel
theorem dX0_fitsToThoseBefore_71 : decode cX0_fitsToThoseBefore 71 = .ok (.iload 5, 2) := by decide +kernel
theorem dX0_fitsToThoseBefore_73 : decode cX0_fitsToThoseBefore 73 = .ok (.invokestatic 129, 3) := by decide +kernel
theorem dX0_fitsToThoseBefore_76 : decode cX0_fitsToThoseBefore 76 = .ok (.ifCond .eq 5, 3) := by decide +kernel
theorem dX0_fitsToThoseBefore_79 : decode cX0_fitsToThoseBefore 79 = .ok (.iconst 0, 1) := by decide +kernel
theorem dX0_fitsToThoseBefore_80 : decode cX0_fitsToThoseBefore 80 = .ok (.ireturn, 1) := by decide +kernel
theorem dX0_fitsToThoseBefore_81 : decode cX0_fitsToThoseBefore 81 = .ok (.iload_n 3, 1) := by decide +kernel
theorem dX0_fitsToThoseBefore_82 : decode cX0_fitsToThoseBefore 82 = .ok (.iload 5, 2) := by decide +kernel
theorem dX0_fitsToThoseBefore_84 : decode cX0_fitsToThoseBefore 84 = .ok (.iload_n 2, 1) := by decide +kernel
theorem dX0_fitsToThoseBefore_85 : decode cX0_fitsToThoseBefore 85 = .ok (.if_icmp .ne 15, 3) := by decide +kernel
theorem dX0_fitsToThoseBefore_88 : decode cX0_fitsToThoseBefore 88 = .ok (.aload_n 0, 1) := by decide +kernel
theorem dX0_fitsToThoseBefore_89 : decode cX0_fitsToThoseBefore 89 = .ok (.getfield 15, 3) := by decide +kernel
theorem dX0_fitsToThoseBefore_92 : decode cX0_fitsToThoseBefore 92 = .ok (.iload 4, 2) := by decide +kernel
theorem dX0_fitsToThoseBefore_94 : decode cX0_fitsToThoseBefore 94 = .ok (.invokestatic 97, 3) := by decide +kernel
theorem dX0_fitsToThoseBefore_97 : decode cX0_fitsToThoseBefore 97 = .ok (.goto 4, 3) := by decide +kernel
theorem dX0_fitsToThoseBefore_100 : decode cX0_fitsToThoseBefore 100 = .ok (.iconst 0, 1) := by decide +kernel
theorem dX0_fitsToThoseBefore_101 : decode cX0_fitsToThoseBefore 101 = .ok (.iadd, 1) := by decide +kernel
theorem dX0_fitsToThoseBefore_102 : decode cX0_fitsToThoseBefore 102 = .ok (.istore_n 3, 1) := by decide +kernel
theorem dX0_fitsToThoseBefore_103 : decode cX0_fitsToThoseBefore 103 = .ok (.iinc 4 1, 3) := by decide +kernel
theorem dX0_fitsToThoseBefore_106 : decode cX0_fitsToThoseBefore 106 = .ok (.goto (-67), 3) := by decide +kernel
theorem dX0_fitsToThoseBefore_109 : decode cX0_fitsToThoseBefore 109 = .ok (.iload_n 3, 1) := by decide +kernel
theorem dX0_fitsToThoseBefore_110 : decode cX0_fitsToThoseBefore 110 = .ok (.aload_n 0, 1) := by decide +kernel
theorem dX0_fitsToThoseBefore_111 : decode cX0_fitsToThoseBefore 111 = .ok (.getfield 9, 3) := by decide +kernel
theorem dX0_fitsToThoseBefore_114 : decode cX0_fitsToThoseBefore 114 = .ok (.iload_n 2, 1) := by decide +kernel
theorem dX0_fitsToThoseBefore_115 : decode cX0_fitsToThoseBefore 115 = .ok (.invokestatic 97, 3) := by decide +kernel
theorem dX0_fitsToThoseBefore_118 : decode cX0_fitsToThoseBefore 118 = .ok (.if_icmp .gt 7, 3) := by decide +kernel
theorem dX0_fitsToThoseBefore_121 : decode cX0_fitsToThoseBefore 121 = .ok (.iconst 1, 1) := by decide +kernel
theorem dX0_fitsToThoseBefore_122 : decode cX0_fitsToThoseBefore 122 = .ok (.goto 4, 3) := by decide +kernel
theorem dX0_fitsToThoseBefore_125 : decode cX0_fitsToThoseBefore 125 = .ok (.iconst 0, 1) := by decide +kernel
theorem dX0_fitsToThoseBefore_126 : decode cX0_fitsToThoseBefore 126 = .ok (.ireturn, 1) := by decide +kernel
theorem dX0_power_0 : decode cX0_power 0 = .ok (.iconst 1, 1) := by decide +kernel
theorem dX0_power_1 : decode cX0_power 1 = .ok (.istore_n 2, 1) := by decide +kernel
theorem dX0_power_2 : decode cX0_power 2 = .ok (.iconst 0, 1) := by decide +kernel
theorem dX0_power_3 : decode cX0_power 3 = .ok (.istore_n 3, 1) := by decide +kernel
theorem dX0_power_4 : decode cX0_power 4 = .ok (.iload_n 3, 1) := by decide +kernel
theorem dX0_power_5 : decode cX0_power 5 = .ok (.iload_n 1, 1) := by decide +kernel
theorem dX0_power_6 : decode cX0_power 6 = .ok (.if_icmp .ge 13, 3) := by decide +kernel
theorem dX0_power_9 : decode cX0_power 9 = .ok (.iload_n 2, 1) := by decide +kernel
theorem dX0_power_10 : decode cX0_power 10 = .ok (.iload_n 0, 1) := by decide +kernel
theorem dX0_power_11 : decode cX0_power 11 = .ok (.imul, 1) := by decide +kernel
theorem dX0_power_12 : decode cX0_power 12 = .ok (.istore_n 2, 1) := by decide +kernel
theorem dX0_power_13 : decode cX0_power 13 = .ok (.iinc 3 1, 3) := by decide +kernel
theorem dX0_power_16 : decode cX0_power 16 = .ok (.goto (-12), 3) := by decide +kernel
theorem dX0_power_19 : decode cX0_power 19 = .ok (.iload_n 2, 1) := by decide +kernel
theorem dX0_power_20 : decode cX0_power 20 = .ok (.ireturn, 1) := by decide +kernel
theorem dX1_init_0 : decode cX1_init 0 = .ok (.aload_n 0, 1) := by decide +kernel
theorem dX1_init_1 : decode cX1_init 1 = .ok (.invokespecial 3, 3) := by decide +kernel
theorem dX1_init_4 : decode cX1_init 4 = .ok (.aload_n 0, 1) := by decide +kernel
theorem dX1_init_5 : decode cX1_init 5 = .ok (.new 9, 3) := by decide +kernel
theorem dX1_init_8 : decode cX1_init 8 = .ok (.dup, 1) := by decide +kernel
theorem dX1_init_9 : decode cX1_init 9 = .ok (.invokespecial 11, 3) := by decide +kernel
theorem dX1_init_12 : decode cX1_init 12 = .ok (.putfield 12, 3) := by decide +kernel
theorem dX1_init_15 : decode cX1_init 15 = .ok (.return_, 1) := by decide +kernel
theorem dX1_takenOn_0 : decode cX1_takenOn 0 = .ok (.iconst 0, 1) := by decide +kernel
theorem dX1_takenOn_1 : decode cX1_takenOn 1 = .ok (.istore_n 3, 1) := by decide +kernel
theorem dX1_takenOn_2 : decode cX1_takenOn 2 = .ok (.iconst 0, 1) := by decide +kernel
theorem dX1_takenOn_3 : decode cX1_takenOn 3 = .ok (.istore 4, 2) := by decide +kernel
theorem dX1_takenOn_5 : decode cX1_takenOn 5 = .ok (.iload 4, 2) := by decide +kernel
theorem dX1_takenOn_7 : decode cX1_takenOn 7 = .ok (.aload_n 0, 1) := by decide +kernel
theorem dX1_takenOn_8 : decode cX1_takenOn 8 = .ok (.getfield 12, 3) := by decide +kernel
theorem dX1_takenOn_11 : decode cX1_takenOn 11 = .ok (.invokevirtual 18, 3) := by decide +kernel
theorem dX1_takenOn_14 : decode cX1_takenOn 14 = .ok (.if_icmp .ge 45, 3) := by decide +kernel
theorem dX1_takenOn_17 : decode cX1_takenOn 17 = .ok (.aload_n 0, 1) := by decide +kernel
theorem dX1_takenOn_18 : decode cX1_takenOn 18 = .ok (.getfield 12, 3) := by decide +kernel
theorem dX1_takenOn_21 : decode cX1_takenOn 21 = .ok (.iload 4, 2) := by decide +kernel
theorem dX1_takenOn_23 : decode cX1_takenOn 23 = .ok (.invokevirtual 22, 3) := by decide +kernel
theorem dX1_takenOn_26 : decode cX1_takenOn 26 = .ok (.checkcast 26, 3) := by decide +kernel
theorem dX1_takenOn_29 : decode cX1_takenOn 29 = .ok (.astore 5, 2) := by decide +kernel
theorem dX1_takenOn_31 : decode cX1_takenOn 31 = .ok (.iload_n 3, 1) := by decide +kernel
theorem dX1_takenOn_32 : decode cX1_takenOn 32 = .ok (.aload 5, 2) := by decide +kernel
theorem dX1_takenOn_34 : decode cX1_takenOn 34 = .ok (.iload_n 2, 1) := by decide +kernel
theorem dX1_takenOn_35 : decode cX1_takenOn 35 = .ok (.invokevirtual 28, 3) := by decide +kernel
theorem dX1_takenOn_38 : decode cX1_takenOn 38 = .ok (.ifCond .eq 12, 3) := by decide +kernel
theorem dX1_takenOn_41 : decode cX1_takenOn 41 = .ok (.aload 5, 2) := by decide +kernel
theorem dX1_takenOn_43 : decode cX1_takenOn 43 = .ok (.iload_n 1, 1) := by decide +kernel
theorem dX1_takenOn_44 : decode cX1_takenOn 44 = .ok (.invokevirtual 32, 3) := by decide +kernel
theorem dX1_takenOn_47 : decode cX1_takenOn 47 = .ok (.goto 4, 3) := by decide +kernel
theorem dX1_takenOn_50 : decode cX1_takenOn 50 = .ok (.iconst 0, 1) := by decide +kernel
theorem dX1_takenOn_51 : decode cX1_takenOn 51 = .ok (.iadd, 1) := by decide +kernel
theorem dX1_takenOn_52 : decode cX1_takenOn 52 = .ok (.istore_n 3, 1) := by decide +kernel
theorem dX1_takenOn_53 : decode cX1_takenOn 53 = .ok (.iinc 4 1, 3) := by decide +kernel
theorem dX1_takenOn_56 : decode cX1_takenOn 56 = .ok (.goto (-51), 3) := by decide +kernel
theorem dX1_takenOn_59 : decode cX1_takenOn 59 = .ok (.iload_n 3, 1) := by decide +kernel
theorem dX1_takenOn_60 : decode cX1_takenOn 60 = .ok (.ireturn, 1) := by decide +kernel
theorem dX1_worksOn_0 : decode cX1_worksOn 0 = .ok (.iconst 0, 1) := by decide +kernel
theorem dX1_worksOn_1 : decode cX1_worksOn 1 = .ok (.istore_n 3, 1) := by decide +kernel
theorem dX1_worksOn_2 : decode cX1_worksOn 2 = .ok (.iconst 0, 1) := by decide +kernel
theorem dX1_worksOn_3 : decode cX1_worksOn 3 = .ok (.istore 4, 2) := by decide +kernel
theorem dX1_worksOn_5 : decode cX1_worksOn 5 = .ok (.iload 4, 2) := by decide +kernel
theorem dX1_worksOn_7 : decode cX1_worksOn 7 = .ok (.aload_n 0, 1) := by decide +kernel
theorem dX1_worksOn_8 : decode cX1_worksOn 8 = .ok (.getfield 12, 3) := by decide +kernel
theorem dX1_worksOn_11 : decode cX1_worksOn 11 = .ok (.invokevirtual 18, 3) := by decide +kernel
theorem dX1_worksOn_14 : decode cX1_worksOn 14 = .ok (.if_icmp .ge 45, 3) := by decide +kernel
theorem dX1_worksOn_17 : decode cX1_worksOn 17 = .ok (.aload_n 0, 1) := by decide +kernel
theorem dX1_worksOn_18 : decode cX1_worksOn 18 = .ok (.getfield 12, 3) := by decide +kernel
theorem dX1_worksOn_21 : decode cX1_worksOn 21 = .ok (.iload 4, 2) := by decide +kernel
theorem dX1_worksOn_23 : decode cX1_worksOn 23 = .ok (.invokevirtual 22, 3) := by decide +kernel
theorem dX1_worksOn_26 : decode cX1_worksOn 26 = .ok (.checkcast 26, 3) := by decide +kernel
theorem dX1_worksOn_29 : decode cX1_worksOn 29 = .ok (.astore 5, 2) := by decide +kernel
theorem dX1_worksOn_31 : decode cX1_worksOn 31 = .ok (.iload_n 3, 1) := by decide +kernel
theorem dX1_worksOn_32 : decode cX1_worksOn 32 = .ok (.aload 5, 2) := by decide +kernel
theorem dX1_worksOn_34 : decode cX1_worksOn 34 = .ok (.iload_n 2, 1) := by decide +kernel
theorem dX1_worksOn_35 : decode cX1_worksOn 35 = .ok (.invokevirtual 28, 3) := by decide +kernel
theorem dX1_worksOn_38 : decode cX1_worksOn 38 = .ok (.ifCond .eq 12, 3) := by decide +kernel
theorem dX1_worksOn_41 : decode cX1_worksOn 41 = .ok (.aload 5, 2) := by decide +kernel
theorem dX1_worksOn_43 : decode cX1_worksOn 43 = .ok (.iload_n 1, 1) := by decide +kernel
theorem dX1_worksOn_44 : decode cX1_worksOn 44 = .ok (.invokevirtual 36, 3) := by decide +kernel
theorem dX1_worksOn_47 : decode cX1_worksOn 47 = .ok (.goto 4, 3) := by decide +kernel
theorem dX1_worksOn_50 : decode cX1_worksOn 50 = .ok (.iconst 0, 1) := by decide +kernel
theorem dX1_worksOn_51 : decode cX1_worksOn 51 = .ok (.iadd, 1) := by decide +kernel
theorem dX1_worksOn_52 : decode cX1_worksOn 52 = .ok (.istore_n 3, 1) := by decide +kernel
theorem dX1_worksOn_53 : decode cX1_worksOn 53 = .ok (.iinc 4 1, 3) := by decide +kernel
theorem dX1_worksOn_56 : decode cX1_worksOn 56 = .ok (.goto (-51), 3) := by decide +kernel
theorem dX1_worksOn_59 : decode cX1_worksOn 59 = .ok (.iload_n 3, 1) := by decide +kernel
theorem dX1_worksOn_60 : decode cX1_worksOn 60 = .ok (.ireturn, 1) := by decide +kernel
theorem dX1_mostTakenDuring_0 : decode cX1_mostTakenDuring 0 = .ok (.aload_n 0, 1) := by decide +kernel
theorem dX1_mostTakenDuring_1 : decode cX1_mostTakenDuring 1 = .ok (.iload_n 2, 1) := by decide +kernel
theorem dX1_mostTakenDuring_2 : decode cX1_mostTakenDuring 2 = .ok (.aload_n 1, 1) := by decide +kernel
theorem dX1_mostTakenDuring_3 : decode cX1_mostTakenDuring 3 = .ok (.getfield 39, 3) := by decide +kernel
theorem dX1_mostTakenDuring_6 : decode cX1_mostTakenDuring 6 = .ok (.invokevirtual 43, 3) := by decide +kernel
theorem dX1_mostTakenDuring_9 : decode cX1_mostTakenDuring 9 = .ok (.istore_n 3, 1) := by decide +kernel
theorem dX1_mostTakenDuring_10 : decode cX1_mostTakenDuring 10 = .ok (.iconst 0, 1) := by decide +kernel
theorem dX1_mostTakenDuring_11 : decode cX1_mostTakenDuring 11 = .ok (.istore 4, 2) := by decide +kernel
theorem dX1_mostTakenDuring_13 : decode cX1_mostTakenDuring 13 = .ok (.iload 4, 2) := by decide +kernel
theorem dX1_mostTakenDuring_15 : decode cX1_mostTakenDuring 15 = .ok (.aload_n 0, 1) := by decide +kernel
theorem dX1_mostTakenDuring_16 : decode cX1_mostTakenDuring 16 = .ok (.getfield 12, 3) := by decide +kernel
theorem dX1_mostTakenDuring_19 : decode cX1_mostTakenDuring 19 = .ok (.invokevirtual 18, 3) := by decide +kernel
theorem dX1_mostTakenDuring_22 : decode cX1_mostTakenDuring 22 = .ok (.if_icmp .ge 54, 3) := by decide +kernel
theorem dX1_mostTakenDuring_25 : decode cX1_mostTakenDuring 25 = .ok (.aload_n 0, 1) := by decide +kernel
theorem dX1_mostTakenDuring_26 : decode cX1_mostTakenDuring 26 = .ok (.getfield 12, 3) := by decide +kernel
theorem dX1_mostTakenDuring_29 : decode cX1_mostTakenDuring 29 = .ok (.iload 4, 2) := by decide +kernel
theorem dX1_mostTakenDuring_31 : decode cX1_mostTakenDuring 31 = .ok (.invokevirtual 22, 3) := by decide +kernel
theorem dX1_mostTakenDuring_34 : decode cX1_mostTakenDuring 34 = .ok (.checkcast 26, 3) := by decide +kernel
theorem dX1_mostTakenDuring_37 : decode cX1_mostTakenDuring 37 = .ok (.getfield 39, 3) := by decide +kernel
theorem dX1_mostTakenDuring_40 : decode cX1_mostTakenDuring 40 = .ok (.istore 5, 2) := by decide +kernel
theorem dX1_mostTakenDuring_42 : decode cX1_mostTakenDuring 42 = .ok (.iload 5, 2) := by decide +kernel
theorem dX1_mostTakenDuring_44 : decode cX1_mostTakenDuring 44 = .ok (.aload_n 1, 1) := by decide +kernel
theorem dX1_mostTakenDuring_45 : decode cX1_mostTakenDuring 45 = .ok (.getfield 39, 3) := by decide +kernel
theorem dX1_mostTakenDuring_48 : decode cX1_mostTakenDuring 48 = .ok (.aload_n 1, 1) := by decide +kernel
theorem dX1_mostTakenDuring_49 : decode cX1_mostTakenDuring 49 = .ok (.getfield 47, 3) := by decide +kernel
theorem dX1_mostTakenDuring_52 : decode cX1_mostTakenDuring 52 = .ok (.invokestatic 50, 3) := by decide +kernel
theorem dX1_mostTakenDuring_55 : decode cX1_mostTakenDuring 55 = .ok (.ifCond .eq 15, 3) := by decide +kernel
theorem dX1_mostTakenDuring_58 : decode cX1_mostTakenDuring 58 = .ok (.iload_n 3, 1) := by decide +kernel
theorem dX1_mostTakenDuring_59 : decode cX1_mostTakenDuring 59 = .ok (.aload_n 0, 1) := by decide +kernel
theorem dX1_mostTakenDuring_60 : decode cX1_mostTakenDuring 60 = .ok (.iload_n 2, 1) := by decide +kernel
theorem dX1_mostTakenDuring_61 : decode cX1_mostTakenDuring 61 = .ok (.iload 5, 2) := by decide +kernel
theorem dX1_mostTakenDuring_63 : decode cX1_mostTakenDuring 63 = .ok (.invokevirtual 43, 3) := by decide +kernel
theorem dX1_mostTakenDuring_66 : decode cX1_mostTakenDuring 66 = .ok (.invokestatic 54, 3) := by decide +kernel
theorem dX1_mostTakenDuring_69 : decode cX1_mostTakenDuring 69 = .ok (.istore_n 3, 1) := by decide +kernel
theorem dX1_mostTakenDuring_70 : decode cX1_mostTakenDuring 70 = .ok (.iinc 4 1, 3) := by decide +kernel
theorem dX1_mostTakenDuring_73 : decode cX1_mostTakenDuring 73 = .ok (.goto (-60), 3) := by decide +kernel
theorem dX1_mostTakenDuring_76 : decode cX1_mostTakenDuring 76 = .ok (.iload_n 3, 1) := by decide +kernel
theorem dX1_mostTakenDuring_77 : decode cX1_mostTakenDuring 77 = .ok (.ireturn, 1) := by decide +kernel
theorem dX1_isAgainst_0 : decode cX1_isAgainst 0 = .ok (.iconst 0, 1) := by decide +kernel
theorem dX1_isAgainst_1 : decode cX1_isAgainst 1 = .ok (.istore 5, 2) := by decide +kernel
theorem dX1_isAgainst_3 : decode cX1_isAgainst 3 = .ok (.iload 5, 2) := by decide +kernel
theorem dX1_isAgainst_5 : decode cX1_isAgainst 5 = .ok (.aload_n 0, 1) := by decide +kernel
theorem dX1_isAgainst_6 : decode cX1_isAgainst 6 = .ok (.getfield 12, 3) := by decide +kernel
theorem dX1_isAgainst_9 : decode cX1_isAgainst 9 = .ok (.invokevirtual 18, 3) := by decide +kernel
theorem dX1_isAgainst_12 : decode cX1_isAgainst 12 = .ok (.if_icmp .ge 105, 3) := by decide +kernel
theorem dX1_isAgainst_15 : decode cX1_isAgainst 15 = .ok (.aload_n 0, 1) := by decide +kernel
theorem dX1_isAgainst_16 : decode cX1_isAgainst 16 = .ok (.getfield 12, 3) := by decide +kernel
theorem dX1_isAgainst_19 : decode cX1_isAgainst 19 = .ok (.iload 5, 2) := by decide +kernel
theorem dX1_isAgainst_21 : decode cX1_isAgainst 21 = .ok (.invokevirtual 22, 3) := by decide +kernel
theorem dX1_isAgainst_24 : decode cX1_isAgainst 24 = .ok (.checkcast 26, 3) := by decide +kernel
theorem dX1_isAgainst_27 : decode cX1_isAgainst 27 = .ok (.astore 6, 2) := by decide +kernel
theorem dX1_isAgainst_29 : decode cX1_isAgainst 29 = .ok (.aload 6, 2) := by decide +kernel
theorem dX1_isAgainst_31 : decode cX1_isAgainst 31 = .ok (.aload_n 2, 1) := by decide +kernel
theorem dX1_isAgainst_32 : decode cX1_isAgainst 32 = .ok (.invokevirtual 59, 3) := by decide +kernel
theorem dX1_isAgainst_35 : decode cX1_isAgainst 35 = .ok (.ifCond .ne 6, 3) := by decide +kernel
theorem dX1_isAgainst_38 : decode cX1_isAgainst 38 = .ok (.goto 73, 3) := by decide +kernel
theorem dX1_isAgainst_41 : decode cX1_isAgainst 41 = .ok (.iconst 0, 1) := by decide +kernel
theorem dX1_isAgainst_42 : decode cX1_isAgainst 42 = .ok (.istore 7, 2) := by decide +kernel
theorem dX1_isAgainst_44 : decode cX1_isAgainst 44 = .ok (.iload 7, 2) := by decide +kernel
theorem dX1_isAgainst_46 : decode cX1_isAgainst 46 = .ok (.aload 6, 2) := by decide +kernel
theorem dX1_isAgainst_48 : decode cX1_isAgainst 48 = .ok (.getfield 63, 3) := by decide +kernel
theorem dX1_isAgainst_51 : decode cX1_isAgainst 51 = .ok (.invokevirtual 18, 3) := by decide +kernel
theorem dX1_isAgainst_54 : decode cX1_isAgainst 54 = .ok (.if_icmp .ge 57, 3) := by decide +kernel
theorem dX1_isAgainst_57 : decode cX1_isAgainst 57 = .ok (.aload_n 1, 1) := by decide +kernel
theorem dX1_isAgainst_58 : decode cX1_isAgainst 58 = .ok (.aload_n 3, 1) := by decide +kernel
theorem dX1_isAgainst_59 : decode cX1_isAgainst 59 = .ok (.getfield 66, 3) := by decide +kernel
theorem dX1_isAgainst_62 : decode cX1_isAgainst 62 = .ok (.aload 6, 2) := by decide +kernel
theorem dX1_isAgainst_64 : decode cX1_isAgainst 64 = .ok (.getfield 63, 3) := by decide +kernel
theorem dX1_isAgainst_67 : decode cX1_isAgainst 67 = .ok (.iload 7, 2) := by decide +kernel
theorem dX1_isAgainst_69 : decode cX1_isAgainst 69 = .ok (.invokevirtual 22, 3) := by decide +kernel
theorem dX1_isAgainst_72 : decode cX1_isAgainst 72 = .ok (.checkcast 67, 3) := by decide +kernel
theorem dX1_isAgainst_75 : decode cX1_isAgainst 75 = .ok (.getfield 66, 3) := by decide +kernel
theorem dX1_isAgainst_78 : decode cX1_isAgainst 78 = .ok (.invokevirtual 71, 3) := by decide +kernel
theorem dX1_isAgainst_81 : decode cX1_isAgainst 81 = .ok (.istore 8, 2) := by decide +kernel
theorem dX1_isAgainst_83 : decode cX1_isAgainst 83 = .ok (.iload 8, 2) := by decide +kernel
theorem dX1_isAgainst_85 : decode cX1_isAgainst 85 = .ok (.iload 4, 2) := by decide +kernel
theorem dX1_isAgainst_87 : decode cX1_isAgainst 87 = .ok (.aload 6, 2) := by decide +kernel
theorem dX1_isAgainst_89 : decode cX1_isAgainst 89 = .ok (.getfield 77, 3) := by decide +kernel
theorem dX1_isAgainst_92 : decode cX1_isAgainst 92 = .ok (.iload 7, 2) := by decide +kernel
theorem dX1_isAgainst_94 : decode cX1_isAgainst 94 = .ok (.invokestatic 81, 3) := by decide +kernel
theorem dX1_isAgainst_97 : decode cX1_isAgainst 97 = .ok (.invokestatic 85, 3) := by decide +kernel
theorem dX1_isAgainst_100 : decode cX1_isAgainst 100 = .ok (.ifCond .eq 5, 3) := by decide +kernel
theorem dX1_isAgainst_103 : decode cX1_isAgainst 103 = .ok (.iconst 1, 1) := by decide +kernel
theorem dX1_isAgainst_104 : decode cX1_isAgainst 104 = .ok (.ireturn, 1) := by decide +kernel
theorem dX1_isAgainst_105 : decode cX1_isAgainst 105 = .ok (.iinc 7 1, 3) := by decide +kernel
theorem dX1_isAgainst_108 : decode cX1_isAgainst 108 = .ok (.goto (-64), 3) := by decide +kernel
theorem dX1_isAgainst_111 : decode cX1_isAgainst 111 = .ok (.iinc 5 1, 3) := by decide +kernel
theorem dX1_isAgainst_114 : decode cX1_isAgainst 114 = .ok (.goto (-111), 3) := by decide +kernel
theorem dX1_isAgainst_117 : decode cX1_isAgainst 117 = .ok (.iconst 0, 1) := by decide +kernel
theorem dX1_isAgainst_118 : decode cX1_isAgainst 118 = .ok (.ireturn, 1) := by decide +kernel
theorem dX1_hangsAgainst_0 : decode cX1_hangsAgainst 0 = .ok (.iconst 0, 1) := by decide +kernel
theorem dX1_hangsAgainst_1 : decode cX1_hangsAgainst 1 = .ok (.istore 4, 2) := by decide +kernel
theorem dX1_hangsAgainst_3 : decode cX1_hangsAgainst 3 = .ok (.iload 4, 2) := by decide +kernel
theorem dX1_hangsAgainst_5 : decode cX1_hangsAgainst 5 = .ok (.aload_n 0, 1) := by decide +kernel
theorem dX1_hangsAgainst_6 : decode cX1_hangsAgainst 6 = .ok (.getfield 12, 3) := by decide +kernel
theorem dX1_hangsAgainst_9 : decode cX1_hangsAgainst 9 = .ok (.invokevirtual 18, 3) := by decide +kernel
theorem dX1_hangsAgainst_12 : decode cX1_hangsAgainst 12 = .ok (.if_icmp .ge 70, 3) := by decide +kernel
theorem dX1_hangsAgainst_15 : decode cX1_hangsAgainst 15 = .ok (.aload_n 0, 1) := by decide +kernel
theorem dX1_hangsAgainst_16 : decode cX1_hangsAgainst 16 = .ok (.getfield 12, 3) := by decide +kernel
theorem dX1_hangsAgainst_19 : decode cX1_hangsAgainst 19 = .ok (.iload 4, 2) := by decide +kernel
theorem dX1_hangsAgainst_21 : decode cX1_hangsAgainst 21 = .ok (.invokevirtual 22, 3) := by decide +kernel
theorem dX1_hangsAgainst_24 : decode cX1_hangsAgainst 24 = .ok (.checkcast 26, 3) := by decide +kernel
theorem dX1_hangsAgainst_27 : decode cX1_hangsAgainst 27 = .ok (.astore 5, 2) := by decide +kernel
theorem dX1_hangsAgainst_29 : decode cX1_hangsAgainst 29 = .ok (.aload 5, 2) := by decide +kernel
theorem dX1_hangsAgainst_31 : decode cX1_hangsAgainst 31 = .ok (.aload_n 1, 1) := by decide +kernel
theorem dX1_hangsAgainst_32 : decode cX1_hangsAgainst 32 = .ok (.invokevirtual 89, 3) := by decide +kernel
theorem dX1_hangsAgainst_35 : decode cX1_hangsAgainst 35 = .ok (.istore 6, 2) := by decide +kernel
theorem dX1_hangsAgainst_37 : decode cX1_hangsAgainst 37 = .ok (.aload 5, 2) := by decide +kernel
theorem dX1_hangsAgainst_39 : decode cX1_hangsAgainst 39 = .ok (.getfield 93, 3) := by decide +kernel
theorem dX1_hangsAgainst_42 : decode cX1_hangsAgainst 42 = .ok (.bipush 112, 2) := by decide +kernel
theorem dX1_hangsAgainst_44 : decode cX1_hangsAgainst 44 = .ok (.if_icmp .ne 32, 3) := by decide +kernel
theorem dX1_hangsAgainst_47 : decode cX1_hangsAgainst 47 = .ok (.iload 6, 2) := by decide +kernel
theorem dX1_hangsAgainst_49 : decode cX1_hangsAgainst 49 = .ok (.iconst (-1), 1) := by decide +kernel
theorem dX1_hangsAgainst_50 : decode cX1_hangsAgainst 50 = .ok (.if_icmp .eq 26, 3) := by decide +kernel
theorem dX1_hangsAgainst_53 : decode cX1_hangsAgainst 53 = .ok (.aload_n 0, 1) := by decide +kernel
theorem dX1_hangsAgainst_54 : decode cX1_hangsAgainst 54 = .ok (.aload 5, 2) := by decide +kernel
theorem dX1_hangsAgainst_56 : decode cX1_hangsAgainst 56 = .ok (.aload 5, 2) := by decide +kernel
theorem dX1_hangsAgainst_58 : decode cX1_hangsAgainst 58 = .ok (.getfield 77, 3) := by decide +kernel
theorem dX1_hangsAgainst_61 : decode cX1_hangsAgainst 61 = .ok (.iload 6, 2) := by decide +kernel
theorem dX1_hangsAgainst_63 : decode cX1_hangsAgainst 63 = .ok (.invokestatic 81, 3) := by decide +kernel
theorem dX1_hangsAgainst_66 : decode cX1_hangsAgainst 66 = .ok (.aload_n 2, 1) := by decide +kernel
theorem dX1_hangsAgainst_67 : decode cX1_hangsAgainst 67 = .ok (.iload_n 3, 1) := by decide +kernel
theorem dX1_hangsAgainst_68 : decode cX1_hangsAgainst 68 = .ok (.invokevirtual 97, 3) := by decide +kernel
theorem dX1_hangsAgainst_71 : decode cX1_hangsAgainst 71 = .ok (.ifCond .eq 5, 3) := by decide +kernel
theorem dX1_hangsAgainst_74 : decode cX1_hangsAgainst 74 = .ok (.iconst 1, 1) := by decide +kernel
theorem dX1_hangsAgainst_75 : decode cX1_hangsAgainst 75 = .ok (.ireturn, 1) := by decide +kernel
theorem dX1_hangsAgainst_76 : decode cX1_hangsAgainst 76 = .ok (.iinc 4 1, 3) := by decide +kernel
theorem dX1_hangsAgainst_79 : decode cX1_hangsAgainst 79 = .ok (.goto (-76), 3) := by decide +kernel
theorem dX1_hangsAgainst_82 : decode cX1_hangsAgainst 82 = .ok (.iconst 0, 1) := by decide +kernel
theorem dX1_hangsAgainst_83 : decode cX1_hangsAgainst 83 = .ok (.ireturn, 1) := by decide +kernel
theorem dX1_meetsAgainst_0 : decode cX1_meetsAgainst 0 = .ok (.iconst 0, 1) := by decide +kernel
theorem dX1_meetsAgainst_1 : decode cX1_meetsAgainst 1 = .ok (.istore 5, 2) := by decide +kernel
theorem dX1_meetsAgainst_3 : decode cX1_meetsAgainst 3 = .ok (.iload 5, 2) := by decide +kernel
theorem dX1_meetsAgainst_5 : decode cX1_meetsAgainst 5 = .ok (.aload_n 0, 1) := by decide +kernel
theorem dX1_meetsAgainst_6 : decode cX1_meetsAgainst 6 = .ok (.getfield 12, 3) := by decide +kernel
theorem dX1_meetsAgainst_9 : decode cX1_meetsAgainst 9 = .ok (.invokevirtual 18, 3) := by decide +kernel
theorem dX1_meetsAgainst_12 : decode cX1_meetsAgainst 12 = .ok (.if_icmp .ge 67, 3) := by decide +kernel
theorem dX1_meetsAgainst_15 : decode cX1_meetsAgainst 15 = .ok (.aload_n 0, 1) := by decide +kernel
theorem dX1_meetsAgainst_16 : decode cX1_meetsAgainst 16 = .ok (.getfield 12, 3) := by decide +kernel
theorem dX1_meetsAgainst_19 : decode cX1_meetsAgainst 19 = .ok (.iload 5, 2) := by decide +kernel
theorem dX1_meetsAgainst_21 : decode cX1_meetsAgainst 21 = .ok (.invokevirtual 22, 3) := by decide +kernel
theorem dX1_meetsAgainst_24 : decode cX1_meetsAgainst 24 = .ok (.checkcast 26, 3) := by decide +kernel
theorem dX1_meetsAgainst_27 : decode cX1_meetsAgainst 27 = .ok (.astore 6, 2) := by decide +kernel
theorem dX1_meetsAgainst_29 : decode cX1_meetsAgainst 29 = .ok (.aload 6, 2) := by decide +kernel
theorem dX1_meetsAgainst_31 : decode cX1_meetsAgainst 31 = .ok (.aload_n 3, 1) := by decide +kernel
theorem dX1_meetsAgainst_32 : decode cX1_meetsAgainst 32 = .ok (.invokevirtual 89, 3) := by decide +kernel
theorem dX1_meetsAgainst_35 : decode cX1_meetsAgainst 35 = .ok (.istore 7, 2) := by decide +kernel
theorem dX1_meetsAgainst_37 : decode cX1_meetsAgainst 37 = .ok (.aload 6, 2) := by decide +kernel
theorem dX1_meetsAgainst_39 : decode cX1_meetsAgainst 39 = .ok (.aload_n 1, 1) := by decide +kernel
theorem dX1_meetsAgainst_40 : decode cX1_meetsAgainst 40 = .ok (.invokevirtual 59, 3) := by decide +kernel
theorem dX1_meetsAgainst_43 : decode cX1_meetsAgainst 43 = .ok (.ifCond .eq 30, 3) := by decide +kernel
theorem dX1_meetsAgainst_46 : decode cX1_meetsAgainst 46 = .ok (.iload 7, 2) := by decide +kernel
theorem dX1_meetsAgainst_48 : decode cX1_meetsAgainst 48 = .ok (.iconst (-1), 1) := by decide +kernel
theorem dX1_meetsAgainst_49 : decode cX1_meetsAgainst 49 = .ok (.if_icmp .eq 24, 3) := by decide +kernel
theorem dX1_meetsAgainst_52 : decode cX1_meetsAgainst 52 = .ok (.iload 4, 2) := by decide +kernel
theorem dX1_meetsAgainst_54 : decode cX1_meetsAgainst 54 = .ok (.iload_n 2, 1) := by decide +kernel
theorem dX1_meetsAgainst_55 : decode cX1_meetsAgainst 55 = .ok (.aload 6, 2) := by decide +kernel
theorem dX1_meetsAgainst_57 : decode cX1_meetsAgainst 57 = .ok (.getfield 77, 3) := by decide +kernel
theorem dX1_meetsAgainst_60 : decode cX1_meetsAgainst 60 = .ok (.iload 7, 2) := by decide +kernel
theorem dX1_meetsAgainst_62 : decode cX1_meetsAgainst 62 = .ok (.invokestatic 81, 3) := by decide +kernel
theorem dX1_meetsAgainst_65 : decode cX1_meetsAgainst 65 = .ok (.invokestatic 85, 3) := by decide +kernel
theorem dX1_meetsAgainst_68 : decode cX1_meetsAgainst 68 = .ok (.ifCond .eq 5, 3) := by decide +kernel
theorem dX1_meetsAgainst_71 : decode cX1_meetsAgainst 71 = .ok (.iconst 1, 1) := by decide +kernel
theorem dX1_meetsAgainst_72 : decode cX1_meetsAgainst 72 = .ok (.ireturn, 1) := by decide +kernel
theorem dX1_meetsAgainst_73 : decode cX1_meetsAgainst 73 = .ok (.iinc 5 1, 3) := by decide +kernel
theorem dX1_meetsAgainst_76 : decode cX1_meetsAgainst 76 = .ok (.goto (-73), 3) := by decide +kernel
theorem dX1_meetsAgainst_79 : decode cX1_meetsAgainst 79 = .ok (.iconst 0, 1) := by decide +kernel
theorem dX1_meetsAgainst_80 : decode cX1_meetsAgainst 80 = .ok (.ireturn, 1) := by decide +kernel
theorem dX1_allowsTaking_0 : decode cX1_allowsTaking 0 = .ok (.aload_n 2, 1) := by decide +kernel
theorem dX1_allowsTaking_1 : decode cX1_allowsTaking 1 = .ok (.invokevirtual 101, 3) := by decide +kernel
theorem dX1_allowsTaking_4 : decode cX1_allowsTaking 4 = .ok (.istore_n 3, 1) := by decide +kernel
theorem dX1_allowsTaking_5 : decode cX1_allowsTaking 5 = .ok (.iconst 0, 1) := by decide +kernel
theorem dX1_allowsTaking_6 : decode cX1_allowsTaking 6 = .ok (.istore 4, 2) := by decide +kernel
theorem dX1_allowsTaking_8 : decode cX1_allowsTaking 8 = .ok (.iload 4, 2) := by decide +kernel
theorem dX1_allowsTaking_10 : decode cX1_allowsTaking 10 = .ok (.aload_n 0, 1) := by decide +kernel
theorem dX1_allowsTaking_11 : decode cX1_allowsTaking 11 = .ok (.getfield 12, 3) := by decide +kernel
theorem dX1_allowsTaking_14 : decode cX1_allowsTaking 14 = .ok (.invokevirtual 18, 3) := by decide +kernel
theorem dX1_allowsTaking_17 : decode cX1_allowsTaking 17 = .ok (.if_icmp .ge 58, 3) := by decide +kernel
theorem dX1_allowsTaking_20 : decode cX1_allowsTaking 20 = .ok (.aload_n 0, 1) := by decide +kernel
theorem dX1_allowsTaking_21 : decode cX1_allowsTaking 21 = .ok (.getfield 12, 3) := by decide +kernel
theorem dX1_allowsTaking_24 : decode cX1_allowsTaking 24 = .ok (.iload 4, 2) := by decide +kernel
theorem dX1_allowsTaking_26 : decode cX1_allowsTaking 26 = .ok (.invokevirtual 22, 3) := by decide +kernel
theorem dX1_allowsTaking_29 : decode cX1_allowsTaking 29 = .ok (.checkcast 26, 3) := by decide +kernel
theorem dX1_allowsTaking_32 : decode cX1_allowsTaking 32 = .ok (.astore 5, 2) := by decide +kernel
theorem dX1_allowsTaking_34 : decode cX1_allowsTaking 34 = .ok (.aload 5, 2) := by decide +kernel
theorem dX1_allowsTaking_36 : decode cX1_allowsTaking 36 = .ok (.getfield 104, 3) := by decide +kernel
theorem dX1_allowsTaking_39 : decode cX1_allowsTaking 39 = .ok (.aload_n 1, 1) := by decide +kernel
theorem dX1_allowsTaking_40 : decode cX1_allowsTaking 40 = .ok (.getfield 104, 3) := by decide +kernel
theorem dX1_allowsTaking_43 : decode cX1_allowsTaking 43 = .ok (.if_icmp .eq 26, 3) := by decide +kernel
theorem dX1_allowsTaking_46 : decode cX1_allowsTaking 46 = .ok (.aload 5, 2) := by decide +kernel
theorem dX1_allowsTaking_48 : decode cX1_allowsTaking 48 = .ok (.aload_n 2, 1) := by decide +kernel
theorem dX1_allowsTaking_49 : decode cX1_allowsTaking 49 = .ok (.aload_n 1, 1) := by decide +kernel
theorem dX1_allowsTaking_50 : decode cX1_allowsTaking 50 = .ok (.getfield 39, 3) := by decide +kernel
theorem dX1_allowsTaking_53 : decode cX1_allowsTaking 53 = .ok (.iload_n 3, 1) := by decide +kernel
theorem dX1_allowsTaking_54 : decode cX1_allowsTaking 54 = .ok (.isub, 1) := by decide +kernel
theorem dX1_allowsTaking_55 : decode cX1_allowsTaking 55 = .ok (.aload_n 1, 1) := by decide +kernel
theorem dX1_allowsTaking_56 : decode cX1_allowsTaking 56 = .ok (.getfield 47, 3) := by decide +kernel
theorem dX1_allowsTaking_59 : decode cX1_allowsTaking 59 = .ok (.iload_n 3, 1) := by decide +kernel
theorem dX1_allowsTaking_60 : decode cX1_allowsTaking 60 = .ok (.iadd, 1) := by decide +kernel
theorem dX1_allowsTaking_61 : decode cX1_allowsTaking 61 = .ok (.invokevirtual 105, 3) := by decide +kernel
theorem dX1_allowsTaking_64 : decode cX1_allowsTaking 64 = .ok (.ifCond .eq 5, 3) := by decide +kernel
theorem dX1_allowsTaking_67 : decode cX1_allowsTaking 67 = .ok (.iconst 0, 1) := by decide +kernel
theorem dX1_allowsTaking_68 : decode cX1_allowsTaking 68 = .ok (.ireturn, 1) := by decide +kernel
theorem dX1_allowsTaking_69 : decode cX1_allowsTaking 69 = .ok (.iinc 4 1, 3) := by decide +kernel
theorem dX1_allowsTaking_72 : decode cX1_allowsTaking 72 = .ok (.goto (-64), 3) := by decide +kernel
theorem dX1_allowsTaking_75 : decode cX1_allowsTaking 75 = .ok (.aload_n 2, 1) := by decide +kernel
theorem dX1_allowsTaking_76 : decode cX1_allowsTaking 76 = .ok (.aload_n 1, 1) := by decide +kernel
theorem dX1_allowsTaking_77 : decode cX1_allowsTaking 77 = .ok (.invokevirtual 109, 3) := by decide +kernel
theorem dX1_allowsTaking_80 : decode cX1_allowsTaking 80 = .ok (.ireturn, 1) := by decide +kernel
theorem dX1_exhibitionWith_0 : decode cX1_exhibitionWith 0 = .ok (.iconst 0, 1) := by decide +kernel
theorem dX1_exhibitionWith_1 : decode cX1_exhibitionWith 1 = .ok (.istore_n 3, 1) := by decide +kernel
theorem dX1_exhibitionWith_2 : decode cX1_exhibitionWith 2 = .ok (.iload_n 3, 1) := by decide +kernel
theorem dX1_exhibitionWith_3 : decode cX1_exhibitionWith 3 = .ok (.aload_n 0, 1) := by decide +kernel
theorem dX1_exhibitionWith_4 : decode cX1_exhibitionWith 4 = .ok (.getfield 12, 3) := by decide +kernel
theorem dX1_exhibitionWith_7 : decode cX1_exhibitionWith 7 = .ok (.invokevirtual 18, 3) := by decide +kernel
theorem dX1_exhibitionWith_10 : decode cX1_exhibitionWith 10 = .ok (.if_icmp .ge 31, 3) := by decide +kernel
theorem dX1_exhibitionWith_13 : decode cX1_exhibitionWith 13 = .ok (.aload_n 0, 1) := by decide +kernel
theorem dX1_exhibitionWith_14 : decode cX1_exhibitionWith 14 = .ok (.getfield 12, 3) := by decide +kernel
theorem dX1_exhibitionWith_17 : decode cX1_exhibitionWith 17 = .ok (.iload_n 3, 1) := by decide +kernel
theorem dX1_exhibitionWith_18 : decode cX1_exhibitionWith 18 = .ok (.invokevirtual 22, 3) := by decide +kernel
theorem dX1_exhibitionWith_21 : decode cX1_exhibitionWith 21 = .ok (.checkcast 26, 3) := by decide +kernel
theorem dX1_exhibitionWith_24 : decode cX1_exhibitionWith 24 = .ok (.aload_n 1, 1) := by decide +kernel
theorem dX1_exhibitionWith_25 : decode cX1_exhibitionWith 25 = .ok (.iload_n 2, 1) := by decide +kernel
theorem dX1_exhibitionWith_26 : decode cX1_exhibitionWith 26 = .ok (.iload_n 2, 1) := by decide +kernel
theorem dX1_exhibitionWith_27 : decode cX1_exhibitionWith 27 = .ok (.invokevirtual 105, 3) := by decide +kernel
theorem dX1_exhibitionWith_30 : decode cX1_exhibitionWith 30 = .ok (.ifCond .eq 5, 3) := by decide +kernel
theorem dX1_exhibitionWith_33 : decode cX1_exhibitionWith 33 = .ok (.iload_n 3, 1) := by decide +kernel
theorem dX1_exhibitionWith_34 : decode cX1_exhibitionWith 34 = .ok (.ireturn, 1) := by decide +kernel
theorem dX1_exhibitionWith_35 : decode cX1_exhibitionWith 35 = .ok (.iinc 3 1, 3) := by decide +kernel
theorem dX1_exhibitionWith_38 : decode cX1_exhibitionWith 38 = .ok (.goto (-36), 3) := by decide +kernel
theorem dX1_exhibitionWith_41 : decode cX1_exhibitionWith 41 = .ok (.iconst (-1), 1) := by decide +kernel
theorem dX1_exhibitionWith_42 : decode cX1_exhibitionWith 42 = .ok (.ireturn, 1) := by decide +kernel
theorem dX1_takeDownMisplaced_0 : decode cX1_takeDownMisplaced 0 = .ok (.iconst 0, 1) := by decide +kernel
theorem dX1_takeDownMisplaced_1 : decode cX1_takeDownMisplaced 1 = .ok (.istore_n 2, 1) := by decide +kernel
theorem dX1_takeDownMisplaced_2 : decode cX1_takeDownMisplaced 2 = .ok (.iconst 0, 1) := by decide +kernel
theorem dX1_takeDownMisplaced_3 : decode cX1_takeDownMisplaced 3 = .ok (.istore_n 3, 1) := by decide +kernel
theorem dX1_takeDownMisplaced_4 : decode cX1_takeDownMisplaced 4 = .ok (.iload_n 3, 1) := by decide +kernel
theorem dX1_takeDownMisplaced_5 : decode cX1_takeDownMisplaced 5 = .ok (.aload_n 0, 1) := by decide +kernel
theorem dX1_takeDownMisplaced_6 : decode cX1_takeDownMisplaced 6 = .ok (.getfield 12, 3) := by decide +kernel
theorem dX1_takeDownMisplaced_9 : decode cX1_takeDownMisplaced 9 = .ok (.invokevirtual 18, 3) := by decide +kernel
theorem dX1_takeDownMisplaced_12 : decode cX1_takeDownMisplaced 12 = .ok (.if_icmp .ge 52, 3) := by decide +kernel
theorem dX1_takeDownMisplaced_15 : decode cX1_takeDownMisplaced 15 = .ok (.aload_n 0, 1) := by decide +kernel
theorem dX1_takeDownMisplaced_16 : decode cX1_takeDownMisplaced 16 = .ok (.getfield 12, 3) := by decide +kernel
theorem dX1_takeDownMisplaced_19 : decode cX1_takeDownMisplaced 19 = .ok (.iload_n 3, 1) := by decide +kernel
theorem dX1_takeDownMisplaced_20 : decode cX1_takeDownMisplaced 20 = .ok (.invokevirtual 22, 3) := by decide +kernel
theorem dX1_takeDownMisplaced_23 : decode cX1_takeDownMisplaced 23 = .ok (.checkcast 26, 3) := by decide +kernel
theorem dX1_takeDownMisplaced_26 : decode cX1_takeDownMisplaced 26 = .ok (.astore 4, 2) := by decide +kernel
theorem dX1_takeDownMisplaced_28 : decode cX1_takeDownMisplaced 28 = .ok (.aload 4, 2) := by decide +kernel
theorem dX1_takeDownMisplaced_30 : decode cX1_takeDownMisplaced 30 = .ok (.getfield 93, 3) := by decide +kernel
theorem dX1_takeDownMisplaced_33 : decode cX1_takeDownMisplaced 33 = .ok (.bipush 112, 2) := by decide +kernel
theorem dX1_takeDownMisplaced_35 : decode cX1_takeDownMisplaced 35 = .ok (.if_icmp .ne 23, 3) := by decide +kernel
theorem dX1_takeDownMisplaced_38 : decode cX1_takeDownMisplaced 38 = .ok (.aload_n 0, 1) := by decide +kernel
theorem dX1_takeDownMisplaced_39 : decode cX1_takeDownMisplaced 39 = .ok (.aload 4, 2) := by decide +kernel
theorem dX1_takeDownMisplaced_41 : decode cX1_takeDownMisplaced 41 = .ok (.aload_n 1, 1) := by decide +kernel
theorem dX1_takeDownMisplaced_42 : decode cX1_takeDownMisplaced 42 = .ok (.invokevirtual 112, 3) := by decide +kernel
theorem dX1_takeDownMisplaced_45 : decode cX1_takeDownMisplaced 45 = .ok (.ifCond .ne 13, 3) := by decide +kernel
theorem dX1_takeDownMisplaced_48 : decode cX1_takeDownMisplaced 48 = .ok (.aload 4, 2) := by decide +kernel
theorem dX1_takeDownMisplaced_50 : decode cX1_takeDownMisplaced 50 = .ok (.bipush 119, 2) := by decide +kernel
theorem dX1_takeDownMisplaced_52 : decode cX1_takeDownMisplaced 52 = .ok (.putfield 93, 3) := by decide +kernel
theorem dX1_takeDownMisplaced_55 : decode cX1_takeDownMisplaced 55 = .ok (.iinc 2 1, 3) := by decide +kernel
theorem dX1_takeDownMisplaced_58 : decode cX1_takeDownMisplaced 58 = .ok (.iinc 3 1, 3) := by decide +kernel
theorem dX1_takeDownMisplaced_61 : decode cX1_takeDownMisplaced 61 = .ok (.goto (-57), 3) := by decide +kernel
theorem dX1_takeDownMisplaced_64 : decode cX1_takeDownMisplaced 64 = .ok (.iload_n 2, 1) := by decide +kernel
theorem dX1_takeDownMisplaced_65 : decode cX1_takeDownMisplaced 65 = .ok (.ireturn, 1) := by decide +kernel
theorem dX1_standsWhereItHangs_0 : decode cX1_standsWhereItHangs 0 = .ok (.iconst 0, 1) := by decide +kernel
theorem dX1_standsWhereItHangs_1 : decode cX1_standsWhereItHangs 1 = .ok (.istore_n 3, 1) := by decide +kernel
theorem dX1_standsWhereItHangs_2 : decode cX1_standsWhereItHangs 2 = .ok (.iload_n 3, 1) := by decide +kernel
theorem dX1_standsWhereItHangs_3 : decode cX1_standsWhereItHangs 3 = .ok (.aload_n 1, 1) := by decide +kernel
theorem dX1_standsWhereItHangs_4 : decode cX1_standsWhereItHangs 4 = .ok (.getfield 63, 3) := by decide +kernel
theorem dX1_standsWhereItHangs_7 : decode cX1_standsWhereItHangs 7 = .ok (.invokevirtual 18, 3) := by decide +kernel
theorem dX1_standsWhereItHangs_10 : decode cX1_standsWhereItHangs 10 = .ok (.if_icmp .ge 37, 3) := by decide +kernel
theorem dX1_standsWhereItHangs_13 : decode cX1_standsWhereItHangs 13 = .ok (.aload_n 2, 1) := by decide +kernel
theorem dX1_standsWhereItHangs_14 : decode cX1_standsWhereItHangs 14 = .ok (.aload_n 1, 1) := by decide +kernel
theorem dX1_standsWhereItHangs_15 : decode cX1_standsWhereItHangs 15 = .ok (.getfield 63, 3) := by decide +kernel
theorem dX1_standsWhereItHangs_18 : decode cX1_standsWhereItHangs 18 = .ok (.iload_n 3, 1) := by decide +kernel
theorem dX1_standsWhereItHangs_19 : decode cX1_standsWhereItHangs 19 = .ok (.invokevirtual 22, 3) := by decide +kernel
theorem dX1_standsWhereItHangs_22 : decode cX1_standsWhereItHangs 22 = .ok (.checkcast 67, 3) := by decide +kernel
theorem dX1_standsWhereItHangs_25 : decode cX1_standsWhereItHangs 25 = .ok (.aload_n 1, 1) := by decide +kernel
theorem dX1_standsWhereItHangs_26 : decode cX1_standsWhereItHangs 26 = .ok (.getfield 77, 3) := by decide +kernel
theorem dX1_standsWhereItHangs_29 : decode cX1_standsWhereItHangs 29 = .ok (.iload_n 3, 1) := by decide +kernel
theorem dX1_standsWhereItHangs_30 : decode cX1_standsWhereItHangs 30 = .ok (.invokestatic 81, 3) := by decide +kernel
theorem dX1_standsWhereItHangs_33 : decode cX1_standsWhereItHangs 33 = .ok (.invokevirtual 116, 3) := by decide +kernel
theorem dX1_standsWhereItHangs_36 : decode cX1_standsWhereItHangs 36 = .ok (.ifCond .ne 5, 3) := by decide +kernel
theorem dX1_standsWhereItHangs_39 : decode cX1_standsWhereItHangs 39 = .ok (.iconst 0, 1) := by decide +kernel
theorem dX1_standsWhereItHangs_40 : decode cX1_standsWhereItHangs 40 = .ok (.ireturn, 1) := by decide +kernel
theorem dX1_standsWhereItHangs_41 : decode cX1_standsWhereItHangs 41 = .ok (.iinc 3 1, 3) := by decide +kernel
theorem dX1_standsWhereItHangs_44 : decode cX1_standsWhereItHangs 44 = .ok (.goto (-42), 3) := by decide +kernel
theorem dX1_standsWhereItHangs_47 : decode cX1_standsWhereItHangs 47 = .ok (.iconst 1, 1) := by decide +kernel
theorem dX1_standsWhereItHangs_48 : decode cX1_standsWhereItHangs 48 = .ok (.ireturn, 1) := by decide +kernel
theorem dX1_plannedExhibitions_0 : decode cX1_plannedExhibitions 0 = .ok (.iconst 0, 1) := by decide +kernel
theorem dX1_plannedExhibitions_1 : decode cX1_plannedExhibitions 1 = .ok (.istore_n 1, 1) := by decide +kernel
theorem dX1_plannedExhibitions_2 : decode cX1_plannedExhibitions 2 = .ok (.iconst 0, 1) := by decide +kernel
theorem dX1_plannedExhibitions_3 : decode cX1_plannedExhibitions 3 = .ok (.istore_n 2, 1) := by decide +kernel
theorem dX1_plannedExhibitions_4 : decode cX1_plannedExhibitions 4 = .ok (.iload_n 2, 1) := by decide +kernel
theorem dX1_plannedExhibitions_5 : decode cX1_plannedExhibitions 5 = .ok (.aload_n 0, 1) := by decide +kernel
theorem dX1_plannedExhibitions_6 : decode cX1_plannedExhibitions 6 = .ok (.getfield 12, 3) := by decide +kernel
theorem dX1_plannedExhibitions_9 : decode cX1_plannedExhibitions 9 = .ok (.invokevirtual 18, 3) := by decide +kernel
theorem dX1_plannedExhibitions_12 : decode cX1_plannedExhibitions 12 = .ok (.if_icmp .ge 31, 3) := by decide +kernel
theorem dX1_plannedExhibitions_15 : decode cX1_plannedExhibitions 15 = .ok (.aload_n 0, 1) := by decide +kernel
theorem dX1_plannedExhibitions_16 : decode cX1_plannedExhibitions 16 = .ok (.getfield 12, 3) := by decide +kernel
theorem dX1_plannedExhibitions_19 : decode cX1_plannedExhibitions 19 = .ok (.iload_n 2, 1) := by decide +kernel
theorem dX1_plannedExhibitions_20 : decode cX1_plannedExhibitions 20 = .ok (.invokevirtual 22, 3) := by decide +kernel
theorem dX1_plannedExhibitions_23 : decode cX1_plannedExhibitions 23 = .ok (.checkcast 26, 3) := by decide +kernel
theorem dX1_plannedExhibitions_26 : decode cX1_plannedExhibitions 26 = .ok (.getfield 93, 3) := by decide +kernel
theorem dX1_plannedExhibitions_29 : decode cX1_plannedExhibitions 29 = .ok (.bipush 112, 2) := by decide +kernel
theorem dX1_plannedExhibitions_31 : decode cX1_plannedExhibitions 31 = .ok (.if_icmp .ne 6, 3) := by decide +kernel
theorem dX1_plannedExhibitions_34 : decode cX1_plannedExhibitions 34 = .ok (.iinc 1 1, 3) := by decide +kernel
theorem dX1_plannedExhibitions_37 : decode cX1_plannedExhibitions 37 = .ok (.iinc 2 1, 3) := by decide +kernel
theorem dX1_plannedExhibitions_40 : decode cX1_plannedExhibitions 40 = .ok (.goto (-36), 3) := by decide +kernel
theorem dX1_plannedExhibitions_43 : decode cX1_plannedExhibitions 43 = .ok (.iload_n 1, 1) := by decide +kernel
theorem dX1_plannedExhibitions_44 : decode cX1_plannedExhibitions 44 = .ok (.ireturn, 1) := by decide +kernel
theorem dX1_plannedWorks_0 : decode cX1_plannedWorks 0 = .ok (.iconst 0, 1) := by decide +kernel
theorem dX1_plannedWorks_1 : decode cX1_plannedWorks 1 = .ok (.istore_n 1, 1) := by decide +kernel
theorem dX1_plannedWorks_2 : decode cX1_plannedWorks 2 = .ok (.iconst 0, 1) := by decide +kernel
theorem dX1_plannedWorks_3 : decode cX1_plannedWorks 3 = .ok (.istore_n 2, 1) := by decide +kernel
theorem dX1_plannedWorks_4 : decode cX1_plannedWorks 4 = .ok (.iload_n 2, 1) := by decide +kernel
theorem dX1_plannedWorks_5 : decode cX1_plannedWorks 5 = .ok (.aload_n 0, 1) := by decide +kernel
theorem dX1_plannedWorks_6 : decode cX1_plannedWorks 6 = .ok (.getfield 12, 3) := by decide +kernel
theorem dX1_plannedWorks_9 : decode cX1_plannedWorks 9 = .ok (.invokevirtual 18, 3) := by decide +kernel
theorem dX1_plannedWorks_12 : decode cX1_plannedWorks 12 = .ok (.if_icmp .ge 48, 3) := by decide +kernel
theorem dX1_plannedWorks_15 : decode cX1_plannedWorks 15 = .ok (.aload_n 0, 1) := by decide +kernel
theorem dX1_plannedWorks_16 : decode cX1_plannedWorks 16 = .ok (.getfield 12, 3) := by decide +kernel
theorem dX1_plannedWorks_19 : decode cX1_plannedWorks 19 = .ok (.iload_n 2, 1) := by decide +kernel
theorem dX1_plannedWorks_20 : decode cX1_plannedWorks 20 = .ok (.invokevirtual 22, 3) := by decide +kernel
theorem dX1_plannedWorks_23 : decode cX1_plannedWorks 23 = .ok (.checkcast 26, 3) := by decide +kernel
theorem dX1_plannedWorks_26 : decode cX1_plannedWorks 26 = .ok (.getfield 93, 3) := by decide +kernel
theorem dX1_plannedWorks_29 : decode cX1_plannedWorks 29 = .ok (.bipush 112, 2) := by decide +kernel
theorem dX1_plannedWorks_31 : decode cX1_plannedWorks 31 = .ok (.if_icmp .ne 23, 3) := by decide +kernel
theorem dX1_plannedWorks_34 : decode cX1_plannedWorks 34 = .ok (.iload_n 1, 1) := by decide +kernel
theorem dX1_plannedWorks_35 : decode cX1_plannedWorks 35 = .ok (.aload_n 0, 1) := by decide +kernel
theorem dX1_plannedWorks_36 : decode cX1_plannedWorks 36 = .ok (.getfield 12, 3) := by decide +kernel
theorem dX1_plannedWorks_39 : decode cX1_plannedWorks 39 = .ok (.iload_n 2, 1) := by decide +kernel
theorem dX1_plannedWorks_40 : decode cX1_plannedWorks 40 = .ok (.invokevirtual 22, 3) := by decide +kernel
theorem dX1_plannedWorks_43 : decode cX1_plannedWorks 43 = .ok (.checkcast 26, 3) := by decide +kernel
theorem dX1_plannedWorks_46 : decode cX1_plannedWorks 46 = .ok (.getfield 63, 3) := by decide +kernel
theorem dX1_plannedWorks_49 : decode cX1_plannedWorks 49 = .ok (.invokevirtual 18, 3) := by decide +kernel
theorem dX1_plannedWorks_52 : decode cX1_plannedWorks 52 = .ok (.iadd, 1) := by decide +kernel
theorem dX1_plannedWorks_53 : decode cX1_plannedWorks 53 = .ok (.istore_n 1, 1) := by decide +kernel
theorem dX1_plannedWorks_54 : decode cX1_plannedWorks 54 = .ok (.iinc 2 1, 3) := by decide +kernel
theorem dX1_plannedWorks_57 : decode cX1_plannedWorks 57 = .ok (.goto (-53), 3) := by decide +kernel
theorem dX1_plannedWorks_60 : decode cX1_plannedWorks 60 = .ok (.iload_n 1, 1) := by decide +kernel
theorem dX1_plannedWorks_61 : decode cX1_plannedWorks 61 = .ok (.ireturn, 1) := by decide +kernel
theorem dX1_insuredSum_0 : decode cX1_insuredSum 0 = .ok (.lconst 0, 1) := by decide +kernel
theorem dX1_insuredSum_1 : decode cX1_insuredSum 1 = .ok (.lstore_n 1, 1) := by decide +kernel
theorem dX1_insuredSum_2 : decode cX1_insuredSum 2 = .ok (.iconst 0, 1) := by decide +kernel
theorem dX1_insuredSum_3 : decode cX1_insuredSum 3 = .ok (.istore_n 3, 1) := by decide +kernel
theorem dX1_insuredSum_4 : decode cX1_insuredSum 4 = .ok (.iload_n 3, 1) := by decide +kernel
theorem dX1_insuredSum_5 : decode cX1_insuredSum 5 = .ok (.aload_n 0, 1) := by decide +kernel
theorem dX1_insuredSum_6 : decode cX1_insuredSum 6 = .ok (.getfield 12, 3) := by decide +kernel
theorem dX1_insuredSum_9 : decode cX1_insuredSum 9 = .ok (.invokevirtual 18, 3) := by decide +kernel
theorem dX1_insuredSum_12 : decode cX1_insuredSum 12 = .ok (.if_icmp .ge 45, 3) := by decide +kernel
theorem dX1_insuredSum_15 : decode cX1_insuredSum 15 = .ok (.aload_n 0, 1) := by decide +kernel
theorem dX1_insuredSum_16 : decode cX1_insuredSum 16 = .ok (.getfield 12, 3) := by decide +kernel
theorem dX1_insuredSum_19 : decode cX1_insuredSum 19 = .ok (.iload_n 3, 1) := by decide +kernel
theorem dX1_insuredSum_20 : decode cX1_insuredSum 20 = .ok (.invokevirtual 22, 3) := by decide +kernel
theorem dX1_insuredSum_23 : decode cX1_insuredSum 23 = .ok (.checkcast 26, 3) := by decide +kernel
theorem dX1_insuredSum_26 : decode cX1_insuredSum 26 = .ok (.getfield 93, 3) := by decide +kernel
theorem dX1_insuredSum_29 : decode cX1_insuredSum 29 = .ok (.bipush 112, 2) := by decide +kernel
theorem dX1_insuredSum_31 : decode cX1_insuredSum 31 = .ok (.if_icmp .ne 20, 3) := by decide +kernel
theorem dX1_insuredSum_34 : decode cX1_insuredSum 34 = .ok (.lload_n 1, 1) := by decide +kernel
theorem dX1_insuredSum_35 : decode cX1_insuredSum 35 = .ok (.aload_n 0, 1) := by decide +kernel
theorem dX1_insuredSum_36 : decode cX1_insuredSum 36 = .ok (.getfield 12, 3) := by decide +kernel
theorem dX1_insuredSum_39 : decode cX1_insuredSum 39 = .ok (.iload_n 3, 1) := by decide +kernel
theorem dX1_insuredSum_40 : decode cX1_insuredSum 40 = .ok (.invokevirtual 22, 3) := by decide +kernel
theorem dX1_insuredSum_43 : decode cX1_insuredSum 43 = .ok (.checkcast 26, 3) := by decide +kernel
theorem dX1_insuredSum_46 : decode cX1_insuredSum 46 = .ok (.invokevirtual 122, 3) := by decide +kernel
theorem dX1_insuredSum_49 : decode cX1_insuredSum 49 = .ok (.ladd, 1) := by decide +kernel
theorem dX1_insuredSum_50 : decode cX1_insuredSum 50 = .ok (.lstore_n 1, 1) := by decide +kernel
theorem dX1_insuredSum_51 : decode cX1_insuredSum 51 = .ok (.iinc 3 1, 3) := by decide +kernel
theorem dX1_insuredSum_54 : decode cX1_insuredSum 54 = .ok (.goto (-50), 3) := by decide +kernel
theorem dX1_insuredSum_57 : decode cX1_insuredSum 57 = .ok (.lload_n 1, 1) := by decide +kernel
theorem dX1_insuredSum_58 : decode cX1_insuredSum 58 = .ok (.lreturn, 1) := by decide +kernel
theorem dX1_allHangWell_0 : decode cX1_allHangWell 0 = .ok (.iconst 0, 1) := by decide +kernel
theorem dX1_allHangWell_1 : decode cX1_allHangWell 1 = .ok (.istore_n 3, 1) := by decide +kernel
theorem dX1_allHangWell_2 : decode cX1_allHangWell 2 = .ok (.iload_n 3, 1) := by decide +kernel
theorem dX1_allHangWell_3 : decode cX1_allHangWell 3 = .ok (.aload_n 0, 1) := by decide +kernel
theorem dX1_allHangWell_4 : decode cX1_allHangWell 4 = .ok (.getfield 12, 3) := by decide +kernel
theorem dX1_allHangWell_7 : decode cX1_allHangWell 7 = .ok (.invokevirtual 18, 3) := by decide +kernel
theorem dX1_allHangWell_10 : decode cX1_allHangWell 10 = .ok (.if_icmp .ge 54, 3) := by decide +kernel
theorem dX1_allHangWell_13 : decode cX1_allHangWell 13 = .ok (.aload_n 0, 1) := by decide +kernel
theorem dX1_allHangWell_14 : decode cX1_allHangWell 14 = .ok (.getfield 12, 3) := by decide +kernel
theorem dX1_allHangWell_17 : decode cX1_allHangWell 17 = .ok (.iload_n 3, 1) := by decide +kernel
theorem dX1_allHangWell_18 : decode cX1_allHangWell 18 = .ok (.invokevirtual 22, 3) := by decide +kernel
theorem dX1_allHangWell_21 : decode cX1_allHangWell 21 = .ok (.checkcast 26, 3) := by decide +kernel
theorem dX1_allHangWell_24 : decode cX1_allHangWell 24 = .ok (.astore 4, 2) := by decide +kernel
theorem dX1_allHangWell_26 : decode cX1_allHangWell 26 = .ok (.aload 4, 2) := by decide +kernel
theorem dX1_allHangWell_28 : decode cX1_allHangWell 28 = .ok (.getfield 93, 3) := by decide +kernel
theorem dX1_allHangWell_31 : decode cX1_allHangWell 31 = .ok (.bipush 112, 2) := by decide +kernel
theorem dX1_allHangWell_33 : decode cX1_allHangWell 33 = .ok (.if_icmp .ne 25, 3) := by decide +kernel
theorem dX1_allHangWell_36 : decode cX1_allHangWell 36 = .ok (.aload_n 0, 1) := by decide +kernel
theorem dX1_allHangWell_37 : decode cX1_allHangWell 37 = .ok (.aload 4, 2) := by decide +kernel
theorem dX1_allHangWell_39 : decode cX1_allHangWell 39 = .ok (.aload_n 1, 1) := by decide +kernel
theorem dX1_allHangWell_40 : decode cX1_allHangWell 40 = .ok (.invokevirtual 112, 3) := by decide +kernel
theorem dX1_allHangWell_43 : decode cX1_allHangWell 43 = .ok (.ifCond .eq 13, 3) := by decide +kernel
theorem dX1_allHangWell_46 : decode cX1_allHangWell 46 = .ok (.aload_n 0, 1) := by decide +kernel
theorem dX1_allHangWell_47 : decode cX1_allHangWell 47 = .ok (.aload 4, 2) := by decide +kernel
theorem dX1_allHangWell_49 : decode cX1_allHangWell 49 = .ok (.aload_n 2, 1) := by decide +kernel
theorem dX1_allHangWell_50 : decode cX1_allHangWell 50 = .ok (.invokevirtual 126, 3) := by decide +kernel
theorem dX1_allHangWell_53 : decode cX1_allHangWell 53 = .ok (.ifCond .ne 5, 3) := by decide +kernel
theorem dX1_allHangWell_56 : decode cX1_allHangWell 56 = .ok (.iconst 0, 1) := by decide +kernel
theorem dX1_allHangWell_57 : decode cX1_allHangWell 57 = .ok (.ireturn, 1) := by decide +kernel
theorem dX1_allHangWell_58 : decode cX1_allHangWell 58 = .ok (.iinc 3 1, 3) := by decide +kernel
theorem dX1_allHangWell_61 : decode cX1_allHangWell 61 = .ok (.goto (-59), 3) := by decide +kernel
theorem dX1_allHangWell_64 : decode cX1_allHangWell 64 = .ok (.iconst 1, 1) := by decide +kernel
theorem dX1_allHangWell_65 : decode cX1_allHangWell 65 = .ok (.ireturn, 1) := by decide +kernel
theorem dX1_keepsApart_0 : decode cX1_keepsApart 0 = .ok (.iconst 0, 1) := by decide +kernel
theorem dX1_keepsApart_1 : decode cX1_keepsApart 1 = .ok (.istore_n 3, 1) := by decide +kernel
theorem dX1_keepsApart_2 : decode cX1_keepsApart 2 = .ok (.iload_n 3, 1) := by decide +kernel
theorem dX1_keepsApart_3 : decode cX1_keepsApart 3 = .ok (.aload_n 1, 1) := by decide +kernel
theorem dX1_keepsApart_4 : decode cX1_keepsApart 4 = .ok (.getfield 63, 3) := by decide +kernel
theorem dX1_keepsApart_7 : decode cX1_keepsApart 7 = .ok (.invokevirtual 18, 3) := by decide +kernel
theorem dX1_keepsApart_10 : decode cX1_keepsApart 10 = .ok (.if_icmp .ge 39, 3) := by decide +kernel
theorem dX1_keepsApart_13 : decode cX1_keepsApart 13 = .ok (.aload_n 0, 1) := by decide +kernel
theorem dX1_keepsApart_14 : decode cX1_keepsApart 14 = .ok (.aload_n 2, 1) := by decide +kernel
theorem dX1_keepsApart_15 : decode cX1_keepsApart 15 = .ok (.aload_n 1, 1) := by decide +kernel
theorem dX1_keepsApart_16 : decode cX1_keepsApart 16 = .ok (.aload_n 1, 1) := by decide +kernel
theorem dX1_keepsApart_17 : decode cX1_keepsApart 17 = .ok (.getfield 63, 3) := by decide +kernel
theorem dX1_keepsApart_20 : decode cX1_keepsApart 20 = .ok (.iload_n 3, 1) := by decide +kernel
theorem dX1_keepsApart_21 : decode cX1_keepsApart 21 = .ok (.invokevirtual 22, 3) := by decide +kernel
theorem dX1_keepsApart_24 : decode cX1_keepsApart 24 = .ok (.checkcast 67, 3) := by decide +kernel
theorem dX1_keepsApart_27 : decode cX1_keepsApart 27 = .ok (.aload_n 1, 1) := by decide +kernel
theorem dX1_keepsApart_28 : decode cX1_keepsApart 28 = .ok (.getfield 77, 3) := by decide +kernel
theorem dX1_keepsApart_31 : decode cX1_keepsApart 31 = .ok (.iload_n 3, 1) := by decide +kernel
theorem dX1_keepsApart_32 : decode cX1_keepsApart 32 = .ok (.invokestatic 81, 3) := by decide +kernel
theorem dX1_keepsApart_35 : decode cX1_keepsApart 35 = .ok (.invokevirtual 130, 3) := by decide +kernel
theorem dX1_keepsApart_38 : decode cX1_keepsApart 38 = .ok (.ifCond .eq 5, 3) := by decide +kernel
theorem dX1_keepsApart_41 : decode cX1_keepsApart 41 = .ok (.iconst 0, 1) := by decide +kernel
theorem dX1_keepsApart_42 : decode cX1_keepsApart 42 = .ok (.ireturn, 1) := by decide +kernel
theorem dX1_keepsApart_43 : decode cX1_keepsApart 43 = .ok (.iinc 3 1, 3) := by decide +kernel
theorem dX1_keepsApart_46 : decode cX1_keepsApart 46 = .ok (.goto (-44), 3) := by decide +kernel
theorem dX1_keepsApart_49 : decode cX1_keepsApart 49 = .ok (.iconst 1, 1) := by decide +kernel
theorem dX1_keepsApart_50 : decode cX1_keepsApart 50 = .ok (.ireturn, 1) := by decide +kernel
theorem dX1_fitsOn_0 : decode cX1_fitsOn 0 = .ok (.iconst 0, 1) := by decide +kernel
theorem dX1_fitsOn_1 : decode cX1_fitsOn 1 = .ok (.istore_n 2, 1) := by decide +kernel
theorem dX1_fitsOn_2 : decode cX1_fitsOn 2 = .ok (.iload_n 2, 1) := by decide +kernel
theorem dX1_fitsOn_3 : decode cX1_fitsOn 3 = .ok (.aload_n 1, 1) := by decide +kernel
theorem dX1_fitsOn_4 : decode cX1_fitsOn 4 = .ok (.invokevirtual 134, 3) := by decide +kernel
theorem dX1_fitsOn_7 : decode cX1_fitsOn 7 = .ok (.if_icmp .ge 39, 3) := by decide +kernel
theorem dX1_fitsOn_10 : decode cX1_fitsOn 10 = .ok (.iconst 0, 1) := by decide +kernel
theorem dX1_fitsOn_11 : decode cX1_fitsOn 11 = .ok (.istore_n 3, 1) := by decide +kernel
theorem dX1_fitsOn_12 : decode cX1_fitsOn 12 = .ok (.iload_n 3, 1) := by decide +kernel
theorem dX1_fitsOn_13 : decode cX1_fitsOn 13 = .ok (.bipush 99, 2) := by decide +kernel
theorem dX1_fitsOn_15 : decode cX1_fitsOn 15 = .ok (.if_icmp .gt 25, 3) := by decide +kernel
theorem dX1_fitsOn_18 : decode cX1_fitsOn 18 = .ok (.aload_n 0, 1) := by decide +kernel
theorem dX1_fitsOn_19 : decode cX1_fitsOn 19 = .ok (.iload_n 2, 1) := by decide +kernel
theorem dX1_fitsOn_20 : decode cX1_fitsOn 20 = .ok (.iload_n 3, 1) := by decide +kernel
theorem dX1_fitsOn_21 : decode cX1_fitsOn 21 = .ok (.invokevirtual 43, 3) := by decide +kernel
theorem dX1_fitsOn_24 : decode cX1_fitsOn 24 = .ok (.aload_n 1, 1) := by decide +kernel
theorem dX1_fitsOn_25 : decode cX1_fitsOn 25 = .ok (.iload_n 2, 1) := by decide +kernel
theorem dX1_fitsOn_26 : decode cX1_fitsOn 26 = .ok (.invokevirtual 136, 3) := by decide +kernel
theorem dX1_fitsOn_29 : decode cX1_fitsOn 29 = .ok (.if_icmp .le 5, 3) := by decide +kernel
theorem dX1_fitsOn_32 : decode cX1_fitsOn 32 = .ok (.iconst 0, 1) := by decide +kernel
theorem dX1_fitsOn_33 : decode cX1_fitsOn 33 = .ok (.ireturn, 1) := by decide +kernel
theorem dX1_fitsOn_34 : decode cX1_fitsOn 34 = .ok (.iinc 3 1, 3) := by decide +kernel
theorem dX1_fitsOn_37 : decode cX1_fitsOn 37 = .ok (.goto (-25), 3) := by decide +kernel
theorem dX1_fitsOn_40 : decode cX1_fitsOn 40 = .ok (.iinc 2 1, 3) := by decide +kernel
theorem dX1_fitsOn_43 : decode cX1_fitsOn 43 = .ok (.goto (-41), 3) := by decide +kernel
theorem dX1_fitsOn_46 : decode cX1_fitsOn 46 = .ok (.iconst 1, 1) := by decide +kernel
theorem dX1_fitsOn_47 : decode cX1_fitsOn 47 = .ok (.ireturn, 1) := by decide +kernel
theorem dX1_takesWell_0 : decode cX1_takesWell 0 = .ok (.iconst 0, 1) := by decide +kernel
theorem dX1_takesWell_1 : decode cX1_takesWell 1 = .ok (.istore_n 1, 1) := by decide +kernel
theorem dX1_takesWell_2 : decode cX1_takesWell 2 = .ok (.iload_n 1, 1) := by decide +kernel
theorem dX1_takesWell_3 : decode cX1_takesWell 3 = .ok (.aload_n 0, 1) := by decide +kernel
theorem dX1_takesWell_4 : decode cX1_takesWell 4 = .ok (.getfield 12, 3) := by decide +kernel
theorem dX1_takesWell_7 : decode cX1_takesWell 7 = .ok (.invokevirtual 18, 3) := by decide +kernel
theorem dX1_takesWell_10 : decode cX1_takesWell 10 = .ok (.if_icmp .ge 40, 3) := by decide +kernel
theorem dX1_takesWell_13 : decode cX1_takesWell 13 = .ok (.aload_n 0, 1) := by decide +kernel
theorem dX1_takesWell_14 : decode cX1_takesWell 14 = .ok (.getfield 12, 3) := by decide +kernel
theorem dX1_takesWell_17 : decode cX1_takesWell 17 = .ok (.iload_n 1, 1) := by decide +kernel
theorem dX1_takesWell_18 : decode cX1_takesWell 18 = .ok (.invokevirtual 22, 3) := by decide +kernel
theorem dX1_takesWell_21 : decode cX1_takesWell 21 = .ok (.checkcast 26, 3) := by decide +kernel
theorem dX1_takesWell_24 : decode cX1_takesWell 24 = .ok (.astore_n 2, 1) := by decide +kernel
theorem dX1_takesWell_25 : decode cX1_takesWell 25 = .ok (.aload_n 2, 1) := by decide +kernel
theorem dX1_takesWell_26 : decode cX1_takesWell 26 = .ok (.getfield 93, 3) := by decide +kernel
theorem dX1_takesWell_29 : decode cX1_takesWell 29 = .ok (.bipush 112, 2) := by decide +kernel
theorem dX1_takesWell_31 : decode cX1_takesWell 31 = .ok (.if_icmp .ne 13, 3) := by decide +kernel
theorem dX1_takesWell_34 : decode cX1_takesWell 34 = .ok (.aload_n 0, 1) := by decide +kernel
theorem dX1_takesWell_35 : decode cX1_takesWell 35 = .ok (.aload_n 2, 1) := by decide +kernel
theorem dX1_takesWell_36 : decode cX1_takesWell 36 = .ok (.invokevirtual 139, 3) := by decide +kernel
theorem dX1_takesWell_39 : decode cX1_takesWell 39 = .ok (.ifCond .ne 5, 3) := by decide +kernel
theorem dX1_takesWell_42 : decode cX1_takesWell 42 = .ok (.iconst 0, 1) := by decide +kernel
theorem dX1_takesWell_43 : decode cX1_takesWell 43 = .ok (.ireturn, 1) := by decide +kernel
theorem dX1_takesWell_44 : decode cX1_takesWell 44 = .ok (.iinc 1 1, 3) := by decide +kernel
theorem dX1_takesWell_47 : decode cX1_takesWell 47 = .ok (.goto (-45), 3) := by decide +kernel
theorem dX1_takesWell_50 : decode cX1_takesWell 50 = .ok (.iconst 1, 1) := by decide +kernel
theorem dX1_takesWell_51 : decode cX1_takesWell 51 = .ok (.ireturn, 1) := by decide +kernel
theorem dX1_allowsTakingAll_0 : decode cX1_allowsTakingAll 0 = .ok (.iconst 0, 1) := by decide +kernel
theorem dX1_allowsTakingAll_1 : decode cX1_allowsTakingAll 1 = .ok (.istore_n 2, 1) := by decide +kernel
theorem dX1_allowsTakingAll_2 : decode cX1_allowsTakingAll 2 = .ok (.iload_n 2, 1) := by decide +kernel
theorem dX1_allowsTakingAll_3 : decode cX1_allowsTakingAll 3 = .ok (.aload_n 1, 1) := by decide +kernel
theorem dX1_allowsTakingAll_4 : decode cX1_allowsTakingAll 4 = .ok (.getfield 63, 3) := by decide +kernel
theorem dX1_allowsTakingAll_7 : decode cX1_allowsTakingAll 7 = .ok (.invokevirtual 18, 3) := by decide +kernel
theorem dX1_allowsTakingAll_10 : decode cX1_allowsTakingAll 10 = .ok (.if_icmp .ge 30, 3) := by decide +kernel
theorem dX1_allowsTakingAll_13 : decode cX1_allowsTakingAll 13 = .ok (.aload_n 0, 1) := by decide +kernel
theorem dX1_allowsTakingAll_14 : decode cX1_allowsTakingAll 14 = .ok (.aload_n 1, 1) := by decide +kernel
theorem dX1_allowsTakingAll_15 : decode cX1_allowsTakingAll 15 = .ok (.aload_n 1, 1) := by decide +kernel
theorem dX1_allowsTakingAll_16 : decode cX1_allowsTakingAll 16 = .ok (.getfield 63, 3) := by decide +kernel
theorem dX1_allowsTakingAll_19 : decode cX1_allowsTakingAll 19 = .ok (.iload_n 2, 1) := by decide +kernel
theorem dX1_allowsTakingAll_20 : decode cX1_allowsTakingAll 20 = .ok (.invokevirtual 22, 3) := by decide +kernel
theorem dX1_allowsTakingAll_23 : decode cX1_allowsTakingAll 23 = .ok (.checkcast 67, 3) := by decide +kernel
theorem dX1_allowsTakingAll_26 : decode cX1_allowsTakingAll 26 = .ok (.invokevirtual 142, 3) := by decide +kernel
theorem dX1_allowsTakingAll_29 : decode cX1_allowsTakingAll 29 = .ok (.ifCond .ne 5, 3) := by decide +kernel
theorem dX1_allowsTakingAll_32 : decode cX1_allowsTakingAll 32 = .ok (.iconst 0, 1) := by decide +kernel
theorem dX1_allowsTakingAll_33 : decode cX1_allowsTakingAll 33 = .ok (.ireturn, 1) := by decide +kernel
theorem dX1_allowsTakingAll_34 : decode cX1_allowsTakingAll 34 = .ok (.iinc 2 1, 3) := by decide +kernel
theorem dX1_allowsTakingAll_37 : decode cX1_allowsTakingAll 37 = .ok (.goto (-35), 3) := by decide +kernel
theorem dX1_allowsTakingAll_40 : decode cX1_allowsTakingAll 40 = .ok (.iconst 1, 1) := by decide +kernel
theorem dX1_allowsTakingAll_41 : decode cX1_allowsTakingAll 41 = .ok (.ireturn, 1) := by decide +kernel
theorem dX2_init_0 : decode cX2_init 0 = .ok (.aload_n 0, 1) := by decide +kernel
theorem dX2_init_1 : decode cX2_init 1 = .ok (.invokespecial 3, 3) := by decide +kernel
theorem dX2_init_4 : decode cX2_init 4 = .ok (.aload_n 0, 1) := by decide +kernel
theorem dX2_init_5 : decode cX2_init 5 = .ok (.new 9, 3) := by decide +kernel
theorem dX2_init_8 : decode cX2_init 8 = .ok (.dup, 1) := by decide +kernel
theorem dX2_init_9 : decode cX2_init 9 = .ok (.invokespecial 11, 3) := by decide +kernel
theorem dX2_init_12 : decode cX2_init 12 = .ok (.putfield 12, 3) := by decide +kernel
theorem dX2_init_15 : decode cX2_init 15 = .ok (.aload_n 0, 1) := by decide +kernel
theorem dX2_init_16 : decode cX2_init 16 = .ok (.iconst 5, 1) := by decide +kernel
theorem dX2_init_17 : decode cX2_init 17 = .ok (.newarray .int, 2) := by decide +kernel
theorem dX2_init_19 : decode cX2_init 19 = .ok (.putfield 18, 3) := by decide +kernel
theorem dX2_init_22 : decode cX2_init 22 = .ok (.aload_n 0, 1) := by decide +kernel
theorem dX2_init_23 : decode cX2_init 23 = .ok (.bipush 100, 2) := by decide +kernel
theorem dX2_init_25 : decode cX2_init 25 = .ok (.putfield 22, 3) := by decide +kernel
theorem dX2_init_28 : decode cX2_init 28 = .ok (.aload_n 0, 1) := by decide +kernel
theorem dX2_init_29 : decode cX2_init 29 = .ok (.iload_n 1, 1) := by decide +kernel
theorem dX2_init_30 : decode cX2_init 30 = .ok (.putfield 26, 3) := by decide +kernel
theorem dX2_init_33 : decode cX2_init 33 = .ok (.aload_n 0, 1) := by decide +kernel
theorem dX2_init_34 : decode cX2_init 34 = .ok (.iload_n 2, 1) := by decide +kernel
theorem dX2_init_35 : decode cX2_init 35 = .ok (.putfield 30, 3) := by decide +kernel
theorem dX2_init_38 : decode cX2_init 38 = .ok (.aload_n 0, 1) := by decide +kernel
theorem dX2_init_39 : decode cX2_init 39 = .ok (.iload_n 3, 1) := by decide +kernel
theorem dX2_init_40 : decode cX2_init 40 = .ok (.putfield 33, 3) := by decide +kernel
theorem dX2_init_43 : decode cX2_init 43 = .ok (.aload_n 0, 1) := by decide +kernel
theorem dX2_init_44 : decode cX2_init 44 = .ok (.iload 4, 2) := by decide +kernel
theorem dX2_init_46 : decode cX2_init 46 = .ok (.putfield 36, 3) := by decide +kernel
theorem dX2_init_49 : decode cX2_init 49 = .ok (.return_, 1) := by decide +kernel
theorem dX2_days_0 : decode cX2_days 0 = .ok (.aload_n 0, 1) := by decide +kernel
theorem dX2_days_1 : decode cX2_days 1 = .ok (.getfield 33, 3) := by decide +kernel
theorem dX2_days_4 : decode cX2_days 4 = .ok (.aload_n 0, 1) := by decide +kernel
theorem dX2_days_5 : decode cX2_days 5 = .ok (.getfield 30, 3) := by decide +kernel
theorem dX2_days_8 : decode cX2_days 8 = .ok (.isub, 1) := by decide +kernel
theorem dX2_days_9 : decode cX2_days 9 = .ok (.iconst 1, 1) := by decide +kernel
theorem dX2_days_10 : decode cX2_days 10 = .ok (.iadd, 1) := by decide +kernel
theorem dX2_days_11 : decode cX2_days 11 = .ok (.ireturn, 1) := by decide +kernel
theorem dX2_indexOf_0 : decode cX2_indexOf 0 = .ok (.iconst 0, 1) := by decide +kernel
theorem dX2_indexOf_1 : decode cX2_indexOf 1 = .ok (.istore_n 2, 1) := by decide +kernel
theorem dX2_indexOf_2 : decode cX2_indexOf 2 = .ok (.iload_n 2, 1) := by decide +kernel
theorem dX2_indexOf_3 : decode cX2_indexOf 3 = .ok (.aload_n 0, 1) := by decide +kernel
theorem dX2_indexOf_4 : decode cX2_indexOf 4 = .ok (.getfield 12, 3) := by decide +kernel
theorem dX2_indexOf_7 : decode cX2_indexOf 7 = .ok (.invokevirtual 39, 3) := by decide +kernel
theorem dX2_indexOf_10 : decode cX2_indexOf 10 = .ok (.if_icmp .ge 32, 3) := by decide +kernel
theorem dX2_indexOf_13 : decode cX2_indexOf 13 = .ok (.aload_n 0, 1) := by decide +kernel
theorem dX2_indexOf_14 : decode cX2_indexOf 14 = .ok (.getfield 12, 3) := by decide +kernel
theorem dX2_indexOf_17 : decode cX2_indexOf 17 = .ok (.iload_n 2, 1) := by decide +kernel
theorem dX2_indexOf_18 : decode cX2_indexOf 18 = .ok (.invokevirtual 43, 3) := by decide +kernel
theorem dX2_indexOf_21 : decode cX2_indexOf 21 = .ok (.checkcast 47, 3) := by decide +kernel
theorem dX2_indexOf_24 : decode cX2_indexOf 24 = .ok (.getfield 49, 3) := by decide +kernel
theorem dX2_indexOf_27 : decode cX2_indexOf 27 = .ok (.aload_n 1, 1) := by decide +kernel
theorem dX2_indexOf_28 : decode cX2_indexOf 28 = .ok (.getfield 49, 3) := by decide +kernel
theorem dX2_indexOf_31 : decode cX2_indexOf 31 = .ok (.if_icmp .ne 5, 3) := by decide +kernel
theorem dX2_indexOf_34 : decode cX2_indexOf 34 = .ok (.iload_n 2, 1) := by decide +kernel
theorem dX2_indexOf_35 : decode cX2_indexOf 35 = .ok (.ireturn, 1) := by decide +kernel
theorem dX2_indexOf_36 : decode cX2_indexOf 36 = .ok (.iinc 2 1, 3) := by decide +kernel
theorem dX2_indexOf_39 : decode cX2_indexOf 39 = .ok (.goto (-37), 3) := by decide +kernel
theorem dX2_indexOf_42 : decode cX2_indexOf 42 = .ok (.iconst (-1), 1) := by decide +kernel
theorem dX2_indexOf_43 : decode cX2_indexOf 43 = .ok (.ireturn, 1) := by decide +kernel
theorem dX2_hangsOn_0 : decode cX2_hangsOn 0 = .ok (.aload_n 0, 1) := by decide +kernel
theorem dX2_hangsOn_1 : decode cX2_hangsOn 1 = .ok (.getfield 22, 3) := by decide +kernel
theorem dX2_hangsOn_4 : decode cX2_hangsOn 4 = .ok (.bipush 112, 2) := by decide +kernel
theorem dX2_hangsOn_6 : decode cX2_hangsOn 6 = .ok (.if_icmp .ne 23, 3) := by decide +kernel
theorem dX2_hangsOn_9 : decode cX2_hangsOn 9 = .ok (.aload_n 0, 1) := by decide +kernel
theorem dX2_hangsOn_10 : decode cX2_hangsOn 10 = .ok (.getfield 30, 3) := by decide +kernel
theorem dX2_hangsOn_13 : decode cX2_hangsOn 13 = .ok (.iload_n 1, 1) := by decide +kernel
theorem dX2_hangsOn_14 : decode cX2_hangsOn 14 = .ok (.if_icmp .gt 15, 3) := by decide +kernel
theorem dX2_hangsOn_17 : decode cX2_hangsOn 17 = .ok (.iload_n 1, 1) := by decide +kernel
theorem dX2_hangsOn_18 : decode cX2_hangsOn 18 = .ok (.aload_n 0, 1) := by decide +kernel
theorem dX2_hangsOn_19 : decode cX2_hangsOn 19 = .ok (.getfield 33, 3) := by decide +kernel
theorem dX2_hangsOn_22 : decode cX2_hangsOn 22 = .ok (.if_icmp .gt 7, 3) := by decide +kernel
theorem dX2_hangsOn_25 : decode cX2_hangsOn 25 = .ok (.iconst 1, 1) := by decide +kernel
theorem dX2_hangsOn_26 : decode cX2_hangsOn 26 = .ok (.goto 4, 3) := by decide +kernel
theorem dX2_hangsOn_29 : decode cX2_hangsOn 29 = .ok (.iconst 0, 1) := by decide +kernel
theorem dX2_hangsOn_30 : decode cX2_hangsOn 30 = .ok (.ireturn, 1) := by decide +kernel
theorem dX2_hangsDuring_0 : decode cX2_hangsDuring 0 = .ok (.aload_n 0, 1) := by decide +kernel
theorem dX2_hangsDuring_1 : decode cX2_hangsDuring 1 = .ok (.getfield 22, 3) := by decide +kernel
theorem dX2_hangsDuring_4 : decode cX2_hangsDuring 4 = .ok (.bipush 112, 2) := by decide +kernel
theorem dX2_hangsDuring_6 : decode cX2_hangsDuring 6 = .ok (.if_icmp .ne 29, 3) := by decide +kernel
theorem dX2_hangsDuring_9 : decode cX2_hangsDuring 9 = .ok (.aload_n 0, 1) := by decide +kernel
theorem dX2_hangsDuring_10 : decode cX2_hangsDuring 10 = .ok (.getfield 30, 3) := by decide +kernel
theorem dX2_hangsDuring_13 : decode cX2_hangsDuring 13 = .ok (.aload_n 1, 1) := by decide +kernel
theorem dX2_hangsDuring_14 : decode cX2_hangsDuring 14 = .ok (.getfield 33, 3) := by decide +kernel
theorem dX2_hangsDuring_17 : decode cX2_hangsDuring 17 = .ok (.if_icmp .gt 18, 3) := by decide +kernel
theorem dX2_hangsDuring_20 : decode cX2_hangsDuring 20 = .ok (.aload_n 1, 1) := by decide +kernel
theorem dX2_hangsDuring_21 : decode cX2_hangsDuring 21 = .ok (.getfield 30, 3) := by decide +kernel
theorem dX2_hangsDuring_24 : decode cX2_hangsDuring 24 = .ok (.aload_n 0, 1) := by decide +kernel
theorem dX2_hangsDuring_25 : decode cX2_hangsDuring 25 = .ok (.getfield 33, 3) := by decide +kernel
theorem dX2_hangsDuring_28 : decode cX2_hangsDuring 28 = .ok (.if_icmp .gt 7, 3) := by decide +kernel
theorem dX2_hangsDuring_31 : decode cX2_hangsDuring 31 = .ok (.iconst 1, 1) := by decide +kernel
theorem dX2_hangsDuring_32 : decode cX2_hangsDuring 32 = .ok (.goto 4, 3) := by decide +kernel
theorem dX2_hangsDuring_35 : decode cX2_hangsDuring 35 = .ok (.iconst 0, 1) := by decide +kernel
theorem dX2_hangsDuring_36 : decode cX2_hangsDuring 36 = .ok (.ireturn, 1) := by decide +kernel
theorem dX2_isAwayBetween_0 : decode cX2_isAwayBetween 0 = .ok (.aload_n 1, 1) := by decide +kernel
theorem dX2_isAwayBetween_1 : decode cX2_isAwayBetween 1 = .ok (.invokevirtual 50, 3) := by decide +kernel
theorem dX2_isAwayBetween_4 : decode cX2_isAwayBetween 4 = .ok (.istore 4, 2) := by decide +kernel
theorem dX2_isAwayBetween_6 : decode cX2_isAwayBetween 6 = .ok (.aload_n 0, 1) := by decide +kernel
theorem dX2_isAwayBetween_7 : decode cX2_isAwayBetween 7 = .ok (.getfield 22, 3) := by decide +kernel
theorem dX2_isAwayBetween_10 : decode cX2_isAwayBetween 10 = .ok (.bipush 112, 2) := by decide +kernel
theorem dX2_isAwayBetween_12 : decode cX2_isAwayBetween 12 = .ok (.if_icmp .ne 38, 3) := by decide +kernel
theorem dX2_isAwayBetween_15 : decode cX2_isAwayBetween 15 = .ok (.aload_n 0, 1) := by decide +kernel
theorem dX2_isAwayBetween_16 : decode cX2_isAwayBetween 16 = .ok (.getfield 30, 3) := by decide +kernel
theorem dX2_isAwayBetween_19 : decode cX2_isAwayBetween 19 = .ok (.iload 4, 2) := by decide +kernel
theorem dX2_isAwayBetween_21 : decode cX2_isAwayBetween 21 = .ok (.isub, 1) := by decide +kernel
theorem dX2_isAwayBetween_22 : decode cX2_isAwayBetween 22 = .ok (.iload_n 3, 1) := by decide +kernel
theorem dX2_isAwayBetween_23 : decode cX2_isAwayBetween 23 = .ok (.if_icmp .gt 27, 3) := by decide +kernel
theorem dX2_isAwayBetween_26 : decode cX2_isAwayBetween 26 = .ok (.iload_n 2, 1) := by decide +kernel
theorem dX2_isAwayBetween_27 : decode cX2_isAwayBetween 27 = .ok (.aload_n 0, 1) := by decide +kernel
theorem dX2_isAwayBetween_28 : decode cX2_isAwayBetween 28 = .ok (.getfield 33, 3) := by decide +kernel
theorem dX2_isAwayBetween_31 : decode cX2_isAwayBetween 31 = .ok (.iload 4, 2) := by decide +kernel
theorem dX2_isAwayBetween_33 : decode cX2_isAwayBetween 33 = .ok (.iadd, 1) := by decide +kernel
theorem dX2_isAwayBetween_34 : decode cX2_isAwayBetween 34 = .ok (.if_icmp .gt 16, 3) := by decide +kernel
theorem dX2_isAwayBetween_37 : decode cX2_isAwayBetween 37 = .ok (.aload_n 0, 1) := by decide +kernel
theorem dX2_isAwayBetween_38 : decode cX2_isAwayBetween 38 = .ok (.aload_n 1, 1) := by decide +kernel
theorem dX2_isAwayBetween_39 : decode cX2_isAwayBetween 39 = .ok (.invokevirtual 53, 3) := by decide +kernel
theorem dX2_isAwayBetween_42 : decode cX2_isAwayBetween 42 = .ok (.iconst (-1), 1) := by decide +kernel
theorem dX2_isAwayBetween_43 : decode cX2_isAwayBetween 43 = .ok (.if_icmp .eq 7, 3) := by decide +kernel
theorem dX2_isAwayBetween_46 : decode cX2_isAwayBetween 46 = .ok (.iconst 1, 1) := by decide +kernel
theorem dX2_isAwayBetween_47 : decode cX2_isAwayBetween 47 = .ok (.goto 4, 3) := by decide +kernel
theorem dX2_isAwayBetween_50 : decode cX2_isAwayBetween 50 = .ok (.iconst 0, 1) := by decide +kernel
theorem dX2_isAwayBetween_51 : decode cX2_isAwayBetween 51 = .ok (.ireturn, 1) := by decide +kernel
theorem dX2_spaceOn_0 : decode cX2_spaceOn 0 = .ok (.iconst 0, 1) := by decide +kernel
theorem dX2_spaceOn_1 : decode cX2_spaceOn 1 = .ok (.istore_n 2, 1) := by decide +kernel
theorem dX2_spaceOn_2 : decode cX2_spaceOn 2 = .ok (.iconst 0, 1) := by decide +kernel
theorem dX2_spaceOn_3 : decode cX2_spaceOn 3 = .ok (.istore_n 3, 1) := by decide +kernel
theorem dX2_spaceOn_4 : decode cX2_spaceOn 4 = .ok (.iload_n 3, 1) := by decide +kernel
theorem dX2_spaceOn_5 : decode cX2_spaceOn 5 = .ok (.aload_n 0, 1) := by decide +kernel
theorem dX2_spaceOn_6 : decode cX2_spaceOn 6 = .ok (.getfield 12, 3) := by decide +kernel
theorem dX2_spaceOn_9 : decode cX2_spaceOn 9 = .ok (.invokevirtual 39, 3) := by decide +kernel
theorem dX2_spaceOn_12 : decode cX2_spaceOn 12 = .ok (.if_icmp .ge 54, 3) := by decide +kernel
theorem dX2_spaceOn_15 : decode cX2_spaceOn 15 = .ok (.iload_n 3, 1) := by decide +kernel
theorem dX2_spaceOn_16 : decode cX2_spaceOn 16 = .ok (.aload_n 0, 1) := by decide +kernel
theorem dX2_spaceOn_17 : decode cX2_spaceOn 17 = .ok (.getfield 18, 3) := by decide +kernel
theorem dX2_spaceOn_20 : decode cX2_spaceOn 20 = .ok (.arraylength, 1) := by decide +kernel
theorem dX2_spaceOn_21 : decode cX2_spaceOn 21 = .ok (.if_icmp .ge 45, 3) := by decide +kernel
theorem dX2_spaceOn_24 : decode cX2_spaceOn 24 = .ok (.iload_n 2, 1) := by decide +kernel
theorem dX2_spaceOn_25 : decode cX2_spaceOn 25 = .ok (.aload_n 0, 1) := by decide +kernel
theorem dX2_spaceOn_26 : decode cX2_spaceOn 26 = .ok (.getfield 18, 3) := by decide +kernel
theorem dX2_spaceOn_29 : decode cX2_spaceOn 29 = .ok (.iload_n 3, 1) := by decide +kernel
theorem dX2_spaceOn_30 : decode cX2_spaceOn 30 = .ok (.iaload, 1) := by decide +kernel
theorem dX2_spaceOn_31 : decode cX2_spaceOn 31 = .ok (.iload_n 1, 1) := by decide +kernel
theorem dX2_spaceOn_32 : decode cX2_spaceOn 32 = .ok (.if_icmp .ne 25, 3) := by decide +kernel
theorem dX2_spaceOn_35 : decode cX2_spaceOn 35 = .ok (.aload_n 0, 1) := by decide +kernel
theorem dX2_spaceOn_36 : decode cX2_spaceOn 36 = .ok (.getfield 12, 3) := by decide +kernel
theorem dX2_spaceOn_39 : decode cX2_spaceOn 39 = .ok (.iload_n 3, 1) := by decide +kernel
theorem dX2_spaceOn_40 : decode cX2_spaceOn 40 = .ok (.invokevirtual 43, 3) := by decide +kernel
theorem dX2_spaceOn_43 : decode cX2_spaceOn 43 = .ok (.checkcast 47, 3) := by decide +kernel
theorem dX2_spaceOn_46 : decode cX2_spaceOn 46 = .ok (.getfield 57, 3) := by decide +kernel
theorem dX2_spaceOn_49 : decode cX2_spaceOn 49 = .ok (.aload_n 0, 1) := by decide +kernel
theorem dX2_spaceOn_50 : decode cX2_spaceOn 50 = .ok (.getfield 36, 3) := by decide +kernel
theorem dX2_spaceOn_53 : decode cX2_spaceOn 53 = .ok (.iadd, 1) := by decide +kernel
theorem dX2_spaceOn_54 : decode cX2_spaceOn 54 = .ok (.goto 4, 3) := by decide +kernel
theorem dX2_spaceOn_57 : decode cX2_spaceOn 57 = .ok (.iconst 0, 1) := by decide +kernel
theorem dX2_spaceOn_58 : decode cX2_spaceOn 58 = .ok (.iadd, 1) := by decide +kernel
theorem dX2_spaceOn_59 : decode cX2_spaceOn 59 = .ok (.istore_n 2, 1) := by decide +kernel
theorem dX2_spaceOn_60 : decode cX2_spaceOn 60 = .ok (.iinc 3 1, 3) := by decide +kernel
theorem dX2_spaceOn_63 : decode cX2_spaceOn 63 = .ok (.goto (-59), 3) := by decide +kernel
theorem dX2_spaceOn_66 : decode cX2_spaceOn 66 = .ok (.iload_n 2, 1) := by decide +kernel
theorem dX2_spaceOn_67 : decode cX2_spaceOn 67 = .ok (.ireturn, 1) := by decide +kernel
theorem dX2_countOn_0 : decode cX2_countOn 0 = .ok (.iconst 0, 1) := by decide +kernel
theorem dX2_countOn_1 : decode cX2_countOn 1 = .ok (.istore_n 2, 1) := by decide +kernel
theorem dX2_countOn_2 : decode cX2_countOn 2 = .ok (.iconst 0, 1) := by decide +kernel
theorem dX2_countOn_3 : decode cX2_countOn 3 = .ok (.istore_n 3, 1) := by decide +kernel
theorem dX2_countOn_4 : decode cX2_countOn 4 = .ok (.iload_n 3, 1) := by decide +kernel
theorem dX2_countOn_5 : decode cX2_countOn 5 = .ok (.aload_n 0, 1) := by decide +kernel
theorem dX2_countOn_6 : decode cX2_countOn 6 = .ok (.getfield 12, 3) := by decide +kernel
theorem dX2_countOn_9 : decode cX2_countOn 9 = .ok (.invokevirtual 39, 3) := by decide +kernel
theorem dX2_countOn_12 : decode cX2_countOn 12 = .ok (.if_icmp .ge 36, 3) := by decide +kernel
theorem dX2_countOn_15 : decode cX2_countOn 15 = .ok (.iload_n 3, 1) := by decide +kernel
theorem dX2_countOn_16 : decode cX2_countOn 16 = .ok (.aload_n 0, 1) := by decide +kernel
theorem dX2_countOn_17 : decode cX2_countOn 17 = .ok (.getfield 18, 3) := by decide +kernel
theorem dX2_countOn_20 : decode cX2_countOn 20 = .ok (.arraylength, 1) := by decide +kernel
theorem dX2_countOn_21 : decode cX2_countOn 21 = .ok (.if_icmp .ge 27, 3) := by decide +kernel
theorem dX2_countOn_24 : decode cX2_countOn 24 = .ok (.iload_n 2, 1) := by decide +kernel
theorem dX2_countOn_25 : decode cX2_countOn 25 = .ok (.aload_n 0, 1) := by decide +kernel
theorem dX2_countOn_26 : decode cX2_countOn 26 = .ok (.getfield 18, 3) := by decide +kernel
theorem dX2_countOn_29 : decode cX2_countOn 29 = .ok (.iload_n 3, 1) := by decide +kernel
theorem dX2_countOn_30 : decode cX2_countOn 30 = .ok (.iaload, 1) := by decide +kernel
theorem dX2_countOn_31 : decode cX2_countOn 31 = .ok (.iload_n 1, 1) := by decide +kernel
theorem dX2_countOn_32 : decode cX2_countOn 32 = .ok (.if_icmp .ne 7, 3) := by decide +kernel
theorem dX2_countOn_35 : decode cX2_countOn 35 = .ok (.iconst 1, 1) := by decide +kernel
theorem dX2_countOn_36 : decode cX2_countOn 36 = .ok (.goto 4, 3) := by decide +kernel
theorem dX2_countOn_39 : decode cX2_countOn 39 = .ok (.iconst 0, 1) := by decide +kernel
theorem dX2_countOn_40 : decode cX2_countOn 40 = .ok (.iadd, 1) := by decide +kernel
theorem dX2_countOn_41 : decode cX2_countOn 41 = .ok (.istore_n 2, 1) := by decide +kernel
theorem dX2_countOn_42 : decode cX2_countOn 42 = .ok (.iinc 3 1, 3) := by decide +kernel
theorem dX2_countOn_45 : decode cX2_countOn 45 = .ok (.goto (-41), 3) := by decide +kernel
theorem dX2_countOn_48 : decode cX2_countOn 48 = .ok (.iload_n 2, 1) := by decide +kernel
theorem dX2_countOn_49 : decode cX2_countOn 49 = .ok (.ireturn, 1) := by decide +kernel
theorem dX2_insuredSum_0 : decode cX2_insuredSum 0 = .ok (.lconst 0, 1) := by decide +kernel
theorem dX2_insuredSum_1 : decode cX2_insuredSum 1 = .ok (.lstore_n 1, 1) := by decide +kernel
theorem dX2_insuredSum_2 : decode cX2_insuredSum 2 = .ok (.iconst 0, 1) := by decide +kernel
theorem dX2_insuredSum_3 : decode cX2_insuredSum 3 = .ok (.istore_n 3, 1) := by decide +kernel
theorem dX2_insuredSum_4 : decode cX2_insuredSum 4 = .ok (.iload_n 3, 1) := by decide +kernel
theorem dX2_insuredSum_5 : decode cX2_insuredSum 5 = .ok (.aload_n 0, 1) := by decide +kernel
theorem dX2_insuredSum_6 : decode cX2_insuredSum 6 = .ok (.getfield 12, 3) := by decide +kernel
theorem dX2_insuredSum_9 : decode cX2_insuredSum 9 = .ok (.invokevirtual 39, 3) := by decide +kernel
theorem dX2_insuredSum_12 : decode cX2_insuredSum 12 = .ok (.if_icmp .ge 53, 3) := by decide +kernel
theorem dX2_insuredSum_15 : decode cX2_insuredSum 15 = .ok (.aload_n 0, 1) := by decide +kernel
theorem dX2_insuredSum_16 : decode cX2_insuredSum 16 = .ok (.getfield 12, 3) := by decide +kernel
theorem dX2_insuredSum_19 : decode cX2_insuredSum 19 = .ok (.iload_n 3, 1) := by decide +kernel
theorem dX2_insuredSum_20 : decode cX2_insuredSum 20 = .ok (.invokevirtual 43, 3) := by decide +kernel
theorem dX2_insuredSum_23 : decode cX2_insuredSum 23 = .ok (.checkcast 47, 3) := by decide +kernel
theorem dX2_insuredSum_26 : decode cX2_insuredSum 26 = .ok (.astore 4, 2) := by decide +kernel
theorem dX2_insuredSum_28 : decode cX2_insuredSum 28 = .ok (.aload 4, 2) := by decide +kernel
theorem dX2_insuredSum_30 : decode cX2_insuredSum 30 = .ok (.getfield 60, 3) := by decide +kernel
theorem dX2_insuredSum_33 : decode cX2_insuredSum 33 = .ok (.ifnull 26, 3) := by decide +kernel
theorem dX2_insuredSum_36 : decode cX2_insuredSum 36 = .ok (.lload_n 1, 1) := by decide +kernel
theorem dX2_insuredSum_37 : decode cX2_insuredSum 37 = .ok (.aload 4, 2) := by decide +kernel
theorem dX2_insuredSum_39 : decode cX2_insuredSum 39 = .ok (.getfield 64, 3) := by decide +kernel
theorem dX2_insuredSum_42 : decode cX2_insuredSum 42 = .ok (.i2l, 1) := by decide +kernel
theorem dX2_insuredSum_43 : decode cX2_insuredSum 43 = .ok (.aload_n 0, 1) := by decide +kernel
theorem dX2_insuredSum_44 : decode cX2_insuredSum 44 = .ok (.invokevirtual 67, 3) := by decide +kernel
theorem dX2_insuredSum_47 : decode cX2_insuredSum 47 = .ok (.iconst 2, 1) := by decide +kernel
theorem dX2_insuredSum_48 : decode cX2_insuredSum 48 = .ok (.aload 4, 2) := by decide +kernel
theorem dX2_insuredSum_50 : decode cX2_insuredSum 50 = .ok (.invokevirtual 50, 3) := by decide +kernel
theorem dX2_insuredSum_53 : decode cX2_insuredSum 53 = .ok (.imul, 1) := by decide +kernel
theorem dX2_insuredSum_54 : decode cX2_insuredSum 54 = .ok (.iadd, 1) := by decide +kernel
theorem dX2_insuredSum_55 : decode cX2_insuredSum 55 = .ok (.i2l, 1) := by decide +kernel
theorem dX2_insuredSum_56 : decode cX2_insuredSum 56 = .ok (.lmul, 1) := by decide +kernel
theorem dX2_insuredSum_57 : decode cX2_insuredSum 57 = .ok (.ladd, 1) := by decide +kernel
theorem dX2_insuredSum_58 : decode cX2_insuredSum 58 = .ok (.lstore_n 1, 1) := by decide +kernel
theorem dX2_insuredSum_59 : decode cX2_insuredSum 59 = .ok (.iinc 3 1, 3) := by decide +kernel
theorem dX2_insuredSum_62 : decode cX2_insuredSum 62 = .ok (.goto (-58), 3) := by decide +kernel
theorem dX2_insuredSum_65 : decode cX2_insuredSum 65 = .ok (.lload_n 1, 1) := by decide +kernel
theorem dX2_insuredSum_66 : decode cX2_insuredSum 66 = .ok (.lreturn, 1) := by decide +kernel
theorem dX2_hangAs_0 : decode cX2_hangAs 0 = .ok (.iconst 0, 1) := by decide +kernel
theorem dX2_hangAs_1 : decode cX2_hangAs 1 = .ok (.istore_n 2, 1) := by decide +kernel
theorem dX2_hangAs_2 : decode cX2_hangAs 2 = .ok (.iload_n 2, 1) := by decide +kernel
theorem dX2_hangAs_3 : decode cX2_hangAs 3 = .ok (.aload_n 0, 1) := by decide +kernel
theorem dX2_hangAs_4 : decode cX2_hangAs 4 = .ok (.getfield 12, 3) := by decide +kernel
theorem dX2_hangAs_7 : decode cX2_hangAs 7 = .ok (.invokevirtual 39, 3) := by decide +kernel
theorem dX2_hangAs_10 : decode cX2_hangAs 10 = .ok (.if_icmp .ge 22, 3) := by decide +kernel
theorem dX2_hangAs_13 : decode cX2_hangAs 13 = .ok (.aload_n 0, 1) := by decide +kernel
theorem dX2_hangAs_14 : decode cX2_hangAs 14 = .ok (.getfield 18, 3) := by decide +kernel
theorem dX2_hangAs_17 : decode cX2_hangAs 17 = .ok (.iload_n 2, 1) := by decide +kernel
theorem dX2_hangAs_18 : decode cX2_hangAs 18 = .ok (.aload_n 1, 1) := by decide +kernel
theorem dX2_hangAs_19 : decode cX2_hangAs 19 = .ok (.iload_n 2, 1) := by decide +kernel
theorem dX2_hangAs_20 : decode cX2_hangAs 20 = .ok (.invokestatic 70, 3) := by decide +kernel
theorem dX2_hangAs_23 : decode cX2_hangAs 23 = .ok (.invokestatic 74, 3) := by decide +kernel
theorem dX2_hangAs_26 : decode cX2_hangAs 26 = .ok (.iinc 2 1, 3) := by decide +kernel
theorem dX2_hangAs_29 : decode cX2_hangAs 29 = .ok (.goto (-27), 3) := by decide +kernel
theorem dX2_hangAs_32 : decode cX2_hangAs 32 = .ok (.aload_n 0, 1) := by decide +kernel
theorem dX2_hangAs_33 : decode cX2_hangAs 33 = .ok (.bipush 112, 2) := by decide +kernel
theorem dX2_hangAs_35 : decode cX2_hangAs 35 = .ok (.putfield 22, 3) := by decide +kernel
theorem dX2_hangAs_38 : decode cX2_hangAs 38 = .ok (.return_, 1) := by decide +kernel
theorem dX3_init_0 : decode cX3_init 0 = .ok (.aload_n 0, 1) := by decide +kernel
theorem dX3_init_1 : decode cX3_init 1 = .ok (.invokespecial 3, 3) := by decide +kernel
theorem dX3_init_4 : decode cX3_init 4 = .ok (.aload_n 0, 1) := by decide +kernel
theorem dX3_init_5 : decode cX3_init 5 = .ok (.new 9, 3) := by decide +kernel
theorem dX3_init_8 : decode cX3_init 8 = .ok (.dup, 1) := by decide +kernel
theorem dX3_init_9 : decode cX3_init 9 = .ok (.invokespecial 11, 3) := by decide +kernel
theorem dX3_init_12 : decode cX3_init 12 = .ok (.putfield 12, 3) := by decide +kernel
theorem dX3_init_15 : decode cX3_init 15 = .ok (.return_, 1) := by decide +kernel
theorem dX3_walls_0 : decode cX3_walls 0 = .ok (.aload_n 0, 1) := by decide +kernel
theorem dX3_walls_1 : decode cX3_walls 1 = .ok (.getfield 12, 3) := by decide +kernel
theorem dX3_walls_4 : decode cX3_walls 4 = .ok (.invokevirtual 18, 3) := by decide +kernel
theorem dX3_walls_7 : decode cX3_walls 7 = .ok (.iconst 2, 1) := by decide +kernel
theorem dX3_walls_8 : decode cX3_walls 8 = .ok (.imul, 1) := by decide +kernel
theorem dX3_walls_9 : decode cX3_walls 9 = .ok (.ireturn, 1) := by decide +kernel
theorem dX3_lengthOf_0 : decode cX3_lengthOf 0 = .ok (.iload_n 1, 1) := by decide +kernel
theorem dX3_lengthOf_1 : decode cX3_lengthOf 1 = .ok (.iconst 0, 1) := by decide +kernel
theorem dX3_lengthOf_2 : decode cX3_lengthOf 2 = .ok (.aload_n 0, 1) := by decide +kernel
theorem dX3_lengthOf_3 : decode cX3_lengthOf 3 = .ok (.invokevirtual 22, 3) := by decide +kernel
theorem dX3_lengthOf_6 : decode cX3_lengthOf 6 = .ok (.iconst 1, 1) := by decide +kernel
theorem dX3_lengthOf_7 : decode cX3_lengthOf 7 = .ok (.isub, 1) := by decide +kernel
theorem dX3_lengthOf_8 : decode cX3_lengthOf 8 = .ok (.invokestatic 25, 3) := by decide +kernel
theorem dX3_lengthOf_11 : decode cX3_lengthOf 11 = .ok (.ifCond .ne 5, 3) := by decide +kernel
theorem dX3_lengthOf_14 : decode cX3_lengthOf 14 = .ok (.iconst 0, 1) := by decide +kernel
theorem dX3_lengthOf_15 : decode cX3_lengthOf 15 = .ok (.ireturn, 1) := by decide +kernel
theorem dX3_lengthOf_16 : decode cX3_lengthOf 16 = .ok (.aload_n 0, 1) := by decide +kernel
theorem dX3_lengthOf_17 : decode cX3_lengthOf 17 = .ok (.getfield 12, 3) := by decide +kernel
theorem dX3_lengthOf_20 : decode cX3_lengthOf 20 = .ok (.iload_n 1, 1) := by decide +kernel
theorem dX3_lengthOf_21 : decode cX3_lengthOf 21 = .ok (.iconst 2, 1) := by decide +kernel
theorem dX3_lengthOf_22 : decode cX3_lengthOf 22 = .ok (.idiv, 1) := by decide +kernel
theorem dX3_lengthOf_23 : decode cX3_lengthOf 23 = .ok (.invokevirtual 29, 3) := by decide +kernel
theorem dX3_lengthOf_26 : decode cX3_lengthOf 26 = .ok (.checkcast 33, 3) := by decide +kernel
theorem dX3_lengthOf_29 : decode cX3_lengthOf 29 = .ok (.astore_n 2, 1) := by decide +kernel
theorem dX3_lengthOf_30 : decode cX3_lengthOf 30 = .ok (.iload_n 1, 1) := by decide +kernel
theorem dX3_lengthOf_31 : decode cX3_lengthOf 31 = .ok (.iconst 2, 1) := by decide +kernel
theorem dX3_lengthOf_32 : decode cX3_lengthOf 32 = .ok (.irem, 1) := by decide +kernel
theorem dX3_lengthOf_33 : decode cX3_lengthOf 33 = .ok (.ifCond .ne 10, 3) := by decide +kernel
theorem dX3_lengthOf_36 : decode cX3_lengthOf 36 = .ok (.aload_n 2, 1) := by decide +kernel
theorem dX3_lengthOf_37 : decode cX3_lengthOf 37 = .ok (.getfield 35, 3) := by decide +kernel
theorem dX3_lengthOf_40 : decode cX3_lengthOf 40 = .ok (.goto 7, 3) := by decide +kernel
theorem dX3_lengthOf_43 : decode cX3_lengthOf 43 = .ok (.aload_n 2, 1) := by decide +kernel
theorem dX3_lengthOf_44 : decode cX3_lengthOf 44 = .ok (.getfield 39, 3) := by decide +kernel
theorem dX3_lengthOf_47 : decode cX3_lengthOf 47 = .ok (.ireturn, 1) := by decide +kernel
theorem dX3_suits_0 : decode cX3_suits 0 = .ok (.iload_n 2, 1) := by decide +kernel
theorem dX3_suits_1 : decode cX3_suits 1 = .ok (.iconst 0, 1) := by decide +kernel
theorem dX3_suits_2 : decode cX3_suits 2 = .ok (.aload_n 0, 1) := by decide +kernel
theorem dX3_suits_3 : decode cX3_suits 3 = .ok (.invokevirtual 22, 3) := by decide +kernel
theorem dX3_suits_6 : decode cX3_suits 6 = .ok (.iconst 1, 1) := by decide +kernel
theorem dX3_suits_7 : decode cX3_suits 7 = .ok (.isub, 1) := by decide +kernel
theorem dX3_suits_8 : decode cX3_suits 8 = .ok (.invokestatic 25, 3) := by decide +kernel
theorem dX3_suits_11 : decode cX3_suits 11 = .ok (.ifCond .eq 27, 3) := by decide +kernel
theorem dX3_suits_14 : decode cX3_suits 14 = .ok (.aload_n 1, 1) := by decide +kernel
theorem dX3_suits_15 : decode cX3_suits 15 = .ok (.aload_n 0, 1) := by decide +kernel
theorem dX3_suits_16 : decode cX3_suits 16 = .ok (.getfield 12, 3) := by decide +kernel
theorem dX3_suits_19 : decode cX3_suits 19 = .ok (.iload_n 2, 1) := by decide +kernel
theorem dX3_suits_20 : decode cX3_suits 20 = .ok (.iconst 2, 1) := by decide +kernel
theorem dX3_suits_21 : decode cX3_suits 21 = .ok (.idiv, 1) := by decide +kernel
theorem dX3_suits_22 : decode cX3_suits 22 = .ok (.invokevirtual 29, 3) := by decide +kernel
theorem dX3_suits_25 : decode cX3_suits 25 = .ok (.checkcast 33, 3) := by decide +kernel
theorem dX3_suits_28 : decode cX3_suits 28 = .ok (.invokevirtual 42, 3) := by decide +kernel
theorem dX3_suits_31 : decode cX3_suits 31 = .ok (.ifCond .eq 7, 3) := by decide +kernel
theorem dX3_suits_34 : decode cX3_suits 34 = .ok (.iconst 1, 1) := by decide +kernel
theorem dX3_suits_35 : decode cX3_suits 35 = .ok (.goto 4, 3) := by decide +kernel
theorem dX3_suits_38 : decode cX3_suits 38 = .ok (.iconst 0, 1) := by decide +kernel
theorem dX3_suits_39 : decode cX3_suits 39 = .ok (.ireturn, 1) := by decide +kernel
theorem dX4_init_0 : decode cX4_init 0 = .ok (.aload_n 0, 1) := by decide +kernel
theorem dX4_init_1 : decode cX4_init 1 = .ok (.invokespecial 1, 3) := by decide +kernel
theorem dX4_init_4 : decode cX4_init 4 = .ok (.aload_n 0, 1) := by decide +kernel
theorem dX4_init_5 : decode cX4_init 5 = .ok (.iload_n 1, 1) := by decide +kernel
theorem dX4_init_6 : decode cX4_init 6 = .ok (.putfield 7, 3) := by decide +kernel
theorem dX4_init_9 : decode cX4_init 9 = .ok (.aload_n 0, 1) := by decide +kernel
theorem dX4_init_10 : decode cX4_init 10 = .ok (.iload_n 2, 1) := by decide +kernel
theorem dX4_init_11 : decode cX4_init 11 = .ok (.putfield 13, 3) := by decide +kernel
theorem dX4_init_14 : decode cX4_init 14 = .ok (.aload_n 0, 1) := by decide +kernel
theorem dX4_init_15 : decode cX4_init 15 = .ok (.iload_n 3, 1) := by decide +kernel
theorem dX4_init_16 : decode cX4_init 16 = .ok (.putfield 16, 3) := by decide +kernel
theorem dX4_init_19 : decode cX4_init 19 = .ok (.aload_n 0, 1) := by decide +kernel
theorem dX4_init_20 : decode cX4_init 20 = .ok (.iload 4, 2) := by decide +kernel
theorem dX4_init_22 : decode cX4_init 22 = .ok (.putfield 19, 3) := by decide +kernel
theorem dX4_init_25 : decode cX4_init 25 = .ok (.return_, 1) := by decide +kernel
theorem dX5_init_0 : decode cX5_init 0 = .ok (.aload_n 0, 1) := by decide +kernel
theorem dX5_init_1 : decode cX5_init 1 = .ok (.invokespecial 3, 3) := by decide +kernel
theorem dX5_init_4 : decode cX5_init 4 = .ok (.aload_n 0, 1) := by decide +kernel
theorem dX5_init_5 : decode cX5_init 5 = .ok (.iconst 5, 1) := by decide +kernel
theorem dX5_init_6 : decode cX5_init 6 = .ok (.newarray .int, 2) := by decide +kernel
theorem dX5_init_8 : decode cX5_init 8 = .ok (.putfield 9, 3) := by decide +kernel
theorem dX5_init_11 : decode cX5_init 11 = .ok (.aload_n 0, 1) := by decide +kernel
theorem dX5_init_12 : decode cX5_init 12 = .ok (.iconst 5, 1) := by decide +kernel
theorem dX5_init_13 : decode cX5_init 13 = .ok (.newarray .int, 2) := by decide +kernel
theorem dX5_init_15 : decode cX5_init 15 = .ok (.putfield 15, 3) := by decide +kernel
theorem dX5_init_18 : decode cX5_init 18 = .ok (.aload_n 0, 1) := by decide +kernel
theorem dX5_init_19 : decode cX5_init 19 = .ok (.bipush 32, 2) := by decide +kernel
theorem dX5_init_21 : decode cX5_init 21 = .ok (.newarray .int, 2) := by decide +kernel
theorem dX5_init_23 : decode cX5_init 23 = .ok (.putfield 18, 3) := by decide +kernel
theorem dX5_init_26 : decode cX5_init 26 = .ok (.return_, 1) := by decide +kernel
theorem dX5_collect_0 : decode cX5_collect 0 = .ok (.aload_n 0, 1) := by decide +kernel
theorem dX5_collect_1 : decode cX5_collect 1 = .ok (.aload_n 2, 1) := by decide +kernel
theorem dX5_collect_2 : decode cX5_collect 2 = .ok (.getfield 21, 3) := by decide +kernel
theorem dX5_collect_5 : decode cX5_collect 5 = .ok (.putfield 27, 3) := by decide +kernel
theorem dX5_collect_8 : decode cX5_collect 8 = .ok (.aload_n 0, 1) := by decide +kernel
theorem dX5_collect_9 : decode cX5_collect 9 = .ok (.iconst 0, 1) := by decide +kernel
theorem dX5_collect_10 : decode cX5_collect 10 = .ok (.putfield 28, 3) := by decide +kernel
theorem dX5_collect_13 : decode cX5_collect 13 = .ok (.iconst 0, 1) := by decide +kernel
theorem dX5_collect_14 : decode cX5_collect 14 = .ok (.istore_n 3, 1) := by decide +kernel
theorem dX5_collect_15 : decode cX5_collect 15 = .ok (.iload_n 3, 1) := by decide +kernel
theorem dX5_collect_16 : decode cX5_collect 16 = .ok (.aload_n 1, 1) := by decide +kernel
theorem dX5_collect_17 : decode cX5_collect 17 = .ok (.getfield 31, 3) := by decide +kernel
theorem dX5_collect_20 : decode cX5_collect 20 = .ok (.invokevirtual 37, 3) := by decide +kernel
theorem dX5_collect_23 : decode cX5_collect 23 = .ok (.if_icmp .ge 71, 3) := by decide +kernel
theorem dX5_collect_26 : decode cX5_collect 26 = .ok (.aload_n 1, 1) := by decide +kernel
theorem dX5_collect_27 : decode cX5_collect 27 = .ok (.getfield 31, 3) := by decide +kernel
theorem dX5_collect_30 : decode cX5_collect 30 = .ok (.iload_n 3, 1) := by decide +kernel
theorem dX5_collect_31 : decode cX5_collect 31 = .ok (.invokevirtual 43, 3) := by decide +kernel
theorem dX5_collect_34 : decode cX5_collect 34 = .ok (.checkcast 47, 3) := by decide +kernel
theorem dX5_collect_37 : decode cX5_collect 37 = .ok (.astore 4, 2) := by decide +kernel
theorem dX5_collect_39 : decode cX5_collect 39 = .ok (.aload 4, 2) := by decide +kernel
theorem dX5_collect_41 : decode cX5_collect 41 = .ok (.aload_n 2, 1) := by decide +kernel
theorem dX5_collect_42 : decode cX5_collect 42 = .ok (.invokevirtual 49, 3) := by decide +kernel
theorem dX5_collect_45 : decode cX5_collect 45 = .ok (.ifCond .eq 43, 3) := by decide +kernel
theorem dX5_collect_48 : decode cX5_collect 48 = .ok (.aload 4, 2) := by decide +kernel
theorem dX5_collect_50 : decode cX5_collect 50 = .ok (.getfield 53, 3) := by decide +kernel
theorem dX5_collect_53 : decode cX5_collect 53 = .ok (.aload_n 0, 1) := by decide +kernel
theorem dX5_collect_54 : decode cX5_collect 54 = .ok (.getfield 27, 3) := by decide +kernel
theorem dX5_collect_57 : decode cX5_collect 57 = .ok (.if_icmp .le 5, 3) := by decide +kernel
theorem dX5_collect_60 : decode cX5_collect 60 = .ok (.iconst 0, 1) := by decide +kernel
theorem dX5_collect_61 : decode cX5_collect 61 = .ok (.ireturn, 1) := by decide +kernel
theorem dX5_collect_62 : decode cX5_collect 62 = .ok (.aload_n 0, 1) := by decide +kernel
theorem dX5_collect_63 : decode cX5_collect 63 = .ok (.getfield 9, 3) := by decide +kernel
theorem dX5_collect_66 : decode cX5_collect 66 = .ok (.aload_n 0, 1) := by decide +kernel
theorem dX5_collect_67 : decode cX5_collect 67 = .ok (.getfield 28, 3) := by decide +kernel
theorem dX5_collect_70 : decode cX5_collect 70 = .ok (.aload 4, 2) := by decide +kernel
theorem dX5_collect_72 : decode cX5_collect 72 = .ok (.getfield 53, 3) := by decide +kernel
theorem dX5_collect_75 : decode cX5_collect 75 = .ok (.invokestatic 56, 3) := by decide +kernel
theorem dX5_collect_78 : decode cX5_collect 78 = .ok (.aload_n 0, 1) := by decide +kernel
theorem dX5_collect_79 : decode cX5_collect 79 = .ok (.dup, 1) := by decide +kernel
theorem dX5_collect_80 : decode cX5_collect 80 = .ok (.getfield 28, 3) := by decide +kernel
theorem dX5_collect_83 : decode cX5_collect 83 = .ok (.iconst 1, 1) := by decide +kernel
theorem dX5_collect_84 : decode cX5_collect 84 = .ok (.iadd, 1) := by decide +kernel
theorem dX5_collect_85 : decode cX5_collect 85 = .ok (.putfield 28, 3) := by decide +kernel
theorem dX5_collect_88 : decode cX5_collect 88 = .ok (.iinc 3 1, 3) := by decide +kernel
theorem dX5_collect_91 : decode cX5_collect 91 = .ok (.goto (-76), 3) := by decide +kernel
theorem dX5_collect_94 : decode cX5_collect 94 = .ok (.iconst 1, 1) := by decide +kernel
theorem dX5_collect_95 : decode cX5_collect 95 = .ok (.ireturn, 1) := by decide +kernel
theorem dX5_leastByGroups_0 : decode cX5_leastByGroups 0 = .ok (.iconst 1, 1) := by decide +kernel
theorem dX5_leastByGroups_1 : decode cX5_leastByGroups 1 = .ok (.aload_n 0, 1) := by decide +kernel
theorem dX5_leastByGroups_2 : decode cX5_leastByGroups 2 = .ok (.getfield 28, 3) := by decide +kernel
theorem dX5_leastByGroups_5 : decode cX5_leastByGroups 5 = .ok (.ishl, 1) := by decide +kernel
theorem dX5_leastByGroups_6 : decode cX5_leastByGroups 6 = .ok (.istore_n 1, 1) := by decide +kernel
theorem dX5_leastByGroups_7 : decode cX5_leastByGroups 7 = .ok (.iconst 1, 1) := by decide +kernel
theorem dX5_leastByGroups_8 : decode cX5_leastByGroups 8 = .ok (.istore_n 2, 1) := by decide +kernel
theorem dX5_leastByGroups_9 : decode cX5_leastByGroups 9 = .ok (.iload_n 2, 1) := by decide +kernel
theorem dX5_leastByGroups_10 : decode cX5_leastByGroups 10 = .ok (.iload_n 1, 1) := by decide +kernel
theorem dX5_leastByGroups_11 : decode cX5_leastByGroups 11 = .ok (.if_icmp .ge 38, 3) := by decide +kernel
theorem dX5_leastByGroups_14 : decode cX5_leastByGroups 14 = .ok (.aload_n 0, 1) := by decide +kernel
theorem dX5_leastByGroups_15 : decode cX5_leastByGroups 15 = .ok (.getfield 18, 3) := by decide +kernel
theorem dX5_leastByGroups_18 : decode cX5_leastByGroups 18 = .ok (.iload_n 2, 1) := by decide +kernel
theorem dX5_leastByGroups_19 : decode cX5_leastByGroups 19 = .ok (.aload_n 0, 1) := by decide +kernel
theorem dX5_leastByGroups_20 : decode cX5_leastByGroups 20 = .ok (.iload_n 2, 1) := by decide +kernel
theorem dX5_leastByGroups_21 : decode cX5_leastByGroups 21 = .ok (.invokevirtual 60, 3) := by decide +kernel
theorem dX5_leastByGroups_24 : decode cX5_leastByGroups 24 = .ok (.aload_n 0, 1) := by decide +kernel
theorem dX5_leastByGroups_25 : decode cX5_leastByGroups 25 = .ok (.getfield 27, 3) := by decide +kernel
theorem dX5_leastByGroups_28 : decode cX5_leastByGroups 28 = .ok (.if_icmp .gt 7, 3) := by decide +kernel
theorem dX5_leastByGroups_31 : decode cX5_leastByGroups 31 = .ok (.iconst 1, 1) := by decide +kernel
theorem dX5_leastByGroups_32 : decode cX5_leastByGroups 32 = .ok (.goto 8, 3) := by decide +kernel
theorem dX5_leastByGroups_35 : decode cX5_leastByGroups 35 = .ok (.aload_n 0, 1) := by decide +kernel
theorem dX5_leastByGroups_36 : decode cX5_leastByGroups 36 = .ok (.iload_n 2, 1) := by decide +kernel
theorem dX5_leastByGroups_37 : decode cX5_leastByGroups 37 = .ok (.invokevirtual 64, 3) := by decide +kernel
theorem dX5_leastByGroups_40 : decode cX5_leastByGroups 40 = .ok (.invokestatic 56, 3) := by decide +kernel
theorem dX5_leastByGroups_43 : decode cX5_leastByGroups 43 = .ok (.iinc 2 1, 3) := by decide +kernel
theorem dX5_leastByGroups_46 : decode cX5_leastByGroups 46 = .ok (.goto (-37), 3) := by decide +kernel
theorem dX5_leastByGroups_49 : decode cX5_leastByGroups 49 = .ok (.aload_n 0, 1) := by decide +kernel
theorem dX5_leastByGroups_50 : decode cX5_leastByGroups 50 = .ok (.getfield 18, 3) := by decide +kernel
theorem dX5_leastByGroups_53 : decode cX5_leastByGroups 53 = .ok (.iload_n 1, 1) := by decide +kernel
theorem dX5_leastByGroups_54 : decode cX5_leastByGroups 54 = .ok (.iconst 1, 1) := by decide +kernel
theorem dX5_leastByGroups_55 : decode cX5_leastByGroups 55 = .ok (.isub, 1) := by decide +kernel
theorem dX5_leastByGroups_56 : decode cX5_leastByGroups 56 = .ok (.invokestatic 67, 3) := by decide +kernel
theorem dX5_leastByGroups_59 : decode cX5_leastByGroups 59 = .ok (.ireturn, 1) := by decide +kernel
theorem dX5_valueOf_0 : decode cX5_valueOf 0 = .ok (.iconst 0, 1) := by decide +kernel
theorem dX5_valueOf_1 : decode cX5_valueOf 1 = .ok (.istore_n 2, 1) := by decide +kernel
theorem dX5_valueOf_2 : decode cX5_valueOf 2 = .ok (.iconst 0, 1) := by decide +kernel
theorem dX5_valueOf_3 : decode cX5_valueOf 3 = .ok (.istore_n 3, 1) := by decide +kernel
theorem dX5_valueOf_4 : decode cX5_valueOf 4 = .ok (.iload_n 3, 1) := by decide +kernel
theorem dX5_valueOf_5 : decode cX5_valueOf 5 = .ok (.aload_n 0, 1) := by decide +kernel
theorem dX5_valueOf_6 : decode cX5_valueOf 6 = .ok (.getfield 28, 3) := by decide +kernel
theorem dX5_valueOf_9 : decode cX5_valueOf 9 = .ok (.if_icmp .ge 33, 3) := by decide +kernel
theorem dX5_valueOf_12 : decode cX5_valueOf 12 = .ok (.iload_n 2, 1) := by decide +kernel
theorem dX5_valueOf_13 : decode cX5_valueOf 13 = .ok (.iload_n 1, 1) := by decide +kernel
theorem dX5_valueOf_14 : decode cX5_valueOf 14 = .ok (.iload_n 3, 1) := by decide +kernel
theorem dX5_valueOf_15 : decode cX5_valueOf 15 = .ok (.ishr, 1) := by decide +kernel
theorem dX5_valueOf_16 : decode cX5_valueOf 16 = .ok (.iconst 1, 1) := by decide +kernel
theorem dX5_valueOf_17 : decode cX5_valueOf 17 = .ok (.iand, 1) := by decide +kernel
theorem dX5_valueOf_18 : decode cX5_valueOf 18 = .ok (.iconst 1, 1) := by decide +kernel
theorem dX5_valueOf_19 : decode cX5_valueOf 19 = .ok (.if_icmp .ne 14, 3) := by decide +kernel
theorem dX5_valueOf_22 : decode cX5_valueOf 22 = .ok (.aload_n 0, 1) := by decide +kernel
theorem dX5_valueOf_23 : decode cX5_valueOf 23 = .ok (.getfield 9, 3) := by decide +kernel
theorem dX5_valueOf_26 : decode cX5_valueOf 26 = .ok (.iload_n 3, 1) := by decide +kernel
theorem dX5_valueOf_27 : decode cX5_valueOf 27 = .ok (.invokestatic 67, 3) := by decide +kernel
theorem dX5_valueOf_30 : decode cX5_valueOf 30 = .ok (.goto 4, 3) := by decide +kernel
theorem dX5_valueOf_33 : decode cX5_valueOf 33 = .ok (.iconst 0, 1) := by decide +kernel
theorem dX5_valueOf_34 : decode cX5_valueOf 34 = .ok (.iadd, 1) := by decide +kernel
theorem dX5_valueOf_35 : decode cX5_valueOf 35 = .ok (.istore_n 2, 1) := by decide +kernel
theorem dX5_valueOf_36 : decode cX5_valueOf 36 = .ok (.iinc 3 1, 3) := by decide +kernel
theorem dX5_valueOf_39 : decode cX5_valueOf 39 = .ok (.goto (-35), 3) := by decide +kernel
theorem dX5_valueOf_42 : decode cX5_valueOf 42 = .ok (.iload_n 2, 1) := by decide +kernel
theorem dX5_valueOf_43 : decode cX5_valueOf 43 = .ok (.ireturn, 1) := by decide +kernel
theorem dX5_needOfParts_0 : decode cX5_needOfParts 0 = .ok (.aload_n 0, 1) := by decide +kernel
theorem dX5_needOfParts_1 : decode cX5_needOfParts 1 = .ok (.getfield 28, 3) := by decide +kernel
theorem dX5_needOfParts_4 : decode cX5_needOfParts 4 = .ok (.istore_n 2, 1) := by decide +kernel
theorem dX5_needOfParts_5 : decode cX5_needOfParts 5 = .ok (.iconst 1, 1) := by decide +kernel
theorem dX5_needOfParts_6 : decode cX5_needOfParts 6 = .ok (.istore_n 3, 1) := by decide +kernel
theorem dX5_needOfParts_7 : decode cX5_needOfParts 7 = .ok (.iload_n 3, 1) := by decide +kernel
theorem dX5_needOfParts_8 : decode cX5_needOfParts 8 = .ok (.iload_n 1, 1) := by decide +kernel
theorem dX5_needOfParts_9 : decode cX5_needOfParts 9 = .ok (.if_icmp .ge 40, 3) := by decide +kernel
theorem dX5_needOfParts_12 : decode cX5_needOfParts 12 = .ok (.iload_n 3, 1) := by decide +kernel
theorem dX5_needOfParts_13 : decode cX5_needOfParts 13 = .ok (.iload_n 1, 1) := by decide +kernel
theorem dX5_needOfParts_14 : decode cX5_needOfParts 14 = .ok (.iand, 1) := by decide +kernel
theorem dX5_needOfParts_15 : decode cX5_needOfParts 15 = .ok (.iload_n 3, 1) := by decide +kernel
theorem dX5_needOfParts_16 : decode cX5_needOfParts 16 = .ok (.if_icmp .ne 27, 3) := by decide +kernel
theorem dX5_needOfParts_19 : decode cX5_needOfParts 19 = .ok (.iload_n 2, 1) := by decide +kernel
theorem dX5_needOfParts_20 : decode cX5_needOfParts 20 = .ok (.aload_n 0, 1) := by decide +kernel
theorem dX5_needOfParts_21 : decode cX5_needOfParts 21 = .ok (.getfield 18, 3) := by decide +kernel
theorem dX5_needOfParts_24 : decode cX5_needOfParts 24 = .ok (.iload_n 3, 1) := by decide +kernel
theorem dX5_needOfParts_25 : decode cX5_needOfParts 25 = .ok (.invokestatic 67, 3) := by decide +kernel
theorem dX5_needOfParts_28 : decode cX5_needOfParts 28 = .ok (.aload_n 0, 1) := by decide +kernel
theorem dX5_needOfParts_29 : decode cX5_needOfParts 29 = .ok (.getfield 18, 3) := by decide +kernel
theorem dX5_needOfParts_32 : decode cX5_needOfParts 32 = .ok (.iload_n 1, 1) := by decide +kernel
theorem dX5_needOfParts_33 : decode cX5_needOfParts 33 = .ok (.iload_n 3, 1) := by decide +kernel
theorem dX5_needOfParts_34 : decode cX5_needOfParts 34 = .ok (.ixor, 1) := by decide +kernel
theorem dX5_needOfParts_35 : decode cX5_needOfParts 35 = .ok (.invokestatic 67, 3) := by decide +kernel
theorem dX5_needOfParts_38 : decode cX5_needOfParts 38 = .ok (.iadd, 1) := by decide +kernel
theorem dX5_needOfParts_39 : decode cX5_needOfParts 39 = .ok (.invokestatic 71, 3) := by decide +kernel
theorem dX5_needOfParts_42 : decode cX5_needOfParts 42 = .ok (.istore_n 2, 1) := by decide +kernel
theorem dX5_needOfParts_43 : decode cX5_needOfParts 43 = .ok (.iinc 3 1, 3) := by decide +kernel
theorem dX5_needOfParts_46 : decode cX5_needOfParts 46 = .ok (.goto (-39), 3) := by decide +kernel
theorem dX5_needOfParts_49 : decode cX5_needOfParts 49 = .ok (.iload_n 2, 1) := by decide +kernel
theorem dX5_needOfParts_50 : decode cX5_needOfParts 50 = .ok (.ireturn, 1) := by decide +kernel
theorem dX5_leastByTrying_0 : decode cX5_leastByTrying 0 = .ok (.aload_n 0, 1) := by decide +kernel
theorem dX5_leastByTrying_1 : decode cX5_leastByTrying 1 = .ok (.iconst 0, 1) := by decide +kernel
theorem dX5_leastByTrying_2 : decode cX5_leastByTrying 2 = .ok (.iconst 0, 1) := by decide +kernel
theorem dX5_leastByTrying_3 : decode cX5_leastByTrying 3 = .ok (.invokestatic 77, 3) := by decide +kernel
theorem dX5_leastByTrying_6 : decode cX5_leastByTrying 6 = .ok (.ireturn, 1) := by decide +kernel
theorem dX5_putFrom_0 : decode cX5_putFrom 0 = .ok (.iload_n 1, 1) := by decide +kernel
theorem dX5_putFrom_1 : decode cX5_putFrom 1 = .ok (.aload_n 0, 1) := by decide +kernel
theorem dX5_putFrom_2 : decode cX5_putFrom 2 = .ok (.getfield 28, 3) := by decide +kernel
theorem dX5_putFrom_5 : decode cX5_putFrom 5 = .ok (.if_icmp .ge 8, 3) := by decide +kernel
theorem dX5_putFrom_8 : decode cX5_putFrom 8 = .ok (.iload_n 1, 1) := by decide +kernel
theorem dX5_putFrom_9 : decode cX5_putFrom 9 = .ok (.iconst 5, 1) := by decide +kernel
theorem dX5_putFrom_10 : decode cX5_putFrom 10 = .ok (.if_icmp .lt 5, 3) := by decide +kernel
theorem dX5_putFrom_13 : decode cX5_putFrom 13 = .ok (.iload_n 2, 1) := by decide +kernel
theorem dX5_putFrom_14 : decode cX5_putFrom 14 = .ok (.ireturn, 1) := by decide +kernel
theorem dX5_putFrom_15 : decode cX5_putFrom 15 = .ok (.iconst 5, 1) := by decide +kernel
theorem dX5_putFrom_16 : decode cX5_putFrom 16 = .ok (.istore_n 3, 1) := by decide +kernel
theorem dX5_putFrom_17 : decode cX5_putFrom 17 = .ok (.aload_n 0, 1) := by decide +kernel
theorem dX5_putFrom_18 : decode cX5_putFrom 18 = .ok (.getfield 9, 3) := by decide +kernel
theorem dX5_putFrom_21 : decode cX5_putFrom 21 = .ok (.iload_n 1, 1) := by decide +kernel
theorem dX5_putFrom_22 : decode cX5_putFrom 22 = .ok (.invokestatic 67, 3) := by decide +kernel
theorem dX5_putFrom_25 : decode cX5_putFrom 25 = .ok (.istore 4, 2) := by decide +kernel
theorem dX5_putFrom_27 : decode cX5_putFrom 27 = .ok (.iconst 0, 1) := by decide +kernel
theorem dX5_putFrom_28 : decode cX5_putFrom 28 = .ok (.istore 5, 2) := by decide +kernel
theorem dX5_putFrom_30 : decode cX5_putFrom 30 = .ok (.iload 5, 2) := by decide +kernel
theorem dX5_putFrom_32 : decode cX5_putFrom 32 = .ok (.iload_n 2, 1) := by decide +kernel
theorem dX5_putFrom_33 : decode cX5_putFrom 33 = .ok (.if_icmp .gt 83, 3) := by decide +kernel
theorem dX5_putFrom_36 : decode cX5_putFrom 36 = .ok (.iload 5, 2) := by decide +kernel
theorem dX5_putFrom_38 : decode cX5_putFrom 38 = .ok (.iconst 5, 1) := by decide +kernel
theorem dX5_putFrom_39 : decode cX5_putFrom 39 = .ok (.if_icmp .ge 77, 3) := by decide +kernel
theorem dX5_putFrom_42 : decode cX5_putFrom 42 = .ok (.aload_n 0, 1) := by decide +kernel
theorem dX5_putFrom_43 : decode cX5_putFrom 43 = .ok (.getfield 15, 3) := by decide +kernel
theorem dX5_putFrom_46 : decode cX5_putFrom 46 = .ok (.iload 5, 2) := by decide +kernel
theorem dX5_putFrom_48 : decode cX5_putFrom 48 = .ok (.invokestatic 67, 3) := by decide +kernel
theorem dX5_putFrom_51 : decode cX5_putFrom 51 = .ok (.istore 6, 2) := by decide +kernel
theorem dX5_putFrom_53 : decode cX5_putFrom 53 = .ok (.iload 6, 2) := by decide +kernel
theorem dX5_putFrom_55 : decode cX5_putFrom 55 = .ok (.iload 4, 2) := by decide +kernel
theorem dX5_putFrom_57 : decode cX5_putFrom 57 = .ok (.iadd, 1) := by decide +kernel
theorem dX5_putFrom_58 : decode cX5_putFrom 58 = .ok (.aload_n 0, 1) := by decide +kernel
theorem dX5_putFrom_59 : decode cX5_putFrom 59 = .ok (.getfield 27, 3) := by decide +kernel
theorem dX5_putFrom_62 : decode cX5_putFrom 62 = .ok (.if_icmp .gt 48, 3) := by decide +kernel
theorem dX5_putFrom_65 : decode cX5_putFrom 65 = .ok (.aload_n 0, 1) := by decide +kernel
theorem dX5_putFrom_66 : decode cX5_putFrom 66 = .ok (.getfield 15, 3) := by decide +kernel
theorem dX5_putFrom_69 : decode cX5_putFrom 69 = .ok (.iload 5, 2) := by decide +kernel
theorem dX5_putFrom_71 : decode cX5_putFrom 71 = .ok (.iload 6, 2) := by decide +kernel
theorem dX5_putFrom_73 : decode cX5_putFrom 73 = .ok (.iload 4, 2) := by decide +kernel
theorem dX5_putFrom_75 : decode cX5_putFrom 75 = .ok (.iadd, 1) := by decide +kernel
theorem dX5_putFrom_76 : decode cX5_putFrom 76 = .ok (.invokestatic 56, 3) := by decide +kernel
theorem dX5_putFrom_79 : decode cX5_putFrom 79 = .ok (.iload_n 3, 1) := by decide +kernel
theorem dX5_putFrom_80 : decode cX5_putFrom 80 = .ok (.aload_n 0, 1) := by decide +kernel
theorem dX5_putFrom_81 : decode cX5_putFrom 81 = .ok (.iload_n 1, 1) := by decide +kernel
theorem dX5_putFrom_82 : decode cX5_putFrom 82 = .ok (.iconst 1, 1) := by decide +kernel
theorem dX5_putFrom_83 : decode cX5_putFrom 83 = .ok (.iadd, 1) := by decide +kernel
theorem dX5_putFrom_84 : decode cX5_putFrom 84 = .ok (.iload_n 2, 1) := by decide +kernel
theorem dX5_putFrom_85 : decode cX5_putFrom 85 = .ok (.iload 5, 2) := by decide +kernel
theorem dX5_putFrom_87 : decode cX5_putFrom 87 = .ok (.iconst 1, 1) := by decide +kernel
theorem dX5_putFrom_88 : decode cX5_putFrom 88 = .ok (.iadd, 1) := by decide +kernel
theorem dX5_putFrom_89 : decode cX5_putFrom 89 = .ok (.invokestatic 81, 3) := by decide +kernel
theorem dX5_putFrom_92 : decode cX5_putFrom 92 = .ok (.invokestatic 77, 3) := by decide +kernel
theorem dX5_putFrom_95 : decode cX5_putFrom 95 = .ok (.invokestatic 71, 3) := by decide +kernel
theorem dX5_putFrom_98 : decode cX5_putFrom 98 = .ok (.istore_n 3, 1) := by decide +kernel
theorem dX5_putFrom_99 : decode cX5_putFrom 99 = .ok (.aload_n 0, 1) := by decide +kernel
theorem dX5_putFrom_100 : decode cX5_putFrom 100 = .ok (.getfield 15, 3) := by decide +kernel
theorem dX5_putFrom_103 : decode cX5_putFrom 103 = .ok (.iload 5, 2) := by decide +kernel
theorem dX5_putFrom_105 : decode cX5_putFrom 105 = .ok (.iload 6, 2) := by decide +kernel
theorem dX5_putFrom_107 : decode cX5_putFrom 107 = .ok (.invokestatic 56, 3) := by decide +kernel
theorem dX5_putFrom_110 : decode cX5_putFrom 110 = .ok (.iinc 5 1, 3) := by decide +kernel
theorem dX5_putFrom_113 : decode cX5_putFrom 113 = .ok (.goto (-83), 3) := by decide +kernel
theorem dX5_putFrom_116 : decode cX5_putFrom 116 = .ok (.iload_n 3, 1) := by decide +kernel
theorem dX5_putFrom_117 : decode cX5_putFrom 117 = .ok (.ireturn, 1) := by decide +kernel
theorem dX6_init_0 : decode cX6_init 0 = .ok (.aload_n 0, 1) := by decide +kernel
theorem dX6_init_1 : decode cX6_init 1 = .ok (.invokespecial 1, 3) := by decide +kernel
theorem dX6_init_4 : decode cX6_init 4 = .ok (.aload_n 0, 1) := by decide +kernel
theorem dX6_init_5 : decode cX6_init 5 = .ok (.iload_n 1, 1) := by decide +kernel
theorem dX6_init_6 : decode cX6_init 6 = .ok (.putfield 7, 3) := by decide +kernel
theorem dX6_init_9 : decode cX6_init 9 = .ok (.aload_n 0, 1) := by decide +kernel
theorem dX6_init_10 : decode cX6_init 10 = .ok (.iload_n 2, 1) := by decide +kernel
theorem dX6_init_11 : decode cX6_init 11 = .ok (.putfield 13, 3) := by decide +kernel
theorem dX6_init_14 : decode cX6_init 14 = .ok (.aload_n 0, 1) := by decide +kernel
theorem dX6_init_15 : decode cX6_init 15 = .ok (.iload_n 3, 1) := by decide +kernel
theorem dX6_init_16 : decode cX6_init 16 = .ok (.putfield 16, 3) := by decide +kernel
theorem dX6_init_19 : decode cX6_init 19 = .ok (.aload_n 0, 1) := by decide +kernel
theorem dX6_init_20 : decode cX6_init 20 = .ok (.iload 4, 2) := by decide +kernel
theorem dX6_init_22 : decode cX6_init 22 = .ok (.putfield 19, 3) := by decide +kernel
theorem dX6_init_25 : decode cX6_init 25 = .ok (.return_, 1) := by decide +kernel
theorem dX7_init_0 : decode cX7_init 0 = .ok (.aload_n 0, 1) := by decide +kernel
theorem dX7_init_1 : decode cX7_init 1 = .ok (.invokespecial 3, 3) := by decide +kernel
theorem dX7_init_4 : decode cX7_init 4 = .ok (.aload_n 0, 1) := by decide +kernel
theorem dX7_init_5 : decode cX7_init 5 = .ok (.sipush 144, 3) := by decide +kernel
theorem dX7_init_8 : decode cX7_init 8 = .ok (.newarray .char, 2) := by decide +kernel
theorem dX7_init_10 : decode cX7_init 10 = .ok (.putfield 9, 3) := by decide +kernel
theorem dX7_init_13 : decode cX7_init 13 = .ok (.return_, 1) := by decide +kernel
theorem dX7_kindOf_0 : decode cX7_kindOf 0 = .ok (.iload_n 1, 1) := by decide +kernel
theorem dX7_kindOf_1 : decode cX7_kindOf 1 = .ok (.bipush 12, 2) := by decide +kernel
theorem dX7_kindOf_3 : decode cX7_kindOf 3 = .ok (.imul, 1) := by decide +kernel
theorem dX7_kindOf_4 : decode cX7_kindOf 4 = .ok (.iload_n 2, 1) := by decide +kernel
theorem dX7_kindOf_5 : decode cX7_kindOf 5 = .ok (.iadd, 1) := by decide +kernel
theorem dX7_kindOf_6 : decode cX7_kindOf 6 = .ok (.istore_n 3, 1) := by decide +kernel
theorem dX7_kindOf_7 : decode cX7_kindOf 7 = .ok (.iload_n 3, 1) := by decide +kernel
theorem dX7_kindOf_8 : decode cX7_kindOf 8 = .ok (.ifCond .lt 21, 3) := by decide +kernel
theorem dX7_kindOf_11 : decode cX7_kindOf 11 = .ok (.iload_n 3, 1) := by decide +kernel
theorem dX7_kindOf_12 : decode cX7_kindOf 12 = .ok (.aload_n 0, 1) := by decide +kernel
theorem dX7_kindOf_13 : decode cX7_kindOf 13 = .ok (.getfield 9, 3) := by decide +kernel
theorem dX7_kindOf_16 : decode cX7_kindOf 16 = .ok (.arraylength, 1) := by decide +kernel
theorem dX7_kindOf_17 : decode cX7_kindOf 17 = .ok (.if_icmp .ge 12, 3) := by decide +kernel
theorem dX7_kindOf_20 : decode cX7_kindOf 20 = .ok (.aload_n 0, 1) := by decide +kernel
theorem dX7_kindOf_21 : decode cX7_kindOf 21 = .ok (.getfield 9, 3) := by decide +kernel
theorem dX7_kindOf_24 : decode cX7_kindOf 24 = .ok (.iload_n 3, 1) := by decide +kernel
theorem dX7_kindOf_25 : decode cX7_kindOf 25 = .ok (.caload, 1) := by decide +kernel
theorem dX7_kindOf_26 : decode cX7_kindOf 26 = .ok (.ifCond .ne 6, 3) := by decide +kernel
theorem dX7_kindOf_29 : decode cX7_kindOf 29 = .ok (.bipush 110, 2) := by decide +kernel
theorem dX7_kindOf_31 : decode cX7_kindOf 31 = .ok (.ireturn, 1) := by decide +kernel
theorem dX7_kindOf_32 : decode cX7_kindOf 32 = .ok (.aload_n 0, 1) := by decide +kernel
theorem dX7_kindOf_33 : decode cX7_kindOf 33 = .ok (.getfield 9, 3) := by decide +kernel
theorem dX7_kindOf_36 : decode cX7_kindOf 36 = .ok (.iload_n 3, 1) := by decide +kernel
theorem dX7_kindOf_37 : decode cX7_kindOf 37 = .ok (.caload, 1) := by decide +kernel
theorem dX7_kindOf_38 : decode cX7_kindOf 38 = .ok (.ireturn, 1) := by decide +kernel
theorem dX7_keep_0 : decode cX7_keep 0 = .ok (.aload_n 0, 1) := by decide +kernel
theorem dX7_keep_1 : decode cX7_keep 1 = .ok (.iload_n 1, 1) := by decide +kernel
theorem dX7_keep_2 : decode cX7_keep 2 = .ok (.iload_n 2, 1) := by decide +kernel
theorem dX7_keep_3 : decode cX7_keep 3 = .ok (.iload_n 3, 1) := by decide +kernel
theorem dX7_keep_4 : decode cX7_keep 4 = .ok (.invokevirtual 15, 3) := by decide +kernel
theorem dX7_keep_7 : decode cX7_keep 7 = .ok (.aload_n 0, 1) := by decide +kernel
theorem dX7_keep_8 : decode cX7_keep 8 = .ok (.iload_n 2, 1) := by decide +kernel
theorem dX7_keep_9 : decode cX7_keep 9 = .ok (.iload_n 1, 1) := by decide +kernel
theorem dX7_keep_10 : decode cX7_keep 10 = .ok (.iload_n 3, 1) := by decide +kernel
theorem dX7_keep_11 : decode cX7_keep 11 = .ok (.invokevirtual 15, 3) := by decide +kernel
theorem dX7_keep_14 : decode cX7_keep 14 = .ok (.return_, 1) := by decide +kernel
theorem dX7_keepOneSide_0 : decode cX7_keepOneSide 0 = .ok (.iload_n 1, 1) := by decide +kernel
theorem dX7_keepOneSide_1 : decode cX7_keepOneSide 1 = .ok (.bipush 12, 2) := by decide +kernel
theorem dX7_keepOneSide_3 : decode cX7_keepOneSide 3 = .ok (.imul, 1) := by decide +kernel
theorem dX7_keepOneSide_4 : decode cX7_keepOneSide 4 = .ok (.iload_n 2, 1) := by decide +kernel
theorem dX7_keepOneSide_5 : decode cX7_keepOneSide 5 = .ok (.iadd, 1) := by decide +kernel
theorem dX7_keepOneSide_6 : decode cX7_keepOneSide 6 = .ok (.istore 4, 2) := by decide +kernel
theorem dX7_keepOneSide_8 : decode cX7_keepOneSide 8 = .ok (.iload 4, 2) := by decide +kernel
theorem dX7_keepOneSide_10 : decode cX7_keepOneSide 10 = .ok (.ifCond .lt 21, 3) := by decide +kernel
theorem dX7_keepOneSide_13 : decode cX7_keepOneSide 13 = .ok (.iload 4, 2) := by decide +kernel
theorem dX7_keepOneSide_15 : decode cX7_keepOneSide 15 = .ok (.aload_n 0, 1) := by decide +kernel
theorem dX7_keepOneSide_16 : decode cX7_keepOneSide 16 = .ok (.getfield 9, 3) := by decide +kernel
theorem dX7_keepOneSide_19 : decode cX7_keepOneSide 19 = .ok (.arraylength, 1) := by decide +kernel
theorem dX7_keepOneSide_20 : decode cX7_keepOneSide 20 = .ok (.if_icmp .ge 11, 3) := by decide +kernel
theorem dX7_keepOneSide_23 : decode cX7_keepOneSide 23 = .ok (.aload_n 0, 1) := by decide +kernel
theorem dX7_keepOneSide_24 : decode cX7_keepOneSide 24 = .ok (.getfield 9, 3) := by decide +kernel
theorem dX7_keepOneSide_27 : decode cX7_keepOneSide 27 = .ok (.iload 4, 2) := by decide +kernel
theorem dX7_keepOneSide_29 : decode cX7_keepOneSide 29 = .ok (.iload_n 3, 1) := by decide +kernel
theorem dX7_keepOneSide_30 : decode cX7_keepOneSide 30 = .ok (.castore, 1) := by decide +kernel
theorem dX7_keepOneSide_31 : decode cX7_keepOneSide 31 = .ok (.return_, 1) := by decide +kernel
theorem dX7_pairs_0 : decode cX7_pairs 0 = .ok (.iconst 0, 1) := by decide +kernel
theorem dX7_pairs_1 : decode cX7_pairs 1 = .ok (.istore_n 1, 1) := by decide +kernel
theorem dX7_pairs_2 : decode cX7_pairs 2 = .ok (.iconst 0, 1) := by decide +kernel
theorem dX7_pairs_3 : decode cX7_pairs 3 = .ok (.istore_n 2, 1) := by decide +kernel
theorem dX7_pairs_4 : decode cX7_pairs 4 = .ok (.iload_n 2, 1) := by decide +kernel
theorem dX7_pairs_5 : decode cX7_pairs 5 = .ok (.aload_n 0, 1) := by decide +kernel
theorem dX7_pairs_6 : decode cX7_pairs 6 = .ok (.getfield 9, 3) := by decide +kernel
theorem dX7_pairs_9 : decode cX7_pairs 9 = .ok (.arraylength, 1) := by decide +kernel
theorem dX7_pairs_10 : decode cX7_pairs 10 = .ok (.if_icmp .ge 21, 3) := by decide +kernel
theorem dX7_pairs_13 : decode cX7_pairs 13 = .ok (.aload_n 0, 1) := by decide +kernel
theorem dX7_pairs_14 : decode cX7_pairs 14 = .ok (.getfield 9, 3) := by decide +kernel
theorem dX7_pairs_17 : decode cX7_pairs 17 = .ok (.iload_n 2, 1) := by decide +kernel
theorem dX7_pairs_18 : decode cX7_pairs 18 = .ok (.caload, 1) := by decide +kernel
theorem dX7_pairs_19 : decode cX7_pairs 19 = .ok (.ifCond .eq 6, 3) := by decide +kernel
theorem dX7_pairs_22 : decode cX7_pairs 22 = .ok (.iinc 1 1, 3) := by decide +kernel
theorem dX7_pairs_25 : decode cX7_pairs 25 = .ok (.iinc 2 1, 3) := by decide +kernel
theorem dX7_pairs_28 : decode cX7_pairs 28 = .ok (.goto (-24), 3) := by decide +kernel
theorem dX7_pairs_31 : decode cX7_pairs 31 = .ok (.iload_n 1, 1) := by decide +kernel
theorem dX7_pairs_32 : decode cX7_pairs 32 = .ok (.iconst 2, 1) := by decide +kernel
theorem dX7_pairs_33 : decode cX7_pairs 33 = .ok (.idiv, 1) := by decide +kernel
theorem dX7_pairs_34 : decode cX7_pairs 34 = .ok (.ireturn, 1) := by decide +kernel
theorem dX8_init_0 : decode cX8_init 0 = .ok (.aload_n 0, 1) := by decide +kernel
theorem dX8_init_1 : decode cX8_init 1 = .ok (.invokespecial 1, 3) := by decide +kernel
theorem dX8_init_4 : decode cX8_init 4 = .ok (.aload_n 0, 1) := by decide +kernel
theorem dX8_init_5 : decode cX8_init 5 = .ok (.iload_n 1, 1) := by decide +kernel
theorem dX8_init_6 : decode cX8_init 6 = .ok (.putfield 7, 3) := by decide +kernel
theorem dX8_init_9 : decode cX8_init 9 = .ok (.aload_n 0, 1) := by decide +kernel
theorem dX8_init_10 : decode cX8_init 10 = .ok (.iload_n 2, 1) := by decide +kernel
theorem dX8_init_11 : decode cX8_init 11 = .ok (.putfield 13, 3) := by decide +kernel
theorem dX8_init_14 : decode cX8_init 14 = .ok (.aload_n 0, 1) := by decide +kernel
theorem dX8_init_15 : decode cX8_init 15 = .ok (.iload_n 3, 1) := by decide +kernel
theorem dX8_init_16 : decode cX8_init 16 = .ok (.putfield 16, 3) := by decide +kernel
theorem dX8_init_19 : decode cX8_init 19 = .ok (.aload_n 0, 1) := by decide +kernel
theorem dX8_init_20 : decode cX8_init 20 = .ok (.iload 4, 2) := by decide +kernel
theorem dX8_init_22 : decode cX8_init 22 = .ok (.putfield 19, 3) := by decide +kernel
theorem dX8_init_25 : decode cX8_init 25 = .ok (.aload_n 0, 1) := by decide +kernel
theorem dX8_init_26 : decode cX8_init 26 = .ok (.iload 5, 2) := by decide +kernel
theorem dX8_init_28 : decode cX8_init 28 = .ok (.putfield 22, 3) := by decide +kernel
theorem dX8_init_31 : decode cX8_init 31 = .ok (.aload_n 0, 1) := by decide +kernel
theorem dX8_init_32 : decode cX8_init 32 = .ok (.iload 6, 2) := by decide +kernel
theorem dX8_init_34 : decode cX8_init 34 = .ok (.putfield 25, 3) := by decide +kernel
theorem dX8_init_37 : decode cX8_init 37 = .ok (.aload_n 0, 1) := by decide +kernel
theorem dX8_init_38 : decode cX8_init 38 = .ok (.aload 7, 2) := by decide +kernel
theorem dX8_init_40 : decode cX8_init 40 = .ok (.putfield 28, 3) := by decide +kernel
theorem dX8_init_43 : decode cX8_init 43 = .ok (.return_, 1) := by decide +kernel
theorem dX8_stands_0 : decode cX8_stands 0 = .ok (.aload_n 0, 1) := by decide +kernel
theorem dX8_stands_1 : decode cX8_stands 1 = .ok (.getfield 16, 3) := by decide +kernel
theorem dX8_stands_4 : decode cX8_stands 4 = .ok (.aload_n 1, 1) := by decide +kernel
theorem dX8_stands_5 : decode cX8_stands 5 = .ok (.getfield 32, 3) := by decide +kernel
theorem dX8_stands_8 : decode cX8_stands 8 = .ok (.if_icmp .gt 29, 3) := by decide +kernel
theorem dX8_stands_11 : decode cX8_stands 11 = .ok (.aload_n 1, 1) := by decide +kernel
theorem dX8_stands_12 : decode cX8_stands 12 = .ok (.getfield 32, 3) := by decide +kernel
theorem dX8_stands_15 : decode cX8_stands 15 = .ok (.aload_n 0, 1) := by decide +kernel
theorem dX8_stands_16 : decode cX8_stands 16 = .ok (.getfield 19, 3) := by decide +kernel
theorem dX8_stands_19 : decode cX8_stands 19 = .ok (.if_icmp .gt 18, 3) := by decide +kernel
theorem dX8_stands_22 : decode cX8_stands 22 = .ok (.aload_n 1, 1) := by decide +kernel
theorem dX8_stands_23 : decode cX8_stands 23 = .ok (.getfield 37, 3) := by decide +kernel
theorem dX8_stands_26 : decode cX8_stands 26 = .ok (.aload_n 0, 1) := by decide +kernel
theorem dX8_stands_27 : decode cX8_stands 27 = .ok (.getfield 22, 3) := by decide +kernel
theorem dX8_stands_30 : decode cX8_stands 30 = .ok (.if_icmp .gt 7, 3) := by decide +kernel
theorem dX8_stands_33 : decode cX8_stands 33 = .ok (.iconst 1, 1) := by decide +kernel
theorem dX8_stands_34 : decode cX8_stands 34 = .ok (.goto 4, 3) := by decide +kernel
theorem dX8_stands_37 : decode cX8_stands 37 = .ok (.iconst 0, 1) := by decide +kernel
theorem dX8_stands_38 : decode cX8_stands 38 = .ok (.ireturn, 1) := by decide +kernel
theorem dX8_isFrom_0 : decode cX8_isFrom 0 = .ok (.aload_n 0, 1) := by decide +kernel
theorem dX8_isFrom_1 : decode cX8_isFrom 1 = .ok (.getfield 28, 3) := by decide +kernel
theorem dX8_isFrom_4 : decode cX8_isFrom 4 = .ok (.ifnull 21, 3) := by decide +kernel
theorem dX8_isFrom_7 : decode cX8_isFrom 7 = .ok (.aload_n 0, 1) := by decide +kernel
theorem dX8_isFrom_8 : decode cX8_isFrom 8 = .ok (.getfield 28, 3) := by decide +kernel
theorem dX8_isFrom_11 : decode cX8_isFrom 11 = .ok (.getfield 38, 3) := by decide +kernel
theorem dX8_isFrom_14 : decode cX8_isFrom 14 = .ok (.aload_n 1, 1) := by decide +kernel
theorem dX8_isFrom_15 : decode cX8_isFrom 15 = .ok (.getfield 38, 3) := by decide +kernel
theorem dX8_isFrom_18 : decode cX8_isFrom 18 = .ok (.if_icmp .ne 7, 3) := by decide +kernel
theorem dX8_isFrom_21 : decode cX8_isFrom 21 = .ok (.iconst 1, 1) := by decide +kernel
theorem dX8_isFrom_22 : decode cX8_isFrom 22 = .ok (.goto 4, 3) := by decide +kernel
theorem dX8_isFrom_25 : decode cX8_isFrom 25 = .ok (.iconst 0, 1) := by decide +kernel
theorem dX8_isFrom_26 : decode cX8_isFrom 26 = .ok (.ireturn, 1) := by decide +kernel
theorem dX8_travelDays_0 : decode cX8_travelDays 0 = .ok (.aload_n 0, 1) := by decide +kernel
theorem dX8_travelDays_1 : decode cX8_travelDays 1 = .ok (.getfield 28, 3) := by decide +kernel
theorem dX8_travelDays_4 : decode cX8_travelDays 4 = .ok (.ifnonnull 7, 3) := by decide +kernel
theorem dX8_travelDays_7 : decode cX8_travelDays 7 = .ok (.iconst 0, 1) := by decide +kernel
theorem dX8_travelDays_8 : decode cX8_travelDays 8 = .ok (.goto 10, 3) := by decide +kernel
theorem dX8_travelDays_11 : decode cX8_travelDays 11 = .ok (.aload_n 0, 1) := by decide +kernel
theorem dX8_travelDays_12 : decode cX8_travelDays 12 = .ok (.getfield 28, 3) := by decide +kernel
theorem dX8_travelDays_15 : decode cX8_travelDays 15 = .ok (.getfield 41, 3) := by decide +kernel
theorem dX8_travelDays_18 : decode cX8_travelDays 18 = .ok (.ireturn, 1) := by decide +kernel
theorem dX8_isLentFor_0 : decode cX8_isLentFor 0 = .ok (.aload_n 0, 1) := by decide +kernel
theorem dX8_isLentFor_1 : decode cX8_isLentFor 1 = .ok (.getfield 28, 3) := by decide +kernel
theorem dX8_isLentFor_4 : decode cX8_isLentFor 4 = .ok (.ifnull 45, 3) := by decide +kernel
theorem dX8_isLentFor_7 : decode cX8_isLentFor 7 = .ok (.aload_n 0, 1) := by decide +kernel
theorem dX8_isLentFor_8 : decode cX8_isLentFor 8 = .ok (.getfield 25, 3) := by decide +kernel
theorem dX8_isLentFor_11 : decode cX8_isLentFor 11 = .ok (.aload_n 0, 1) := by decide +kernel
theorem dX8_isLentFor_12 : decode cX8_isLentFor 12 = .ok (.getfield 28, 3) := by decide +kernel
theorem dX8_isLentFor_15 : decode cX8_isLentFor 15 = .ok (.getfield 44, 3) := by decide +kernel
theorem dX8_isLentFor_18 : decode cX8_isLentFor 18 = .ok (.if_icmp .gt 35, 3) := by decide +kernel
theorem dX8_isLentFor_21 : decode cX8_isLentFor 21 = .ok (.aload_n 1, 1) := by decide +kernel
theorem dX8_isLentFor_22 : decode cX8_isLentFor 22 = .ok (.invokevirtual 47, 3) := by decide +kernel
theorem dX8_isLentFor_25 : decode cX8_isLentFor 25 = .ok (.aload_n 0, 1) := by decide +kernel
theorem dX8_isLentFor_26 : decode cX8_isLentFor 26 = .ok (.getfield 28, 3) := by decide +kernel
theorem dX8_isLentFor_29 : decode cX8_isLentFor 29 = .ok (.getfield 52, 3) := by decide +kernel
theorem dX8_isLentFor_32 : decode cX8_isLentFor 32 = .ok (.if_icmp .gt 21, 3) := by decide +kernel
theorem dX8_isLentFor_35 : decode cX8_isLentFor 35 = .ok (.aload_n 1, 1) := by decide +kernel
theorem dX8_isLentFor_36 : decode cX8_isLentFor 36 = .ok (.getfield 55, 3) := by decide +kernel
theorem dX8_isLentFor_39 : decode cX8_isLentFor 39 = .ok (.aload_n 0, 1) := by decide +kernel
theorem dX8_isLentFor_40 : decode cX8_isLentFor 40 = .ok (.getfield 28, 3) := by decide +kernel
theorem dX8_isLentFor_43 : decode cX8_isLentFor 43 = .ok (.getfield 41, 3) := by decide +kernel
theorem dX8_isLentFor_46 : decode cX8_isLentFor 46 = .ok (.if_icmp .lt 7, 3) := by decide +kernel
theorem dX8_isLentFor_49 : decode cX8_isLentFor 49 = .ok (.iconst 1, 1) := by decide +kernel
theorem dX8_isLentFor_50 : decode cX8_isLentFor 50 = .ok (.goto 4, 3) := by decide +kernel
theorem dX8_isLentFor_53 : decode cX8_isLentFor 53 = .ok (.iconst 0, 1) := by decide +kernel
theorem dX8_isLentFor_54 : decode cX8_isLentFor 54 = .ok (.ireturn, 1) := by decide +kernel
theorem dX9_init_0 : decode cX9_init 0 = .ok (.aload_n 0, 1) := by decide +kernel
theorem dX9_init_1 : decode cX9_init 1 = .ok (.invokespecial 3, 3) := by decide +kernel
theorem dX9_init_4 : decode cX9_init 4 = .ok (.aload_n 0, 1) := by decide +kernel
theorem dX9_init_5 : decode cX9_init 5 = .ok (.new 9, 3) := by decide +kernel
theorem dX9_init_8 : decode cX9_init 8 = .ok (.dup, 1) := by decide +kernel
theorem dX9_init_9 : decode cX9_init 9 = .ok (.invokespecial 11, 3) := by decide +kernel
theorem dX9_init_12 : decode cX9_init 12 = .ok (.putfield 12, 3) := by decide +kernel
theorem dX9_init_15 : decode cX9_init 15 = .ok (.aload_n 0, 1) := by decide +kernel
theorem dX9_init_16 : decode cX9_init 16 = .ok (.new 16, 3) := by decide +kernel
theorem dX9_init_19 : decode cX9_init 19 = .ok (.dup, 1) := by decide +kernel
theorem dX9_init_20 : decode cX9_init 20 = .ok (.invokespecial 18, 3) := by decide +kernel
theorem dX9_init_23 : decode cX9_init 23 = .ok (.putfield 19, 3) := by decide +kernel
theorem dX9_init_26 : decode cX9_init 26 = .ok (.aload_n 0, 1) := by decide +kernel
theorem dX9_init_27 : decode cX9_init 27 = .ok (.new 16, 3) := by decide +kernel
theorem dX9_init_30 : decode cX9_init 30 = .ok (.dup, 1) := by decide +kernel
theorem dX9_init_31 : decode cX9_init 31 = .ok (.invokespecial 18, 3) := by decide +kernel
theorem dX9_init_34 : decode cX9_init 34 = .ok (.putfield 23, 3) := by decide +kernel
theorem dX9_init_37 : decode cX9_init 37 = .ok (.aload_n 0, 1) := by decide +kernel
theorem dX9_init_38 : decode cX9_init 38 = .ok (.new 26, 3) := by decide +kernel
theorem dX9_init_41 : decode cX9_init 41 = .ok (.dup, 1) := by decide +kernel
theorem dX9_init_42 : decode cX9_init 42 = .ok (.invokespecial 28, 3) := by decide +kernel
theorem dX9_init_45 : decode cX9_init 45 = .ok (.putfield 29, 3) := by decide +kernel
theorem dX9_init_48 : decode cX9_init 48 = .ok (.aload_n 0, 1) := by decide +kernel
theorem dX9_init_49 : decode cX9_init 49 = .ok (.new 33, 3) := by decide +kernel
theorem dX9_init_52 : decode cX9_init 52 = .ok (.dup, 1) := by decide +kernel
theorem dX9_init_53 : decode cX9_init 53 = .ok (.invokespecial 35, 3) := by decide +kernel
theorem dX9_init_56 : decode cX9_init 56 = .ok (.putfield 36, 3) := by decide +kernel
theorem dX9_init_59 : decode cX9_init 59 = .ok (.aload_n 0, 1) := by decide +kernel
theorem dX9_init_60 : decode cX9_init 60 = .ok (.new 40, 3) := by decide +kernel
theorem dX9_init_63 : decode cX9_init 63 = .ok (.dup, 1) := by decide +kernel
theorem dX9_init_64 : decode cX9_init 64 = .ok (.invokespecial 42, 3) := by decide +kernel
theorem dX9_init_67 : decode cX9_init 67 = .ok (.putfield 43, 3) := by decide +kernel
theorem dX9_init_70 : decode cX9_init 70 = .ok (.aload_n 0, 1) := by decide +kernel
theorem dX9_init_71 : decode cX9_init 71 = .ok (.new 47, 3) := by decide +kernel
theorem dX9_init_74 : decode cX9_init 74 = .ok (.dup, 1) := by decide +kernel
theorem dX9_init_75 : decode cX9_init 75 = .ok (.invokespecial 49, 3) := by decide +kernel
theorem dX9_init_78 : decode cX9_init 78 = .ok (.putfield 50, 3) := by decide +kernel
theorem dX9_init_81 : decode cX9_init 81 = .ok (.return_, 1) := by decide +kernel
theorem dX9_addRoom_0 : decode cX9_addRoom 0 = .ok (.iload_n 1, 1) := by decide +kernel
theorem dX9_addRoom_1 : decode cX9_addRoom 1 = .ok (.iload_n 2, 1) := by decide +kernel
theorem dX9_addRoom_2 : decode cX9_addRoom 2 = .ok (.invokestatic 54, 3) := by decide +kernel
theorem dX9_addRoom_5 : decode cX9_addRoom 5 = .ok (.ifCond .eq 26, 3) := by decide +kernel
theorem dX9_addRoom_8 : decode cX9_addRoom 8 = .ok (.iload_n 3, 1) := by decide +kernel
theorem dX9_addRoom_9 : decode cX9_addRoom 9 = .ok (.iconst 1, 1) := by decide +kernel
theorem dX9_addRoom_10 : decode cX9_addRoom 10 = .ok (.sipush 400, 3) := by decide +kernel
theorem dX9_addRoom_13 : decode cX9_addRoom 13 = .ok (.invokestatic 58, 3) := by decide +kernel
theorem dX9_addRoom_16 : decode cX9_addRoom 16 = .ok (.ifCond .eq 15, 3) := by decide +kernel
theorem dX9_addRoom_19 : decode cX9_addRoom 19 = .ok (.iload 4, 2) := by decide +kernel
theorem dX9_addRoom_21 : decode cX9_addRoom 21 = .ok (.iconst 1, 1) := by decide +kernel
theorem dX9_addRoom_22 : decode cX9_addRoom 22 = .ok (.sipush 400, 3) := by decide +kernel
theorem dX9_addRoom_25 : decode cX9_addRoom 25 = .ok (.invokestatic 58, 3) := by decide +kernel
theorem dX9_addRoom_28 : decode cX9_addRoom 28 = .ok (.ifCond .ne 13, 3) := by decide +kernel
theorem dX9_addRoom_31 : decode cX9_addRoom 31 = .ok (.new 62, 3) := by decide +kernel
theorem dX9_addRoom_34 : decode cX9_addRoom 34 = .ok (.dup, 1) := by decide +kernel
theorem dX9_addRoom_35 : decode cX9_addRoom 35 = .ok (.ldc 64, 2) := by decide +kernel
theorem dX9_addRoom_37 : decode cX9_addRoom 37 = .ok (.invokespecial 66, 3) := by decide +kernel
theorem dX9_addRoom_40 : decode cX9_addRoom 40 = .ok (.athrow, 1) := by decide +kernel
theorem dX9_addRoom_41 : decode cX9_addRoom 41 = .ok (.aload_n 0, 1) := by decide +kernel
theorem dX9_addRoom_42 : decode cX9_addRoom 42 = .ok (.getfield 12, 3) := by decide +kernel
theorem dX9_addRoom_45 : decode cX9_addRoom 45 = .ok (.getfield 69, 3) := by decide +kernel
theorem dX9_addRoom_48 : decode cX9_addRoom 48 = .ok (.invokevirtual 72, 3) := by decide +kernel
theorem dX9_addRoom_51 : decode cX9_addRoom 51 = .ok (.iconst 4, 1) := by decide +kernel
theorem dX9_addRoom_52 : decode cX9_addRoom 52 = .ok (.if_icmp .lt 13, 3) := by decide +kernel
theorem dX9_addRoom_55 : decode cX9_addRoom 55 = .ok (.new 76, 3) := by decide +kernel
theorem dX9_addRoom_58 : decode cX9_addRoom 58 = .ok (.dup, 1) := by decide +kernel
theorem dX9_addRoom_59 : decode cX9_addRoom 59 = .ok (.ldc 78, 2) := by decide +kernel
theorem dX9_addRoom_61 : decode cX9_addRoom 61 = .ok (.invokespecial 80, 3) := by decide +kernel
theorem dX9_addRoom_64 : decode cX9_addRoom 64 = .ok (.athrow, 1) := by decide +kernel
theorem dX9_addRoom_65 : decode cX9_addRoom 65 = .ok (.aload_n 0, 1) := by decide +kernel
theorem dX9_addRoom_66 : decode cX9_addRoom 66 = .ok (.getfield 12, 3) := by decide +kernel
theorem dX9_addRoom_69 : decode cX9_addRoom 69 = .ok (.getfield 69, 3) := by decide +kernel
theorem dX9_addRoom_72 : decode cX9_addRoom 72 = .ok (.new 81, 3) := by decide +kernel
theorem dX9_addRoom_75 : decode cX9_addRoom 75 = .ok (.dup, 1) := by decide +kernel
theorem dX9_addRoom_76 : decode cX9_addRoom 76 = .ok (.iload_n 1, 1) := by decide +kernel
theorem dX9_addRoom_77 : decode cX9_addRoom 77 = .ok (.iload_n 2, 1) := by decide +kernel
theorem dX9_addRoom_78 : decode cX9_addRoom 78 = .ok (.iload_n 3, 1) := by decide +kernel
theorem dX9_addRoom_79 : decode cX9_addRoom 79 = .ok (.iload 4, 2) := by decide +kernel
theorem dX9_addRoom_81 : decode cX9_addRoom 81 = .ok (.invokespecial 83, 3) := by decide +kernel
theorem dX9_addRoom_84 : decode cX9_addRoom 84 = .ok (.invokevirtual 86, 3) := by decide +kernel
theorem dX9_addRoom_87 : decode cX9_addRoom 87 = .ok (.pop, 1) := by decide +kernel
theorem dX9_addRoom_88 : decode cX9_addRoom 88 = .ok (.aload_n 0, 1) := by decide +kernel
theorem dX9_addRoom_89 : decode cX9_addRoom 89 = .ok (.invokevirtual 90, 3) := by decide +kernel
theorem dX9_addRoom_92 : decode cX9_addRoom 92 = .ok (.pop, 1) := by decide +kernel
theorem dX9_addRoom_93 : decode cX9_addRoom 93 = .ok (.aload_n 0, 1) := by decide +kernel
theorem dX9_addRoom_94 : decode cX9_addRoom 94 = .ok (.getfield 12, 3) := by decide +kernel
theorem dX9_addRoom_97 : decode cX9_addRoom 97 = .ok (.getfield 69, 3) := by decide +kernel
theorem dX9_addRoom_100 : decode cX9_addRoom 100 = .ok (.invokevirtual 72, 3) := by decide +kernel
theorem dX9_addRoom_103 : decode cX9_addRoom 103 = .ok (.iconst 1, 1) := by decide +kernel
theorem dX9_addRoom_104 : decode cX9_addRoom 104 = .ok (.isub, 1) := by decide +kernel
theorem dX9_addRoom_105 : decode cX9_addRoom 105 = .ok (.ireturn, 1) := by decide +kernel
theorem dX9_setClimate_0 : decode cX9_setClimate 0 = .ok (.aload_n 0, 1) := by decide +kernel
theorem dX9_setClimate_1 : decode cX9_setClimate 1 = .ok (.iload_n 1, 1) := by decide +kernel
theorem dX9_setClimate_2 : decode cX9_setClimate 2 = .ok (.invokevirtual 93, 3) := by decide +kernel
theorem dX9_setClimate_5 : decode cX9_setClimate 5 = .ok (.astore 4, 2) := by decide +kernel
theorem dX9_setClimate_7 : decode cX9_setClimate 7 = .ok (.iload_n 2, 1) := by decide +kernel
theorem dX9_setClimate_8 : decode cX9_setClimate 8 = .ok (.iload_n 3, 1) := by decide +kernel
theorem dX9_setClimate_9 : decode cX9_setClimate 9 = .ok (.invokestatic 54, 3) := by decide +kernel
theorem dX9_setClimate_12 : decode cX9_setClimate 12 = .ok (.ifCond .ne 13, 3) := by decide +kernel
theorem dX9_setClimate_15 : decode cX9_setClimate 15 = .ok (.new 62, 3) := by decide +kernel
theorem dX9_setClimate_18 : decode cX9_setClimate 18 = .ok (.dup, 1) := by decide +kernel
theorem dX9_setClimate_19 : decode cX9_setClimate 19 = .ok (.ldc 64, 2) := by decide +kernel
theorem dX9_setClimate_21 : decode cX9_setClimate 21 = .ok (.invokespecial 66, 3) := by decide +kernel
theorem dX9_setClimate_24 : decode cX9_setClimate 24 = .ok (.athrow, 1) := by decide +kernel
theorem dX9_setClimate_25 : decode cX9_setClimate 25 = .ok (.aload 4, 2) := by decide +kernel
theorem dX9_setClimate_27 : decode cX9_setClimate 27 = .ok (.iload_n 2, 1) := by decide +kernel
theorem dX9_setClimate_28 : decode cX9_setClimate 28 = .ok (.putfield 97, 3) := by decide +kernel
theorem dX9_setClimate_31 : decode cX9_setClimate 31 = .ok (.aload 4, 2) := by decide +kernel
theorem dX9_setClimate_33 : decode cX9_setClimate 33 = .ok (.iload_n 3, 1) := by decide +kernel
theorem dX9_setClimate_34 : decode cX9_setClimate 34 = .ok (.putfield 101, 3) := by decide +kernel
theorem dX9_setClimate_37 : decode cX9_setClimate 37 = .ok (.aload_n 0, 1) := by decide +kernel
theorem dX9_setClimate_38 : decode cX9_setClimate 38 = .ok (.getfield 36, 3) := by decide +kernel
theorem dX9_setClimate_41 : decode cX9_setClimate 41 = .ok (.aload_n 0, 1) := by decide +kernel
theorem dX9_setClimate_42 : decode cX9_setClimate 42 = .ok (.getfield 12, 3) := by decide +kernel
theorem dX9_setClimate_45 : decode cX9_setClimate 45 = .ok (.invokevirtual 104, 3) := by decide +kernel
theorem dX9_setClimate_48 : decode cX9_setClimate 48 = .ok (.istore 5, 2) := by decide +kernel
theorem dX9_setClimate_50 : decode cX9_setClimate 50 = .ok (.aload_n 0, 1) := by decide +kernel
theorem dX9_setClimate_51 : decode cX9_setClimate 51 = .ok (.invokevirtual 90, 3) := by decide +kernel
theorem dX9_setClimate_54 : decode cX9_setClimate 54 = .ok (.pop, 1) := by decide +kernel
theorem dX9_setClimate_55 : decode cX9_setClimate 55 = .ok (.iload 5, 2) := by decide +kernel
theorem dX9_setClimate_57 : decode cX9_setClimate 57 = .ok (.ireturn, 1) := by decide +kernel
theorem dX9_addLender_0 : decode cX9_addLender 0 = .ok (.iload_n 1, 1) := by decide +kernel
theorem dX9_addLender_1 : decode cX9_addLender 1 = .ok (.iconst 1, 1) := by decide +kernel
theorem dX9_addLender_2 : decode cX9_addLender 2 = .ok (.sipush 9999, 3) := by decide +kernel
theorem dX9_addLender_5 : decode cX9_addLender 5 = .ok (.invokestatic 58, 3) := by decide +kernel
theorem dX9_addLender_8 : decode cX9_addLender 8 = .ok (.ifCond .eq 23, 3) := by decide +kernel
theorem dX9_addLender_11 : decode cX9_addLender 11 = .ok (.iload_n 2, 1) := by decide +kernel
theorem dX9_addLender_12 : decode cX9_addLender 12 = .ok (.iconst 0, 1) := by decide +kernel
theorem dX9_addLender_13 : decode cX9_addLender 13 = .ok (.bipush 9, 2) := by decide +kernel
theorem dX9_addLender_15 : decode cX9_addLender 15 = .ok (.invokestatic 58, 3) := by decide +kernel
theorem dX9_addLender_18 : decode cX9_addLender 18 = .ok (.ifCond .eq 13, 3) := by decide +kernel
theorem dX9_addLender_21 : decode cX9_addLender 21 = .ok (.iload_n 3, 1) := by decide +kernel
theorem dX9_addLender_22 : decode cX9_addLender 22 = .ok (.iconst 1, 1) := by decide +kernel
theorem dX9_addLender_23 : decode cX9_addLender 23 = .ok (.bipush 100, 2) := by decide +kernel
theorem dX9_addLender_25 : decode cX9_addLender 25 = .ok (.invokestatic 58, 3) := by decide +kernel
theorem dX9_addLender_28 : decode cX9_addLender 28 = .ok (.ifCond .ne 13, 3) := by decide +kernel
theorem dX9_addLender_31 : decode cX9_addLender 31 = .ok (.new 62, 3) := by decide +kernel
theorem dX9_addLender_34 : decode cX9_addLender 34 = .ok (.dup, 1) := by decide +kernel
theorem dX9_addLender_35 : decode cX9_addLender 35 = .ok (.ldc 64, 2) := by decide +kernel
theorem dX9_addLender_37 : decode cX9_addLender 37 = .ok (.invokespecial 66, 3) := by decide +kernel
theorem dX9_addLender_40 : decode cX9_addLender 40 = .ok (.athrow, 1) := by decide +kernel
theorem dX9_addLender_41 : decode cX9_addLender 41 = .ok (.aload_n 0, 1) := by decide +kernel
theorem dX9_addLender_42 : decode cX9_addLender 42 = .ok (.getfield 19, 3) := by decide +kernel
theorem dX9_addLender_45 : decode cX9_addLender 45 = .ok (.invokevirtual 72, 3) := by decide +kernel
theorem dX9_addLender_48 : decode cX9_addLender 48 = .ok (.iconst 4, 1) := by decide +kernel
theorem dX9_addLender_49 : decode cX9_addLender 49 = .ok (.if_icmp .lt 13, 3) := by decide +kernel
theorem dX9_addLender_52 : decode cX9_addLender 52 = .ok (.new 76, 3) := by decide +kernel
theorem dX9_addLender_55 : decode cX9_addLender 55 = .ok (.dup, 1) := by decide +kernel
theorem dX9_addLender_56 : decode cX9_addLender 56 = .ok (.ldc 108, 2) := by decide +kernel
theorem dX9_addLender_58 : decode cX9_addLender 58 = .ok (.invokespecial 80, 3) := by decide +kernel
theorem dX9_addLender_61 : decode cX9_addLender 61 = .ok (.athrow, 1) := by decide +kernel
theorem dX9_addLender_62 : decode cX9_addLender 62 = .ok (.new 110, 3) := by decide +kernel
theorem dX9_addLender_65 : decode cX9_addLender 65 = .ok (.dup, 1) := by decide +kernel
theorem dX9_addLender_66 : decode cX9_addLender 66 = .ok (.aload_n 0, 1) := by decide +kernel
theorem dX9_addLender_67 : decode cX9_addLender 67 = .ok (.getfield 19, 3) := by decide +kernel
theorem dX9_addLender_70 : decode cX9_addLender 70 = .ok (.invokevirtual 72, 3) := by decide +kernel
theorem dX9_addLender_73 : decode cX9_addLender 73 = .ok (.iload_n 1, 1) := by decide +kernel
theorem dX9_addLender_74 : decode cX9_addLender 74 = .ok (.iload_n 2, 1) := by decide +kernel
theorem dX9_addLender_75 : decode cX9_addLender 75 = .ok (.iload_n 3, 1) := by decide +kernel
theorem dX9_addLender_76 : decode cX9_addLender 76 = .ok (.invokespecial 112, 3) := by decide +kernel
theorem dX9_addLender_79 : decode cX9_addLender 79 = .ok (.astore 4, 2) := by decide +kernel
theorem dX9_addLender_81 : decode cX9_addLender 81 = .ok (.aload_n 0, 1) := by decide +kernel
theorem dX9_addLender_82 : decode cX9_addLender 82 = .ok (.getfield 19, 3) := by decide +kernel
theorem dX9_addLender_85 : decode cX9_addLender 85 = .ok (.aload 4, 2) := by decide +kernel
theorem dX9_addLender_87 : decode cX9_addLender 87 = .ok (.invokevirtual 86, 3) := by decide +kernel
theorem dX9_addLender_90 : decode cX9_addLender 90 = .ok (.pop, 1) := by decide +kernel
theorem dX9_addLender_91 : decode cX9_addLender 91 = .ok (.aload 4, 2) := by decide +kernel
theorem dX9_addLender_93 : decode cX9_addLender 93 = .ok (.getfield 113, 3) := by decide +kernel
theorem dX9_addLender_96 : decode cX9_addLender 96 = .ok (.ireturn, 1) := by decide +kernel
theorem dX9_addWork_0 : decode cX9_addWork 0 = .ok (.iload_n 1, 1) := by decide +kernel
theorem dX9_addWork_1 : decode cX9_addWork 1 = .ok (.iconst 1, 1) := by decide +kernel
theorem dX9_addWork_2 : decode cX9_addWork 2 = .ok (.sipush 200, 3) := by decide +kernel
theorem dX9_addWork_5 : decode cX9_addWork 5 = .ok (.invokestatic 58, 3) := by decide +kernel
theorem dX9_addWork_8 : decode cX9_addWork 8 = .ok (.ifCond .eq 46, 3) := by decide +kernel
theorem dX9_addWork_11 : decode cX9_addWork 11 = .ok (.iload_n 2, 1) := by decide +kernel
theorem dX9_addWork_12 : decode cX9_addWork 12 = .ok (.iconst 0, 1) := by decide +kernel
theorem dX9_addWork_13 : decode cX9_addWork 13 = .ok (.bipush 100, 2) := by decide +kernel
theorem dX9_addWork_15 : decode cX9_addWork 15 = .ok (.invokestatic 58, 3) := by decide +kernel
theorem dX9_addWork_18 : decode cX9_addWork 18 = .ok (.ifCond .eq 36, 3) := by decide +kernel
theorem dX9_addWork_21 : decode cX9_addWork 21 = .ok (.iload_n 3, 1) := by decide +kernel
theorem dX9_addWork_22 : decode cX9_addWork 22 = .ok (.iload_n 2, 1) := by decide +kernel
theorem dX9_addWork_23 : decode cX9_addWork 23 = .ok (.bipush 100, 2) := by decide +kernel
theorem dX9_addWork_25 : decode cX9_addWork 25 = .ok (.invokestatic 58, 3) := by decide +kernel
theorem dX9_addWork_28 : decode cX9_addWork 28 = .ok (.ifCond .eq 26, 3) := by decide +kernel
theorem dX9_addWork_31 : decode cX9_addWork 31 = .ok (.iload 4, 2) := by decide +kernel
theorem dX9_addWork_33 : decode cX9_addWork 33 = .ok (.iconst 0, 1) := by decide +kernel
theorem dX9_addWork_34 : decode cX9_addWork 34 = .ok (.bipush 100, 2) := by decide +kernel
theorem dX9_addWork_36 : decode cX9_addWork 36 = .ok (.invokestatic 58, 3) := by decide +kernel
theorem dX9_addWork_39 : decode cX9_addWork 39 = .ok (.ifCond .eq 15, 3) := by decide +kernel
theorem dX9_addWork_42 : decode cX9_addWork 42 = .ok (.iload 5, 2) := by decide +kernel
theorem dX9_addWork_44 : decode cX9_addWork 44 = .ok (.iconst 1, 1) := by decide +kernel
theorem dX9_addWork_45 : decode cX9_addWork 45 = .ok (.sipush 999, 3) := by decide +kernel
theorem dX9_addWork_48 : decode cX9_addWork 48 = .ok (.invokestatic 58, 3) := by decide +kernel
theorem dX9_addWork_51 : decode cX9_addWork 51 = .ok (.ifCond .ne 13, 3) := by decide +kernel
theorem dX9_addWork_54 : decode cX9_addWork 54 = .ok (.new 62, 3) := by decide +kernel
theorem dX9_addWork_57 : decode cX9_addWork 57 = .ok (.dup, 1) := by decide +kernel
theorem dX9_addWork_58 : decode cX9_addWork 58 = .ok (.ldc 64, 2) := by decide +kernel
theorem dX9_addWork_60 : decode cX9_addWork 60 = .ok (.invokespecial 66, 3) := by decide +kernel
theorem dX9_addWork_63 : decode cX9_addWork 63 = .ok (.athrow, 1) := by decide +kernel
theorem dX9_addWork_64 : decode cX9_addWork 64 = .ok (.iload 6, 2) := by decide +kernel
theorem dX9_addWork_66 : decode cX9_addWork 66 = .ok (.iconst (-1), 1) := by decide +kernel
theorem dX9_addWork_67 : decode cX9_addWork 67 = .ok (.aload_n 0, 1) := by decide +kernel
theorem dX9_addWork_68 : decode cX9_addWork 68 = .ok (.getfield 19, 3) := by decide +kernel
theorem dX9_addWork_71 : decode cX9_addWork 71 = .ok (.invokevirtual 72, 3) := by decide +kernel
theorem dX9_addWork_74 : decode cX9_addWork 74 = .ok (.iconst 1, 1) := by decide +kernel
theorem dX9_addWork_75 : decode cX9_addWork 75 = .ok (.isub, 1) := by decide +kernel
theorem dX9_addWork_76 : decode cX9_addWork 76 = .ok (.invokestatic 58, 3) := by decide +kernel
theorem dX9_addWork_79 : decode cX9_addWork 79 = .ok (.ifCond .ne 13, 3) := by decide +kernel
theorem dX9_addWork_82 : decode cX9_addWork 82 = .ok (.new 62, 3) := by decide +kernel
theorem dX9_addWork_85 : decode cX9_addWork 85 = .ok (.dup, 1) := by decide +kernel
theorem dX9_addWork_86 : decode cX9_addWork 86 = .ok (.ldc 116, 2) := by decide +kernel
theorem dX9_addWork_88 : decode cX9_addWork 88 = .ok (.invokespecial 66, 3) := by decide +kernel
theorem dX9_addWork_91 : decode cX9_addWork 91 = .ok (.athrow, 1) := by decide +kernel
theorem dX9_addWork_92 : decode cX9_addWork 92 = .ok (.aload_n 0, 1) := by decide +kernel
theorem dX9_addWork_93 : decode cX9_addWork 93 = .ok (.getfield 23, 3) := by decide +kernel
theorem dX9_addWork_96 : decode cX9_addWork 96 = .ok (.invokevirtual 72, 3) := by decide +kernel
theorem dX9_addWork_99 : decode cX9_addWork 99 = .ok (.bipush 12, 2) := by decide +kernel
theorem dX9_addWork_101 : decode cX9_addWork 101 = .ok (.if_icmp .lt 13, 3) := by decide +kernel
theorem dX9_addWork_104 : decode cX9_addWork 104 = .ok (.new 76, 3) := by decide +kernel
theorem dX9_addWork_107 : decode cX9_addWork 107 = .ok (.dup, 1) := by decide +kernel
theorem dX9_addWork_108 : decode cX9_addWork 108 = .ok (.ldc 118, 2) := by decide +kernel
theorem dX9_addWork_110 : decode cX9_addWork 110 = .ok (.invokespecial 80, 3) := by decide +kernel
theorem dX9_addWork_113 : decode cX9_addWork 113 = .ok (.athrow, 1) := by decide +kernel
theorem dX9_addWork_114 : decode cX9_addWork 114 = .ok (.iload 6, 2) := by decide +kernel
theorem dX9_addWork_116 : decode cX9_addWork 116 = .ok (.iconst 0, 1) := by decide +kernel
theorem dX9_addWork_117 : decode cX9_addWork 117 = .ok (.aload_n 0, 1) := by decide +kernel
theorem dX9_addWork_118 : decode cX9_addWork 118 = .ok (.getfield 19, 3) := by decide +kernel
theorem dX9_addWork_121 : decode cX9_addWork 121 = .ok (.invokevirtual 72, 3) := by decide +kernel
theorem dX9_addWork_124 : decode cX9_addWork 124 = .ok (.iconst 1, 1) := by decide +kernel
theorem dX9_addWork_125 : decode cX9_addWork 125 = .ok (.isub, 1) := by decide +kernel
theorem dX9_addWork_126 : decode cX9_addWork 126 = .ok (.invokestatic 58, 3) := by decide +kernel
theorem dX9_addWork_129 : decode cX9_addWork 129 = .ok (.ifCond .eq 18, 3) := by decide +kernel
theorem dX9_addWork_132 : decode cX9_addWork 132 = .ok (.aload_n 0, 1) := by decide +kernel
theorem dX9_addWork_133 : decode cX9_addWork 133 = .ok (.getfield 19, 3) := by decide +kernel
theorem dX9_addWork_136 : decode cX9_addWork 136 = .ok (.iload 6, 2) := by decide +kernel
theorem dX9_addWork_138 : decode cX9_addWork 138 = .ok (.invokevirtual 120, 3) := by decide +kernel
theorem dX9_addWork_141 : decode cX9_addWork 141 = .ok (.checkcast 110, 3) := by decide +kernel
theorem dX9_addWork_144 : decode cX9_addWork 144 = .ok (.goto 4, 3) := by decide +kernel
theorem dX9_addWork_147 : decode cX9_addWork 147 = .ok (.aconst_null, 1) := by decide +kernel
theorem dX9_addWork_148 : decode cX9_addWork 148 = .ok (.astore 7, 2) := by decide +kernel
theorem dX9_addWork_150 : decode cX9_addWork 150 = .ok (.new 124, 3) := by decide +kernel
theorem dX9_addWork_153 : decode cX9_addWork 153 = .ok (.dup, 1) := by decide +kernel
theorem dX9_addWork_154 : decode cX9_addWork 154 = .ok (.aload_n 0, 1) := by decide +kernel
theorem dX9_addWork_155 : decode cX9_addWork 155 = .ok (.getfield 23, 3) := by decide +kernel
theorem dX9_addWork_158 : decode cX9_addWork 158 = .ok (.invokevirtual 72, 3) := by decide +kernel
theorem dX9_addWork_161 : decode cX9_addWork 161 = .ok (.iload_n 1, 1) := by decide +kernel
theorem dX9_addWork_162 : decode cX9_addWork 162 = .ok (.iload_n 2, 1) := by decide +kernel
theorem dX9_addWork_163 : decode cX9_addWork 163 = .ok (.iload_n 3, 1) := by decide +kernel
theorem dX9_addWork_164 : decode cX9_addWork 164 = .ok (.iload 4, 2) := by decide +kernel
theorem dX9_addWork_166 : decode cX9_addWork 166 = .ok (.iload 5, 2) := by decide +kernel
theorem dX9_addWork_168 : decode cX9_addWork 168 = .ok (.aload 7, 2) := by decide +kernel
theorem dX9_addWork_170 : decode cX9_addWork 170 = .ok (.invokespecial 126, 3) := by decide +kernel
theorem dX9_addWork_173 : decode cX9_addWork 173 = .ok (.astore 8, 2) := by decide +kernel
theorem dX9_addWork_175 : decode cX9_addWork 175 = .ok (.aload_n 0, 1) := by decide +kernel
theorem dX9_addWork_176 : decode cX9_addWork 176 = .ok (.getfield 23, 3) := by decide +kernel
theorem dX9_addWork_179 : decode cX9_addWork 179 = .ok (.aload 8, 2) := by decide +kernel
theorem dX9_addWork_181 : decode cX9_addWork 181 = .ok (.invokevirtual 86, 3) := by decide +kernel
theorem dX9_addWork_184 : decode cX9_addWork 184 = .ok (.pop, 1) := by decide +kernel
theorem dX9_addWork_185 : decode cX9_addWork 185 = .ok (.aload 8, 2) := by decide +kernel
theorem dX9_addWork_187 : decode cX9_addWork 187 = .ok (.getfield 129, 3) := by decide +kernel
theorem dX9_addWork_190 : decode cX9_addWork 190 = .ok (.ireturn, 1) := by decide +kernel
theorem dX9_separate_0 : decode cX9_separate 0 = .ok (.aload_n 0, 1) := by decide +kernel
theorem dX9_separate_1 : decode cX9_separate 1 = .ok (.iload_n 1, 1) := by decide +kernel
theorem dX9_separate_2 : decode cX9_separate 2 = .ok (.invokevirtual 130, 3) := by decide +kernel
theorem dX9_separate_5 : decode cX9_separate 5 = .ok (.astore 4, 2) := by decide +kernel
theorem dX9_separate_7 : decode cX9_separate 7 = .ok (.aload_n 0, 1) := by decide +kernel
theorem dX9_separate_8 : decode cX9_separate 8 = .ok (.iload_n 2, 1) := by decide +kernel
theorem dX9_separate_9 : decode cX9_separate 9 = .ok (.invokevirtual 130, 3) := by decide +kernel
theorem dX9_separate_12 : decode cX9_separate 12 = .ok (.astore 5, 2) := by decide +kernel
theorem dX9_separate_14 : decode cX9_separate 14 = .ok (.iload_n 1, 1) := by decide +kernel
theorem dX9_separate_15 : decode cX9_separate 15 = .ok (.iload_n 2, 1) := by decide +kernel
theorem dX9_separate_16 : decode cX9_separate 16 = .ok (.if_icmp .ne 13, 3) := by decide +kernel
theorem dX9_separate_19 : decode cX9_separate 19 = .ok (.new 62, 3) := by decide +kernel
theorem dX9_separate_22 : decode cX9_separate 22 = .ok (.dup, 1) := by decide +kernel
theorem dX9_separate_23 : decode cX9_separate 23 = .ok (.ldc 134, 2) := by decide +kernel
theorem dX9_separate_25 : decode cX9_separate 25 = .ok (.invokespecial 66, 3) := by decide +kernel
theorem dX9_separate_28 : decode cX9_separate 28 = .ok (.athrow, 1) := by decide +kernel
theorem dX9_separate_29 : decode cX9_separate 29 = .ok (.iload_n 3, 1) := by decide +kernel
theorem dX9_separate_30 : decode cX9_separate 30 = .ok (.bipush 114, 2) := by decide +kernel
theorem dX9_separate_32 : decode cX9_separate 32 = .ok (.if_icmp .eq 19, 3) := by decide +kernel
theorem dX9_separate_35 : decode cX9_separate 35 = .ok (.iload_n 3, 1) := by decide +kernel
theorem dX9_separate_36 : decode cX9_separate 36 = .ok (.bipush 119, 2) := by decide +kernel
theorem dX9_separate_38 : decode cX9_separate 38 = .ok (.if_icmp .eq 13, 3) := by decide +kernel
theorem dX9_separate_41 : decode cX9_separate 41 = .ok (.new 62, 3) := by decide +kernel
theorem dX9_separate_44 : decode cX9_separate 44 = .ok (.dup, 1) := by decide +kernel
theorem dX9_separate_45 : decode cX9_separate 45 = .ok (.ldc 136, 2) := by decide +kernel
theorem dX9_separate_47 : decode cX9_separate 47 = .ok (.invokespecial 66, 3) := by decide +kernel
theorem dX9_separate_50 : decode cX9_separate 50 = .ok (.athrow, 1) := by decide +kernel
theorem dX9_separate_51 : decode cX9_separate 51 = .ok (.aload_n 0, 1) := by decide +kernel
theorem dX9_separate_52 : decode cX9_separate 52 = .ok (.getfield 36, 3) := by decide +kernel
theorem dX9_separate_55 : decode cX9_separate 55 = .ok (.aload 4, 2) := by decide +kernel
theorem dX9_separate_57 : decode cX9_separate 57 = .ok (.aload 5, 2) := by decide +kernel
theorem dX9_separate_59 : decode cX9_separate 59 = .ok (.iload_n 3, 1) := by decide +kernel
theorem dX9_separate_60 : decode cX9_separate 60 = .ok (.invokevirtual 138, 3) := by decide +kernel
theorem dX9_separate_63 : decode cX9_separate 63 = .ok (.ifCond .eq 13, 3) := by decide +kernel
theorem dX9_separate_66 : decode cX9_separate 66 = .ok (.new 76, 3) := by decide +kernel
theorem dX9_separate_69 : decode cX9_separate 69 = .ok (.dup, 1) := by decide +kernel
theorem dX9_separate_70 : decode cX9_separate 70 = .ok (.ldc 142, 2) := by decide +kernel
theorem dX9_separate_72 : decode cX9_separate 72 = .ok (.invokespecial 80, 3) := by decide +kernel
theorem dX9_separate_75 : decode cX9_separate 75 = .ok (.athrow, 1) := by decide +kernel
theorem dX9_separate_76 : decode cX9_separate 76 = .ok (.aload_n 0, 1) := by decide +kernel
theorem dX9_separate_77 : decode cX9_separate 77 = .ok (.getfield 29, 3) := by decide +kernel
theorem dX9_separate_80 : decode cX9_separate 80 = .ok (.iload_n 1, 1) := by decide +kernel
theorem dX9_separate_81 : decode cX9_separate 81 = .ok (.iload_n 2, 1) := by decide +kernel
theorem dX9_separate_82 : decode cX9_separate 82 = .ok (.iload_n 3, 1) := by decide +kernel
theorem dX9_separate_83 : decode cX9_separate 83 = .ok (.invokevirtual 144, 3) := by decide +kernel
theorem dX9_separate_86 : decode cX9_separate 86 = .ok (.aload_n 0, 1) := by decide +kernel
theorem dX9_separate_87 : decode cX9_separate 87 = .ok (.invokevirtual 90, 3) := by decide +kernel
theorem dX9_separate_90 : decode cX9_separate 90 = .ok (.pop, 1) := by decide +kernel
theorem dX9_separate_91 : decode cX9_separate 91 = .ok (.aload_n 0, 1) := by decide +kernel
theorem dX9_separate_92 : decode cX9_separate 92 = .ok (.getfield 29, 3) := by decide +kernel
theorem dX9_separate_95 : decode cX9_separate 95 = .ok (.invokevirtual 148, 3) := by decide +kernel
theorem dX9_separate_98 : decode cX9_separate 98 = .ok (.ireturn, 1) := by decide +kernel
theorem dX9_rooms_0 : decode cX9_rooms 0 = .ok (.aload_n 0, 1) := by decide +kernel
theorem dX9_rooms_1 : decode cX9_rooms 1 = .ok (.getfield 12, 3) := by decide +kernel
theorem dX9_rooms_4 : decode cX9_rooms 4 = .ok (.getfield 69, 3) := by decide +kernel
theorem dX9_rooms_7 : decode cX9_rooms 7 = .ok (.invokevirtual 72, 3) := by decide +kernel
theorem dX9_rooms_10 : decode cX9_rooms 10 = .ok (.ireturn, 1) := by decide +kernel
theorem dX9_works_0 : decode cX9_works 0 = .ok (.aload_n 0, 1) := by decide +kernel
theorem dX9_works_1 : decode cX9_works 1 = .ok (.getfield 23, 3) := by decide +kernel
theorem dX9_works_4 : decode cX9_works 4 = .ok (.invokevirtual 72, 3) := by decide +kernel
theorem dX9_works_7 : decode cX9_works 7 = .ok (.ireturn, 1) := by decide +kernel
theorem dX9_separation_0 : decode cX9_separation 0 = .ok (.aload_n 0, 1) := by decide +kernel
theorem dX9_separation_1 : decode cX9_separation 1 = .ok (.iload_n 1, 1) := by decide +kernel
theorem dX9_separation_2 : decode cX9_separation 2 = .ok (.invokevirtual 130, 3) := by decide +kernel
theorem dX9_separation_5 : decode cX9_separation 5 = .ok (.astore_n 3, 1) := by decide +kernel
theorem dX9_separation_6 : decode cX9_separation 6 = .ok (.aload_n 0, 1) := by decide +kernel
theorem dX9_separation_7 : decode cX9_separation 7 = .ok (.iload_n 2, 1) := by decide +kernel
theorem dX9_separation_8 : decode cX9_separation 8 = .ok (.invokevirtual 130, 3) := by decide +kernel
theorem dX9_separation_11 : decode cX9_separation 11 = .ok (.astore 4, 2) := by decide +kernel
theorem dX9_separation_13 : decode cX9_separation 13 = .ok (.aload_n 0, 1) := by decide +kernel
theorem dX9_separation_14 : decode cX9_separation 14 = .ok (.getfield 29, 3) := by decide +kernel
theorem dX9_separation_17 : decode cX9_separation 17 = .ok (.aload_n 3, 1) := by decide +kernel
theorem dX9_separation_18 : decode cX9_separation 18 = .ok (.getfield 129, 3) := by decide +kernel
theorem dX9_separation_21 : decode cX9_separation 21 = .ok (.aload 4, 2) := by decide +kernel
theorem dX9_separation_23 : decode cX9_separation 23 = .ok (.getfield 129, 3) := by decide +kernel
theorem dX9_separation_26 : decode cX9_separation 26 = .ok (.invokevirtual 151, 3) := by decide +kernel
theorem dX9_separation_29 : decode cX9_separation 29 = .ok (.ireturn, 1) := by decide +kernel
theorem dX9_canHang_0 : decode cX9_canHang 0 = .ok (.aload_n 0, 1) := by decide +kernel
theorem dX9_canHang_1 : decode cX9_canHang 1 = .ok (.iload_n 1, 1) := by decide +kernel
theorem dX9_canHang_2 : decode cX9_canHang 2 = .ok (.invokevirtual 130, 3) := by decide +kernel
theorem dX9_canHang_5 : decode cX9_canHang 5 = .ok (.aload_n 0, 1) := by decide +kernel
theorem dX9_canHang_6 : decode cX9_canHang 6 = .ok (.iload_n 2, 1) := by decide +kernel
theorem dX9_canHang_7 : decode cX9_canHang 7 = .ok (.invokevirtual 93, 3) := by decide +kernel
theorem dX9_canHang_10 : decode cX9_canHang 10 = .ok (.invokevirtual 155, 3) := by decide +kernel
theorem dX9_canHang_13 : decode cX9_canHang 13 = .ok (.ireturn, 1) := by decide +kernel
theorem dX9_addExhibition_0 : decode cX9_addExhibition 0 = .ok (.iload_n 1, 1) := by decide +kernel
theorem dX9_addExhibition_1 : decode cX9_addExhibition 1 = .ok (.iconst 0, 1) := by decide +kernel
theorem dX9_addExhibition_2 : decode cX9_addExhibition 2 = .ok (.bipush 99, 2) := by decide +kernel
theorem dX9_addExhibition_4 : decode cX9_addExhibition 4 = .ok (.invokestatic 58, 3) := by decide +kernel
theorem dX9_addExhibition_7 : decode cX9_addExhibition 7 = .ok (.ifCond .eq 23, 3) := by decide +kernel
theorem dX9_addExhibition_10 : decode cX9_addExhibition 10 = .ok (.iload_n 2, 1) := by decide +kernel
theorem dX9_addExhibition_11 : decode cX9_addExhibition 11 = .ok (.iload_n 1, 1) := by decide +kernel
theorem dX9_addExhibition_12 : decode cX9_addExhibition 12 = .ok (.bipush 99, 2) := by decide +kernel
theorem dX9_addExhibition_14 : decode cX9_addExhibition 14 = .ok (.invokestatic 58, 3) := by decide +kernel
theorem dX9_addExhibition_17 : decode cX9_addExhibition 17 = .ok (.ifCond .eq 13, 3) := by decide +kernel
theorem dX9_addExhibition_20 : decode cX9_addExhibition 20 = .ok (.iload_n 3, 1) := by decide +kernel
theorem dX9_addExhibition_21 : decode cX9_addExhibition 21 = .ok (.iconst 0, 1) := by decide +kernel
theorem dX9_addExhibition_22 : decode cX9_addExhibition 22 = .ok (.bipush 50, 2) := by decide +kernel
theorem dX9_addExhibition_24 : decode cX9_addExhibition 24 = .ok (.invokestatic 58, 3) := by decide +kernel
theorem dX9_addExhibition_27 : decode cX9_addExhibition 27 = .ok (.ifCond .ne 13, 3) := by decide +kernel
theorem dX9_addExhibition_30 : decode cX9_addExhibition 30 = .ok (.new 62, 3) := by decide +kernel
theorem dX9_addExhibition_33 : decode cX9_addExhibition 33 = .ok (.dup, 1) := by decide +kernel
theorem dX9_addExhibition_34 : decode cX9_addExhibition 34 = .ok (.ldc 64, 2) := by decide +kernel
theorem dX9_addExhibition_36 : decode cX9_addExhibition 36 = .ok (.invokespecial 66, 3) := by decide +kernel
theorem dX9_addExhibition_39 : decode cX9_addExhibition 39 = .ok (.athrow, 1) := by decide +kernel
theorem dX9_addExhibition_40 : decode cX9_addExhibition 40 = .ok (.aload_n 0, 1) := by decide +kernel
theorem dX9_addExhibition_41 : decode cX9_addExhibition 41 = .ok (.getfield 36, 3) := by decide +kernel
theorem dX9_addExhibition_44 : decode cX9_addExhibition 44 = .ok (.getfield 159, 3) := by decide +kernel
theorem dX9_addExhibition_47 : decode cX9_addExhibition 47 = .ok (.invokevirtual 72, 3) := by decide +kernel
theorem dX9_addExhibition_50 : decode cX9_addExhibition 50 = .ok (.bipush 8, 2) := by decide +kernel
theorem dX9_addExhibition_52 : decode cX9_addExhibition 52 = .ok (.if_icmp .lt 13, 3) := by decide +kernel
theorem dX9_addExhibition_55 : decode cX9_addExhibition 55 = .ok (.new 76, 3) := by decide +kernel
theorem dX9_addExhibition_58 : decode cX9_addExhibition 58 = .ok (.dup, 1) := by decide +kernel
theorem dX9_addExhibition_59 : decode cX9_addExhibition 59 = .ok (.ldc 162, 2) := by decide +kernel
theorem dX9_addExhibition_61 : decode cX9_addExhibition 61 = .ok (.invokespecial 80, 3) := by decide +kernel
theorem dX9_addExhibition_64 : decode cX9_addExhibition 64 = .ok (.athrow, 1) := by decide +kernel
theorem dX9_addExhibition_65 : decode cX9_addExhibition 65 = .ok (.new 164, 3) := by decide +kernel
theorem dX9_addExhibition_68 : decode cX9_addExhibition 68 = .ok (.dup, 1) := by decide +kernel
theorem dX9_addExhibition_69 : decode cX9_addExhibition 69 = .ok (.aload_n 0, 1) := by decide +kernel
theorem dX9_addExhibition_70 : decode cX9_addExhibition 70 = .ok (.getfield 36, 3) := by decide +kernel
theorem dX9_addExhibition_73 : decode cX9_addExhibition 73 = .ok (.getfield 159, 3) := by decide +kernel
theorem dX9_addExhibition_76 : decode cX9_addExhibition 76 = .ok (.invokevirtual 72, 3) := by decide +kernel
theorem dX9_addExhibition_79 : decode cX9_addExhibition 79 = .ok (.iload_n 1, 1) := by decide +kernel
theorem dX9_addExhibition_80 : decode cX9_addExhibition 80 = .ok (.iload_n 2, 1) := by decide +kernel
theorem dX9_addExhibition_81 : decode cX9_addExhibition 81 = .ok (.iload_n 3, 1) := by decide +kernel
theorem dX9_addExhibition_82 : decode cX9_addExhibition 82 = .ok (.invokespecial 166, 3) := by decide +kernel
theorem dX9_addExhibition_85 : decode cX9_addExhibition 85 = .ok (.astore 4, 2) := by decide +kernel
theorem dX9_addExhibition_87 : decode cX9_addExhibition 87 = .ok (.aload_n 0, 1) := by decide +kernel
theorem dX9_addExhibition_88 : decode cX9_addExhibition 88 = .ok (.getfield 36, 3) := by decide +kernel
theorem dX9_addExhibition_91 : decode cX9_addExhibition 91 = .ok (.getfield 159, 3) := by decide +kernel
theorem dX9_addExhibition_94 : decode cX9_addExhibition 94 = .ok (.aload 4, 2) := by decide +kernel
theorem dX9_addExhibition_96 : decode cX9_addExhibition 96 = .ok (.invokevirtual 86, 3) := by decide +kernel
theorem dX9_addExhibition_99 : decode cX9_addExhibition 99 = .ok (.pop, 1) := by decide +kernel
theorem dX9_addExhibition_100 : decode cX9_addExhibition 100 = .ok (.aload 4, 2) := by decide +kernel
theorem dX9_addExhibition_102 : decode cX9_addExhibition 102 = .ok (.getfield 167, 3) := by decide +kernel
theorem dX9_addExhibition_105 : decode cX9_addExhibition 105 = .ok (.ireturn, 1) := by decide +kernel
theorem dX9_include_0 : decode cX9_include 0 = .ok (.aload_n 0, 1) := by decide +kernel
theorem dX9_include_1 : decode cX9_include 1 = .ok (.iload_n 1, 1) := by decide +kernel
theorem dX9_include_2 : decode cX9_include 2 = .ok (.invokevirtual 168, 3) := by decide +kernel
theorem dX9_include_5 : decode cX9_include 5 = .ok (.astore_n 3, 1) := by decide +kernel
theorem dX9_include_6 : decode cX9_include 6 = .ok (.aload_n 0, 1) := by decide +kernel
theorem dX9_include_7 : decode cX9_include 7 = .ok (.iload_n 2, 1) := by decide +kernel
theorem dX9_include_8 : decode cX9_include 8 = .ok (.invokevirtual 130, 3) := by decide +kernel
theorem dX9_include_11 : decode cX9_include 11 = .ok (.astore 4, 2) := by decide +kernel
theorem dX9_include_13 : decode cX9_include 13 = .ok (.aload_n 3, 1) := by decide +kernel
theorem dX9_include_14 : decode cX9_include 14 = .ok (.getfield 172, 3) := by decide +kernel
theorem dX9_include_17 : decode cX9_include 17 = .ok (.bipush 100, 2) := by decide +kernel
theorem dX9_include_19 : decode cX9_include 19 = .ok (.if_icmp .eq 13, 3) := by decide +kernel
theorem dX9_include_22 : decode cX9_include 22 = .ok (.new 76, 3) := by decide +kernel
theorem dX9_include_25 : decode cX9_include 25 = .ok (.dup, 1) := by decide +kernel
theorem dX9_include_26 : decode cX9_include 26 = .ok (.ldc 176, 2) := by decide +kernel
theorem dX9_include_28 : decode cX9_include 28 = .ok (.invokespecial 80, 3) := by decide +kernel
theorem dX9_include_31 : decode cX9_include 31 = .ok (.athrow, 1) := by decide +kernel
theorem dX9_include_32 : decode cX9_include 32 = .ok (.aload_n 3, 1) := by decide +kernel
theorem dX9_include_33 : decode cX9_include 33 = .ok (.getfield 178, 3) := by decide +kernel
theorem dX9_include_36 : decode cX9_include 36 = .ok (.invokevirtual 72, 3) := by decide +kernel
theorem dX9_include_39 : decode cX9_include 39 = .ok (.iconst 5, 1) := by decide +kernel
theorem dX9_include_40 : decode cX9_include 40 = .ok (.if_icmp .lt 13, 3) := by decide +kernel
theorem dX9_include_43 : decode cX9_include 43 = .ok (.new 76, 3) := by decide +kernel
theorem dX9_include_46 : decode cX9_include 46 = .ok (.dup, 1) := by decide +kernel
theorem dX9_include_47 : decode cX9_include 47 = .ok (.ldc 181, 2) := by decide +kernel
theorem dX9_include_49 : decode cX9_include 49 = .ok (.invokespecial 80, 3) := by decide +kernel
theorem dX9_include_52 : decode cX9_include 52 = .ok (.athrow, 1) := by decide +kernel
theorem dX9_include_53 : decode cX9_include 53 = .ok (.aload_n 3, 1) := by decide +kernel
theorem dX9_include_54 : decode cX9_include 54 = .ok (.aload 4, 2) := by decide +kernel
theorem dX9_include_56 : decode cX9_include 56 = .ok (.invokevirtual 183, 3) := by decide +kernel
theorem dX9_include_59 : decode cX9_include 59 = .ok (.iconst (-1), 1) := by decide +kernel
theorem dX9_include_60 : decode cX9_include 60 = .ok (.if_icmp .eq 13, 3) := by decide +kernel
theorem dX9_include_63 : decode cX9_include 63 = .ok (.new 76, 3) := by decide +kernel
theorem dX9_include_66 : decode cX9_include 66 = .ok (.dup, 1) := by decide +kernel
theorem dX9_include_67 : decode cX9_include 67 = .ok (.ldc 187, 2) := by decide +kernel
theorem dX9_include_69 : decode cX9_include 69 = .ok (.invokespecial 80, 3) := by decide +kernel
theorem dX9_include_72 : decode cX9_include 72 = .ok (.athrow, 1) := by decide +kernel
theorem dX9_include_73 : decode cX9_include 73 = .ok (.aload_n 3, 1) := by decide +kernel
theorem dX9_include_74 : decode cX9_include 74 = .ok (.getfield 178, 3) := by decide +kernel
theorem dX9_include_77 : decode cX9_include 77 = .ok (.aload 4, 2) := by decide +kernel
theorem dX9_include_79 : decode cX9_include 79 = .ok (.invokevirtual 86, 3) := by decide +kernel
theorem dX9_include_82 : decode cX9_include 82 = .ok (.pop, 1) := by decide +kernel
theorem dX9_include_83 : decode cX9_include 83 = .ok (.aload_n 3, 1) := by decide +kernel
theorem dX9_include_84 : decode cX9_include 84 = .ok (.getfield 178, 3) := by decide +kernel
theorem dX9_include_87 : decode cX9_include 87 = .ok (.invokevirtual 72, 3) := by decide +kernel
theorem dX9_include_90 : decode cX9_include 90 = .ok (.ireturn, 1) := by decide +kernel
theorem dX9_request_0 : decode cX9_request 0 = .ok (.aload_n 0, 1) := by decide +kernel
theorem dX9_request_1 : decode cX9_request 1 = .ok (.iload_n 1, 1) := by decide +kernel
theorem dX9_request_2 : decode cX9_request 2 = .ok (.invokevirtual 168, 3) := by decide +kernel
theorem dX9_request_5 : decode cX9_request 5 = .ok (.astore_n 2, 1) := by decide +kernel
theorem dX9_request_6 : decode cX9_request 6 = .ok (.aload_n 2, 1) := by decide +kernel
theorem dX9_request_7 : decode cX9_request 7 = .ok (.getfield 172, 3) := by decide +kernel
theorem dX9_request_10 : decode cX9_request 10 = .ok (.bipush 100, 2) := by decide +kernel
theorem dX9_request_12 : decode cX9_request 12 = .ok (.if_icmp .eq 13, 3) := by decide +kernel
theorem dX9_request_15 : decode cX9_request 15 = .ok (.new 76, 3) := by decide +kernel
theorem dX9_request_18 : decode cX9_request 18 = .ok (.dup, 1) := by decide +kernel
theorem dX9_request_19 : decode cX9_request 19 = .ok (.ldc 176, 2) := by decide +kernel
theorem dX9_request_21 : decode cX9_request 21 = .ok (.invokespecial 80, 3) := by decide +kernel
theorem dX9_request_24 : decode cX9_request 24 = .ok (.athrow, 1) := by decide +kernel
theorem dX9_request_25 : decode cX9_request 25 = .ok (.aload_n 2, 1) := by decide +kernel
theorem dX9_request_26 : decode cX9_request 26 = .ok (.getfield 178, 3) := by decide +kernel
theorem dX9_request_29 : decode cX9_request 29 = .ok (.invokevirtual 189, 3) := by decide +kernel
theorem dX9_request_32 : decode cX9_request 32 = .ok (.ifCond .eq 13, 3) := by decide +kernel
theorem dX9_request_35 : decode cX9_request 35 = .ok (.new 193, 3) := by decide +kernel
theorem dX9_request_38 : decode cX9_request 38 = .ok (.dup, 1) := by decide +kernel
theorem dX9_request_39 : decode cX9_request 39 = .ok (.ldc 195, 2) := by decide +kernel
theorem dX9_request_41 : decode cX9_request 41 = .ok (.invokespecial 197, 3) := by decide +kernel
theorem dX9_request_44 : decode cX9_request 44 = .ok (.athrow, 1) := by decide +kernel
theorem dX9_request_45 : decode cX9_request 45 = .ok (.aload_n 2, 1) := by decide +kernel
theorem dX9_request_46 : decode cX9_request 46 = .ok (.bipush 119, 2) := by decide +kernel
theorem dX9_request_48 : decode cX9_request 48 = .ok (.putfield 172, 3) := by decide +kernel
theorem dX9_request_51 : decode cX9_request 51 = .ok (.aload_n 0, 1) := by decide +kernel
theorem dX9_request_52 : decode cX9_request 52 = .ok (.aload_n 2, 1) := by decide +kernel
theorem dX9_request_53 : decode cX9_request 53 = .ok (.invokevirtual 198, 3) := by decide +kernel
theorem dX9_request_56 : decode cX9_request 56 = .ok (.ifCond .eq 8, 3) := by decide +kernel
theorem dX9_request_59 : decode cX9_request 59 = .ok (.aload_n 0, 1) := by decide +kernel
theorem dX9_request_60 : decode cX9_request 60 = .ok (.aload_n 2, 1) := by decide +kernel
theorem dX9_request_61 : decode cX9_request 61 = .ok (.invokevirtual 202, 3) := by decide +kernel
theorem dX9_request_64 : decode cX9_request 64 = .ok (.aload_n 2, 1) := by decide +kernel
theorem dX9_request_65 : decode cX9_request 65 = .ok (.getfield 172, 3) := by decide +kernel
theorem dX9_request_68 : decode cX9_request 68 = .ok (.ireturn, 1) := by decide +kernel
theorem dX9_cancel_0 : decode cX9_cancel 0 = .ok (.aload_n 0, 1) := by decide +kernel
theorem dX9_cancel_1 : decode cX9_cancel 1 = .ok (.iload_n 1, 1) := by decide +kernel
theorem dX9_cancel_2 : decode cX9_cancel 2 = .ok (.invokevirtual 168, 3) := by decide +kernel
theorem dX9_cancel_5 : decode cX9_cancel 5 = .ok (.astore_n 2, 1) := by decide +kernel
theorem dX9_cancel_6 : decode cX9_cancel 6 = .ok (.aload_n 2, 1) := by decide +kernel
theorem dX9_cancel_7 : decode cX9_cancel 7 = .ok (.getfield 172, 3) := by decide +kernel
theorem dX9_cancel_10 : decode cX9_cancel 10 = .ok (.bipush 99, 2) := by decide +kernel
theorem dX9_cancel_12 : decode cX9_cancel 12 = .ok (.if_icmp .ne 13, 3) := by decide +kernel
theorem dX9_cancel_15 : decode cX9_cancel 15 = .ok (.new 76, 3) := by decide +kernel
theorem dX9_cancel_18 : decode cX9_cancel 18 = .ok (.dup, 1) := by decide +kernel
theorem dX9_cancel_19 : decode cX9_cancel 19 = .ok (.ldc 206, 2) := by decide +kernel
theorem dX9_cancel_21 : decode cX9_cancel 21 = .ok (.invokespecial 80, 3) := by decide +kernel
theorem dX9_cancel_24 : decode cX9_cancel 24 = .ok (.athrow, 1) := by decide +kernel
theorem dX9_cancel_25 : decode cX9_cancel 25 = .ok (.aload_n 2, 1) := by decide +kernel
theorem dX9_cancel_26 : decode cX9_cancel 26 = .ok (.bipush 99, 2) := by decide +kernel
theorem dX9_cancel_28 : decode cX9_cancel 28 = .ok (.putfield 172, 3) := by decide +kernel
theorem dX9_cancel_31 : decode cX9_cancel 31 = .ok (.aload_n 0, 1) := by decide +kernel
theorem dX9_cancel_32 : decode cX9_cancel 32 = .ok (.invokevirtual 90, 3) := by decide +kernel
theorem dX9_cancel_35 : decode cX9_cancel 35 = .ok (.ireturn, 1) := by decide +kernel
theorem dX9_stateOf_0 : decode cX9_stateOf 0 = .ok (.aload_n 0, 1) := by decide +kernel
theorem dX9_stateOf_1 : decode cX9_stateOf 1 = .ok (.iload_n 1, 1) := by decide +kernel
theorem dX9_stateOf_2 : decode cX9_stateOf 2 = .ok (.invokevirtual 168, 3) := by decide +kernel
theorem dX9_stateOf_5 : decode cX9_stateOf 5 = .ok (.getfield 172, 3) := by decide +kernel
theorem dX9_stateOf_8 : decode cX9_stateOf 8 = .ok (.ireturn, 1) := by decide +kernel
theorem dX9_worksOf_0 : decode cX9_worksOf 0 = .ok (.aload_n 0, 1) := by decide +kernel
theorem dX9_worksOf_1 : decode cX9_worksOf 1 = .ok (.iload_n 1, 1) := by decide +kernel
theorem dX9_worksOf_2 : decode cX9_worksOf 2 = .ok (.invokevirtual 168, 3) := by decide +kernel
theorem dX9_worksOf_5 : decode cX9_worksOf 5 = .ok (.getfield 178, 3) := by decide +kernel
theorem dX9_worksOf_8 : decode cX9_worksOf 8 = .ok (.invokevirtual 72, 3) := by decide +kernel
theorem dX9_worksOf_11 : decode cX9_worksOf 11 = .ok (.ireturn, 1) := by decide +kernel
theorem dX9_workOf_0 : decode cX9_workOf 0 = .ok (.aload_n 0, 1) := by decide +kernel
theorem dX9_workOf_1 : decode cX9_workOf 1 = .ok (.aload_n 0, 1) := by decide +kernel
theorem dX9_workOf_2 : decode cX9_workOf 2 = .ok (.iload_n 1, 1) := by decide +kernel
theorem dX9_workOf_3 : decode cX9_workOf 3 = .ok (.invokevirtual 168, 3) := by decide +kernel
theorem dX9_workOf_6 : decode cX9_workOf 6 = .ok (.iload_n 2, 1) := by decide +kernel
theorem dX9_workOf_7 : decode cX9_workOf 7 = .ok (.invokevirtual 208, 3) := by decide +kernel
theorem dX9_workOf_10 : decode cX9_workOf 10 = .ok (.getfield 129, 3) := by decide +kernel
theorem dX9_workOf_13 : decode cX9_workOf 13 = .ok (.ireturn, 1) := by decide +kernel
theorem dX9_wallOf_0 : decode cX9_wallOf 0 = .ok (.aload_n 0, 1) := by decide +kernel
theorem dX9_wallOf_1 : decode cX9_wallOf 1 = .ok (.iload_n 1, 1) := by decide +kernel
theorem dX9_wallOf_2 : decode cX9_wallOf 2 = .ok (.invokevirtual 168, 3) := by decide +kernel
theorem dX9_wallOf_5 : decode cX9_wallOf 5 = .ok (.astore_n 3, 1) := by decide +kernel
theorem dX9_wallOf_6 : decode cX9_wallOf 6 = .ok (.aload_n 0, 1) := by decide +kernel
theorem dX9_wallOf_7 : decode cX9_wallOf 7 = .ok (.aload_n 3, 1) := by decide +kernel
theorem dX9_wallOf_8 : decode cX9_wallOf 8 = .ok (.iload_n 2, 1) := by decide +kernel
theorem dX9_wallOf_9 : decode cX9_wallOf 9 = .ok (.invokevirtual 208, 3) := by decide +kernel
theorem dX9_wallOf_12 : decode cX9_wallOf 12 = .ok (.pop, 1) := by decide +kernel
theorem dX9_wallOf_13 : decode cX9_wallOf 13 = .ok (.aload_n 3, 1) := by decide +kernel
theorem dX9_wallOf_14 : decode cX9_wallOf 14 = .ok (.getfield 172, 3) := by decide +kernel
theorem dX9_wallOf_17 : decode cX9_wallOf 17 = .ok (.bipush 112, 2) := by decide +kernel
theorem dX9_wallOf_19 : decode cX9_wallOf 19 = .ok (.if_icmp .eq 13, 3) := by decide +kernel
theorem dX9_wallOf_22 : decode cX9_wallOf 22 = .ok (.new 76, 3) := by decide +kernel
theorem dX9_wallOf_25 : decode cX9_wallOf 25 = .ok (.dup, 1) := by decide +kernel
theorem dX9_wallOf_26 : decode cX9_wallOf 26 = .ok (.ldc 212, 2) := by decide +kernel
theorem dX9_wallOf_28 : decode cX9_wallOf 28 = .ok (.invokespecial 80, 3) := by decide +kernel
theorem dX9_wallOf_31 : decode cX9_wallOf 31 = .ok (.athrow, 1) := by decide +kernel
theorem dX9_wallOf_32 : decode cX9_wallOf 32 = .ok (.aload_n 3, 1) := by decide +kernel
theorem dX9_wallOf_33 : decode cX9_wallOf 33 = .ok (.getfield 214, 3) := by decide +kernel
theorem dX9_wallOf_36 : decode cX9_wallOf 36 = .ok (.iload_n 2, 1) := by decide +kernel
theorem dX9_wallOf_37 : decode cX9_wallOf 37 = .ok (.invokestatic 218, 3) := by decide +kernel
theorem dX9_wallOf_40 : decode cX9_wallOf 40 = .ok (.ireturn, 1) := by decide +kernel
theorem dX9_canTake_0 : decode cX9_canTake 0 = .ok (.aload_n 0, 1) := by decide +kernel
theorem dX9_canTake_1 : decode cX9_canTake 1 = .ok (.iload_n 1, 1) := by decide +kernel
theorem dX9_canTake_2 : decode cX9_canTake 2 = .ok (.invokevirtual 168, 3) := by decide +kernel
theorem dX9_canTake_5 : decode cX9_canTake 5 = .ok (.astore_n 3, 1) := by decide +kernel
theorem dX9_canTake_6 : decode cX9_canTake 6 = .ok (.aload_n 0, 1) := by decide +kernel
theorem dX9_canTake_7 : decode cX9_canTake 7 = .ok (.aload_n 3, 1) := by decide +kernel
theorem dX9_canTake_8 : decode cX9_canTake 8 = .ok (.iload_n 2, 1) := by decide +kernel
theorem dX9_canTake_9 : decode cX9_canTake 9 = .ok (.invokevirtual 208, 3) := by decide +kernel
theorem dX9_canTake_12 : decode cX9_canTake 12 = .ok (.astore 4, 2) := by decide +kernel
theorem dX9_canTake_14 : decode cX9_canTake 14 = .ok (.aload_n 3, 1) := by decide +kernel
theorem dX9_canTake_15 : decode cX9_canTake 15 = .ok (.getfield 172, 3) := by decide +kernel
theorem dX9_canTake_18 : decode cX9_canTake 18 = .ok (.bipush 99, 2) := by decide +kernel
theorem dX9_canTake_20 : decode cX9_canTake 20 = .ok (.if_icmp .ne 13, 3) := by decide +kernel
theorem dX9_canTake_23 : decode cX9_canTake 23 = .ok (.new 76, 3) := by decide +kernel
theorem dX9_canTake_26 : decode cX9_canTake 26 = .ok (.dup, 1) := by decide +kernel
theorem dX9_canTake_27 : decode cX9_canTake 27 = .ok (.ldc 222, 2) := by decide +kernel
theorem dX9_canTake_29 : decode cX9_canTake 29 = .ok (.invokespecial 80, 3) := by decide +kernel
theorem dX9_canTake_32 : decode cX9_canTake 32 = .ok (.athrow, 1) := by decide +kernel
theorem dX9_canTake_33 : decode cX9_canTake 33 = .ok (.aload_n 0, 1) := by decide +kernel
theorem dX9_canTake_34 : decode cX9_canTake 34 = .ok (.getfield 36, 3) := by decide +kernel
theorem dX9_canTake_37 : decode cX9_canTake 37 = .ok (.aload_n 3, 1) := by decide +kernel
theorem dX9_canTake_38 : decode cX9_canTake 38 = .ok (.aload 4, 2) := by decide +kernel
theorem dX9_canTake_40 : decode cX9_canTake 40 = .ok (.invokevirtual 224, 3) := by decide +kernel
theorem dX9_canTake_43 : decode cX9_canTake 43 = .ok (.ireturn, 1) := by decide +kernel
theorem dX9_wallFor_0 : decode cX9_wallFor 0 = .ok (.aload_n 0, 1) := by decide +kernel
theorem dX9_wallFor_1 : decode cX9_wallFor 1 = .ok (.iload_n 1, 1) := by decide +kernel
theorem dX9_wallFor_2 : decode cX9_wallFor 2 = .ok (.iload_n 2, 1) := by decide +kernel
theorem dX9_wallFor_3 : decode cX9_wallFor 3 = .ok (.invokevirtual 228, 3) := by decide +kernel
theorem dX9_wallFor_6 : decode cX9_wallFor 6 = .ok (.astore_n 3, 1) := by decide +kernel
theorem dX9_wallFor_7 : decode cX9_wallFor 7 = .ok (.aload_n 0, 1) := by decide +kernel
theorem dX9_wallFor_8 : decode cX9_wallFor 8 = .ok (.aload_n 3, 1) := by decide +kernel
theorem dX9_wallFor_9 : decode cX9_wallFor 9 = .ok (.invokevirtual 198, 3) := by decide +kernel
theorem dX9_wallFor_12 : decode cX9_wallFor 12 = .ok (.ifCond .ne 13, 3) := by decide +kernel
theorem dX9_wallFor_15 : decode cX9_wallFor 15 = .ok (.new 193, 3) := by decide +kernel
theorem dX9_wallFor_18 : decode cX9_wallFor 18 = .ok (.dup, 1) := by decide +kernel
theorem dX9_wallFor_19 : decode cX9_wallFor 19 = .ok (.ldc 232, 2) := by decide +kernel
theorem dX9_wallFor_21 : decode cX9_wallFor 21 = .ok (.invokespecial 197, 3) := by decide +kernel
theorem dX9_wallFor_24 : decode cX9_wallFor 24 = .ok (.athrow, 1) := by decide +kernel
theorem dX9_wallFor_25 : decode cX9_wallFor 25 = .ok (.aload_n 0, 1) := by decide +kernel
theorem dX9_wallFor_26 : decode cX9_wallFor 26 = .ok (.getfield 43, 3) := by decide +kernel
theorem dX9_wallFor_29 : decode cX9_wallFor 29 = .ok (.getfield 234, 3) := by decide +kernel
theorem dX9_wallFor_32 : decode cX9_wallFor 32 = .ok (.iload_n 2, 1) := by decide +kernel
theorem dX9_wallFor_33 : decode cX9_wallFor 33 = .ok (.invokestatic 218, 3) := by decide +kernel
theorem dX9_wallFor_36 : decode cX9_wallFor 36 = .ok (.ireturn, 1) := by decide +kernel
theorem dX9_wallForBySearch_0 : decode cX9_wallForBySearch 0 = .ok (.aload_n 0, 1) := by decide +kernel
theorem dX9_wallForBySearch_1 : decode cX9_wallForBySearch 1 = .ok (.iload_n 1, 1) := by decide +kernel
theorem dX9_wallForBySearch_2 : decode cX9_wallForBySearch 2 = .ok (.iload_n 2, 1) := by decide +kernel
theorem dX9_wallForBySearch_3 : decode cX9_wallForBySearch 3 = .ok (.invokevirtual 228, 3) := by decide +kernel
theorem dX9_wallForBySearch_6 : decode cX9_wallForBySearch 6 = .ok (.astore_n 3, 1) := by decide +kernel
theorem dX9_wallForBySearch_7 : decode cX9_wallForBySearch 7 = .ok (.aload_n 0, 1) := by decide +kernel
theorem dX9_wallForBySearch_8 : decode cX9_wallForBySearch 8 = .ok (.aload_n 3, 1) := by decide +kernel
theorem dX9_wallForBySearch_9 : decode cX9_wallForBySearch 9 = .ok (.invokevirtual 237, 3) := by decide +kernel
theorem dX9_wallForBySearch_12 : decode cX9_wallForBySearch 12 = .ok (.ifCond .ne 13, 3) := by decide +kernel
theorem dX9_wallForBySearch_15 : decode cX9_wallForBySearch 15 = .ok (.new 193, 3) := by decide +kernel
theorem dX9_wallForBySearch_18 : decode cX9_wallForBySearch 18 = .ok (.dup, 1) := by decide +kernel
theorem dX9_wallForBySearch_19 : decode cX9_wallForBySearch 19 = .ok (.ldc 232, 2) := by decide +kernel
theorem dX9_wallForBySearch_21 : decode cX9_wallForBySearch 21 = .ok (.invokespecial 197, 3) := by decide +kernel
theorem dX9_wallForBySearch_24 : decode cX9_wallForBySearch 24 = .ok (.athrow, 1) := by decide +kernel
theorem dX9_wallForBySearch_25 : decode cX9_wallForBySearch 25 = .ok (.aload_n 0, 1) := by decide +kernel
theorem dX9_wallForBySearch_26 : decode cX9_wallForBySearch 26 = .ok (.getfield 43, 3) := by decide +kernel
theorem dX9_wallForBySearch_29 : decode cX9_wallForBySearch 29 = .ok (.getfield 234, 3) := by decide +kernel
theorem dX9_wallForBySearch_32 : decode cX9_wallForBySearch 32 = .ok (.iload_n 2, 1) := by decide +kernel
theorem dX9_wallForBySearch_33 : decode cX9_wallForBySearch 33 = .ok (.invokestatic 218, 3) := by decide +kernel
theorem dX9_wallForBySearch_36 : decode cX9_wallForBySearch 36 = .ok (.ireturn, 1) := by decide +kernel
theorem dX9_trips_0 : decode cX9_trips 0 = .ok (.aload_n 0, 1) := by decide +kernel
theorem dX9_trips_1 : decode cX9_trips 1 = .ok (.iload_n 1, 1) := by decide +kernel
theorem dX9_trips_2 : decode cX9_trips 2 = .ok (.iload_n 2, 1) := by decide +kernel
theorem dX9_trips_3 : decode cX9_trips 3 = .ok (.invokevirtual 240, 3) := by decide +kernel
theorem dX9_trips_6 : decode cX9_trips 6 = .ok (.aload_n 0, 1) := by decide +kernel
theorem dX9_trips_7 : decode cX9_trips 7 = .ok (.getfield 50, 3) := by decide +kernel
theorem dX9_trips_10 : decode cX9_trips 10 = .ok (.invokevirtual 244, 3) := by decide +kernel
theorem dX9_trips_13 : decode cX9_trips 13 = .ok (.ireturn, 1) := by decide +kernel
theorem dX9_tripsByTrying_0 : decode cX9_tripsByTrying 0 = .ok (.aload_n 0, 1) := by decide +kernel
theorem dX9_tripsByTrying_1 : decode cX9_tripsByTrying 1 = .ok (.iload_n 1, 1) := by decide +kernel
theorem dX9_tripsByTrying_2 : decode cX9_tripsByTrying 2 = .ok (.iload_n 2, 1) := by decide +kernel
theorem dX9_tripsByTrying_3 : decode cX9_tripsByTrying 3 = .ok (.invokevirtual 240, 3) := by decide +kernel
theorem dX9_tripsByTrying_6 : decode cX9_tripsByTrying 6 = .ok (.aload_n 0, 1) := by decide +kernel
theorem dX9_tripsByTrying_7 : decode cX9_tripsByTrying 7 = .ok (.getfield 50, 3) := by decide +kernel
theorem dX9_tripsByTrying_10 : decode cX9_tripsByTrying 10 = .ok (.invokevirtual 247, 3) := by decide +kernel
theorem dX9_tripsByTrying_13 : decode cX9_tripsByTrying 13 = .ok (.ireturn, 1) := by decide +kernel
theorem dX9_taken_0 : decode cX9_taken 0 = .ok (.aload_n 0, 1) := by decide +kernel
theorem dX9_taken_1 : decode cX9_taken 1 = .ok (.iload_n 1, 1) := by decide +kernel
theorem dX9_taken_2 : decode cX9_taken 2 = .ok (.iload_n 2, 1) := by decide +kernel
theorem dX9_taken_3 : decode cX9_taken 3 = .ok (.invokevirtual 250, 3) := by decide +kernel
theorem dX9_taken_6 : decode cX9_taken 6 = .ok (.aload_n 0, 1) := by decide +kernel
theorem dX9_taken_7 : decode cX9_taken 7 = .ok (.getfield 36, 3) := by decide +kernel
theorem dX9_taken_10 : decode cX9_taken 10 = .ok (.iload_n 1, 1) := by decide +kernel
theorem dX9_taken_11 : decode cX9_taken 11 = .ok (.iload_n 2, 1) := by decide +kernel
theorem dX9_taken_12 : decode cX9_taken 12 = .ok (.invokevirtual 253, 3) := by decide +kernel
theorem dX9_taken_15 : decode cX9_taken 15 = .ok (.ireturn, 1) := by decide +kernel
theorem dX9_hanging_0 : decode cX9_hanging 0 = .ok (.aload_n 0, 1) := by decide +kernel
theorem dX9_hanging_1 : decode cX9_hanging 1 = .ok (.iload_n 1, 1) := by decide +kernel
theorem dX9_hanging_2 : decode cX9_hanging 2 = .ok (.iload_n 2, 1) := by decide +kernel
theorem dX9_hanging_3 : decode cX9_hanging 3 = .ok (.invokevirtual 250, 3) := by decide +kernel
theorem dX9_hanging_6 : decode cX9_hanging 6 = .ok (.aload_n 0, 1) := by decide +kernel
theorem dX9_hanging_7 : decode cX9_hanging 7 = .ok (.getfield 36, 3) := by decide +kernel
theorem dX9_hanging_10 : decode cX9_hanging 10 = .ok (.iload_n 1, 1) := by decide +kernel
theorem dX9_hanging_11 : decode cX9_hanging 11 = .ok (.iload_n 2, 1) := by decide +kernel
theorem dX9_hanging_12 : decode cX9_hanging 12 = .ok (.invokevirtual 257, 3) := by decide +kernel
theorem dX9_hanging_15 : decode cX9_hanging 15 = .ok (.ireturn, 1) := by decide +kernel
theorem dX9_awayFor_0 : decode cX9_awayFor 0 = .ok (.aload_n 0, 1) := by decide +kernel
theorem dX9_awayFor_1 : decode cX9_awayFor 1 = .ok (.iload_n 1, 1) := by decide +kernel
theorem dX9_awayFor_2 : decode cX9_awayFor 2 = .ok (.invokevirtual 130, 3) := by decide +kernel
theorem dX9_awayFor_5 : decode cX9_awayFor 5 = .ok (.astore_n 3, 1) := by decide +kernel
theorem dX9_awayFor_6 : decode cX9_awayFor 6 = .ok (.iload_n 2, 1) := by decide +kernel
theorem dX9_awayFor_7 : decode cX9_awayFor 7 = .ok (.bipush (-9), 2) := by decide +kernel
theorem dX9_awayFor_9 : decode cX9_awayFor 9 = .ok (.bipush 108, 2) := by decide +kernel
theorem dX9_awayFor_11 : decode cX9_awayFor 11 = .ok (.invokestatic 58, 3) := by decide +kernel
theorem dX9_awayFor_14 : decode cX9_awayFor 14 = .ok (.ifCond .ne 14, 3) := by decide +kernel
theorem dX9_awayFor_17 : decode cX9_awayFor 17 = .ok (.new 62, 3) := by decide +kernel
theorem dX9_awayFor_20 : decode cX9_awayFor 20 = .ok (.dup, 1) := by decide +kernel
theorem dX9_awayFor_21 : decode cX9_awayFor 21 = .ok (.ldc_w 260, 3) := by decide +kernel
theorem dX9_awayFor_24 : decode cX9_awayFor 24 = .ok (.invokespecial 66, 3) := by decide +kernel
theorem dX9_awayFor_27 : decode cX9_awayFor 27 = .ok (.athrow, 1) := by decide +kernel
theorem dX9_awayFor_28 : decode cX9_awayFor 28 = .ok (.aload_n 0, 1) := by decide +kernel
theorem dX9_awayFor_29 : decode cX9_awayFor 29 = .ok (.getfield 36, 3) := by decide +kernel
theorem dX9_awayFor_32 : decode cX9_awayFor 32 = .ok (.aload_n 3, 1) := by decide +kernel
theorem dX9_awayFor_33 : decode cX9_awayFor 33 = .ok (.iload_n 2, 1) := by decide +kernel
theorem dX9_awayFor_34 : decode cX9_awayFor 34 = .ok (.invokevirtual 262, 3) := by decide +kernel
theorem dX9_awayFor_37 : decode cX9_awayFor 37 = .ok (.istore 4, 2) := by decide +kernel
theorem dX9_awayFor_39 : decode cX9_awayFor 39 = .ok (.iload 4, 2) := by decide +kernel
theorem dX9_awayFor_41 : decode cX9_awayFor 41 = .ok (.iconst (-1), 1) := by decide +kernel
theorem dX9_awayFor_42 : decode cX9_awayFor 42 = .ok (.if_icmp .ne 14, 3) := by decide +kernel
theorem dX9_awayFor_45 : decode cX9_awayFor 45 = .ok (.new 266, 3) := by decide +kernel
theorem dX9_awayFor_48 : decode cX9_awayFor 48 = .ok (.dup, 1) := by decide +kernel
theorem dX9_awayFor_49 : decode cX9_awayFor 49 = .ok (.ldc_w 268, 3) := by decide +kernel
theorem dX9_awayFor_52 : decode cX9_awayFor 52 = .ok (.invokespecial 270, 3) := by decide +kernel
theorem dX9_awayFor_55 : decode cX9_awayFor 55 = .ok (.athrow, 1) := by decide +kernel
theorem dX9_awayFor_56 : decode cX9_awayFor 56 = .ok (.iload 4, 2) := by decide +kernel
theorem dX9_awayFor_58 : decode cX9_awayFor 58 = .ok (.ireturn, 1) := by decide +kernel
theorem dX9_planned_0 : decode cX9_planned 0 = .ok (.aload_n 0, 1) := by decide +kernel
theorem dX9_planned_1 : decode cX9_planned 1 = .ok (.getfield 271, 3) := by decide +kernel
theorem dX9_planned_4 : decode cX9_planned 4 = .ok (.ireturn, 1) := by decide +kernel
theorem dX9_insured_0 : decode cX9_insured 0 = .ok (.aload_n 0, 1) := by decide +kernel
theorem dX9_insured_1 : decode cX9_insured 1 = .ok (.getfield 36, 3) := by decide +kernel
theorem dX9_insured_4 : decode cX9_insured 4 = .ok (.invokevirtual 274, 3) := by decide +kernel
theorem dX9_insured_7 : decode cX9_insured 7 = .ok (.lreturn, 1) := by decide +kernel
theorem dX9_meanWorks_0 : decode cX9_meanWorks 0 = .ok (.aload_n 0, 1) := by decide +kernel
theorem dX9_meanWorks_1 : decode cX9_meanWorks 1 = .ok (.getfield 36, 3) := by decide +kernel
theorem dX9_meanWorks_4 : decode cX9_meanWorks 4 = .ok (.invokevirtual 278, 3) := by decide +kernel
theorem dX9_meanWorks_7 : decode cX9_meanWorks 7 = .ok (.istore_n 1, 1) := by decide +kernel
theorem dX9_meanWorks_8 : decode cX9_meanWorks 8 = .ok (.iload_n 1, 1) := by decide +kernel
theorem dX9_meanWorks_9 : decode cX9_meanWorks 9 = .ok (.ifCond .ne 14, 3) := by decide +kernel
theorem dX9_meanWorks_12 : decode cX9_meanWorks 12 = .ok (.new 281, 3) := by decide +kernel
theorem dX9_meanWorks_15 : decode cX9_meanWorks 15 = .ok (.dup, 1) := by decide +kernel
theorem dX9_meanWorks_16 : decode cX9_meanWorks 16 = .ok (.ldc_w 283, 3) := by decide +kernel
theorem dX9_meanWorks_19 : decode cX9_meanWorks 19 = .ok (.invokespecial 285, 3) := by decide +kernel
theorem dX9_meanWorks_22 : decode cX9_meanWorks 22 = .ok (.athrow, 1) := by decide +kernel
theorem dX9_meanWorks_23 : decode cX9_meanWorks 23 = .ok (.aload_n 0, 1) := by decide +kernel
theorem dX9_meanWorks_24 : decode cX9_meanWorks 24 = .ok (.getfield 36, 3) := by decide +kernel
theorem dX9_meanWorks_27 : decode cX9_meanWorks 27 = .ok (.invokevirtual 286, 3) := by decide +kernel
theorem dX9_meanWorks_30 : decode cX9_meanWorks 30 = .ok (.i2d, 1) := by decide +kernel
theorem dX9_meanWorks_31 : decode cX9_meanWorks 31 = .ok (.iload_n 1, 1) := by decide +kernel
theorem dX9_meanWorks_32 : decode cX9_meanWorks 32 = .ok (.i2d, 1) := by decide +kernel
theorem dX9_meanWorks_33 : decode cX9_meanWorks 33 = .ok (.ddiv, 1) := by decide +kernel
theorem dX9_meanWorks_34 : decode cX9_meanWorks 34 = .ok (.dreturn, 1) := by decide +kernel
theorem dX9_share_0 : decode cX9_share 0 = .ok (.aload_n 0, 1) := by decide +kernel
theorem dX9_share_1 : decode cX9_share 1 = .ok (.iload_n 1, 1) := by decide +kernel
theorem dX9_share_2 : decode cX9_share 2 = .ok (.iload_n 2, 1) := by decide +kernel
theorem dX9_share_3 : decode cX9_share 3 = .ok (.invokevirtual 250, 3) := by decide +kernel
theorem dX9_share_6 : decode cX9_share 6 = .ok (.aload_n 0, 1) := by decide +kernel
theorem dX9_share_7 : decode cX9_share 7 = .ok (.getfield 12, 3) := by decide +kernel
theorem dX9_share_10 : decode cX9_share 10 = .ok (.iload_n 1, 1) := by decide +kernel
theorem dX9_share_11 : decode cX9_share 11 = .ok (.invokevirtual 289, 3) := by decide +kernel
theorem dX9_share_14 : decode cX9_share 14 = .ok (.istore_n 3, 1) := by decide +kernel
theorem dX9_share_15 : decode cX9_share 15 = .ok (.iload_n 3, 1) := by decide +kernel
theorem dX9_share_16 : decode cX9_share 16 = .ok (.ifCond .le 19, 3) := by decide +kernel
theorem dX9_share_19 : decode cX9_share 19 = .ok (.aload_n 0, 1) := by decide +kernel
theorem dX9_share_20 : decode cX9_share 20 = .ok (.getfield 36, 3) := by decide +kernel
theorem dX9_share_23 : decode cX9_share 23 = .ok (.iload_n 1, 1) := by decide +kernel
theorem dX9_share_24 : decode cX9_share 24 = .ok (.iload_n 2, 1) := by decide +kernel
theorem dX9_share_25 : decode cX9_share 25 = .ok (.invokevirtual 253, 3) := by decide +kernel
theorem dX9_share_28 : decode cX9_share 28 = .ok (.i2f, 1) := by decide +kernel
theorem dX9_share_29 : decode cX9_share 29 = .ok (.iload_n 3, 1) := by decide +kernel
theorem dX9_share_30 : decode cX9_share 30 = .ok (.i2f, 1) := by decide +kernel
theorem dX9_share_31 : decode cX9_share 31 = .ok (.fdiv, 1) := by decide +kernel
theorem dX9_share_32 : decode cX9_share 32 = .ok (.goto 4, 3) := by decide +kernel
theorem dX9_share_35 : decode cX9_share 35 = .ok (.fconst 0, 1) := by decide +kernel
theorem dX9_share_36 : decode cX9_share 36 = .ok (.freturn, 1) := by decide +kernel
theorem dX9_isSafe_0 : decode cX9_isSafe 0 = .ok (.aload_n 0, 1) := by decide +kernel
theorem dX9_isSafe_1 : decode cX9_isSafe 1 = .ok (.getfield 36, 3) := by decide +kernel
theorem dX9_isSafe_4 : decode cX9_isSafe 4 = .ok (.aload_n 0, 1) := by decide +kernel
theorem dX9_isSafe_5 : decode cX9_isSafe 5 = .ok (.getfield 12, 3) := by decide +kernel
theorem dX9_isSafe_8 : decode cX9_isSafe 8 = .ok (.aload_n 0, 1) := by decide +kernel
theorem dX9_isSafe_9 : decode cX9_isSafe 9 = .ok (.getfield 29, 3) := by decide +kernel
theorem dX9_isSafe_12 : decode cX9_isSafe 12 = .ok (.invokevirtual 293, 3) := by decide +kernel
theorem dX9_isSafe_15 : decode cX9_isSafe 15 = .ok (.ifCond .eq 38, 3) := by decide +kernel
theorem dX9_isSafe_18 : decode cX9_isSafe 18 = .ok (.aload_n 0, 1) := by decide +kernel
theorem dX9_isSafe_19 : decode cX9_isSafe 19 = .ok (.getfield 36, 3) := by decide +kernel
theorem dX9_isSafe_22 : decode cX9_isSafe 22 = .ok (.aload_n 0, 1) := by decide +kernel
theorem dX9_isSafe_23 : decode cX9_isSafe 23 = .ok (.getfield 12, 3) := by decide +kernel
theorem dX9_isSafe_26 : decode cX9_isSafe 26 = .ok (.invokevirtual 297, 3) := by decide +kernel
theorem dX9_isSafe_29 : decode cX9_isSafe 29 = .ok (.ifCond .eq 24, 3) := by decide +kernel
theorem dX9_isSafe_32 : decode cX9_isSafe 32 = .ok (.aload_n 0, 1) := by decide +kernel
theorem dX9_isSafe_33 : decode cX9_isSafe 33 = .ok (.getfield 36, 3) := by decide +kernel
theorem dX9_isSafe_36 : decode cX9_isSafe 36 = .ok (.invokevirtual 301, 3) := by decide +kernel
theorem dX9_isSafe_39 : decode cX9_isSafe 39 = .ok (.ifCond .eq 14, 3) := by decide +kernel
theorem dX9_isSafe_42 : decode cX9_isSafe 42 = .ok (.aload_n 0, 1) := by decide +kernel
theorem dX9_isSafe_43 : decode cX9_isSafe 43 = .ok (.invokevirtual 304, 3) := by decide +kernel
theorem dX9_isSafe_46 : decode cX9_isSafe 46 = .ok (.ifCond .eq 7, 3) := by decide +kernel
theorem dX9_isSafe_49 : decode cX9_isSafe 49 = .ok (.iconst 1, 1) := by decide +kernel
theorem dX9_isSafe_50 : decode cX9_isSafe 50 = .ok (.goto 4, 3) := by decide +kernel
theorem dX9_isSafe_53 : decode cX9_isSafe 53 = .ok (.iconst 0, 1) := by decide +kernel
theorem dX9_isSafe_54 : decode cX9_isSafe 54 = .ok (.ireturn, 1) := by decide +kernel
theorem dX9_roomAt_0 : decode cX9_roomAt 0 = .ok (.iload_n 1, 1) := by decide +kernel
theorem dX9_roomAt_1 : decode cX9_roomAt 1 = .ok (.iconst 0, 1) := by decide +kernel
theorem dX9_roomAt_2 : decode cX9_roomAt 2 = .ok (.aload_n 0, 1) := by decide +kernel
theorem dX9_roomAt_3 : decode cX9_roomAt 3 = .ok (.getfield 12, 3) := by decide +kernel
theorem dX9_roomAt_6 : decode cX9_roomAt 6 = .ok (.getfield 69, 3) := by decide +kernel
theorem dX9_roomAt_9 : decode cX9_roomAt 9 = .ok (.invokevirtual 72, 3) := by decide +kernel
theorem dX9_roomAt_12 : decode cX9_roomAt 12 = .ok (.iconst 1, 1) := by decide +kernel
theorem dX9_roomAt_13 : decode cX9_roomAt 13 = .ok (.isub, 1) := by decide +kernel
theorem dX9_roomAt_14 : decode cX9_roomAt 14 = .ok (.invokestatic 58, 3) := by decide +kernel
theorem dX9_roomAt_17 : decode cX9_roomAt 17 = .ok (.ifCond .ne 14, 3) := by decide +kernel
theorem dX9_roomAt_20 : decode cX9_roomAt 20 = .ok (.new 307, 3) := by decide +kernel
theorem dX9_roomAt_23 : decode cX9_roomAt 23 = .ok (.dup, 1) := by decide +kernel
theorem dX9_roomAt_24 : decode cX9_roomAt 24 = .ok (.ldc_w 309, 3) := by decide +kernel
theorem dX9_roomAt_27 : decode cX9_roomAt 27 = .ok (.invokespecial 311, 3) := by decide +kernel
theorem dX9_roomAt_30 : decode cX9_roomAt 30 = .ok (.athrow, 1) := by decide +kernel
theorem dX9_roomAt_31 : decode cX9_roomAt 31 = .ok (.aload_n 0, 1) := by decide +kernel
theorem dX9_roomAt_32 : decode cX9_roomAt 32 = .ok (.getfield 12, 3) := by decide +kernel
theorem dX9_roomAt_35 : decode cX9_roomAt 35 = .ok (.getfield 69, 3) := by decide +kernel
theorem dX9_roomAt_38 : decode cX9_roomAt 38 = .ok (.iload_n 1, 1) := by decide +kernel
theorem dX9_roomAt_39 : decode cX9_roomAt 39 = .ok (.invokevirtual 120, 3) := by decide +kernel
theorem dX9_roomAt_42 : decode cX9_roomAt 42 = .ok (.checkcast 81, 3) := by decide +kernel
theorem dX9_roomAt_45 : decode cX9_roomAt 45 = .ok (.areturn, 1) := by decide +kernel
theorem dX9_workAt_0 : decode cX9_workAt 0 = .ok (.iload_n 1, 1) := by decide +kernel
theorem dX9_workAt_1 : decode cX9_workAt 1 = .ok (.iconst 0, 1) := by decide +kernel
theorem dX9_workAt_2 : decode cX9_workAt 2 = .ok (.aload_n 0, 1) := by decide +kernel
theorem dX9_workAt_3 : decode cX9_workAt 3 = .ok (.getfield 23, 3) := by decide +kernel
theorem dX9_workAt_6 : decode cX9_workAt 6 = .ok (.invokevirtual 72, 3) := by decide +kernel
theorem dX9_workAt_9 : decode cX9_workAt 9 = .ok (.iconst 1, 1) := by decide +kernel
theorem dX9_workAt_10 : decode cX9_workAt 10 = .ok (.isub, 1) := by decide +kernel
theorem dX9_workAt_11 : decode cX9_workAt 11 = .ok (.invokestatic 58, 3) := by decide +kernel
theorem dX9_workAt_14 : decode cX9_workAt 14 = .ok (.ifCond .ne 14, 3) := by decide +kernel
theorem dX9_workAt_17 : decode cX9_workAt 17 = .ok (.new 307, 3) := by decide +kernel
theorem dX9_workAt_20 : decode cX9_workAt 20 = .ok (.dup, 1) := by decide +kernel
theorem dX9_workAt_21 : decode cX9_workAt 21 = .ok (.ldc_w 312, 3) := by decide +kernel
theorem dX9_workAt_24 : decode cX9_workAt 24 = .ok (.invokespecial 311, 3) := by decide +kernel
theorem dX9_workAt_27 : decode cX9_workAt 27 = .ok (.athrow, 1) := by decide +kernel
theorem dX9_workAt_28 : decode cX9_workAt 28 = .ok (.aload_n 0, 1) := by decide +kernel
theorem dX9_workAt_29 : decode cX9_workAt 29 = .ok (.getfield 23, 3) := by decide +kernel
theorem dX9_workAt_32 : decode cX9_workAt 32 = .ok (.iload_n 1, 1) := by decide +kernel
theorem dX9_workAt_33 : decode cX9_workAt 33 = .ok (.invokevirtual 120, 3) := by decide +kernel
theorem dX9_workAt_36 : decode cX9_workAt 36 = .ok (.checkcast 124, 3) := by decide +kernel
theorem dX9_workAt_39 : decode cX9_workAt 39 = .ok (.areturn, 1) := by decide +kernel
theorem dX9_exhibitionAt_0 : decode cX9_exhibitionAt 0 = .ok (.iload_n 1, 1) := by decide +kernel
theorem dX9_exhibitionAt_1 : decode cX9_exhibitionAt 1 = .ok (.iconst 0, 1) := by decide +kernel
theorem dX9_exhibitionAt_2 : decode cX9_exhibitionAt 2 = .ok (.aload_n 0, 1) := by decide +kernel
theorem dX9_exhibitionAt_3 : decode cX9_exhibitionAt 3 = .ok (.getfield 36, 3) := by decide +kernel
theorem dX9_exhibitionAt_6 : decode cX9_exhibitionAt 6 = .ok (.getfield 159, 3) := by decide +kernel
theorem dX9_exhibitionAt_9 : decode cX9_exhibitionAt 9 = .ok (.invokevirtual 72, 3) := by decide +kernel
theorem dX9_exhibitionAt_12 : decode cX9_exhibitionAt 12 = .ok (.iconst 1, 1) := by decide +kernel
