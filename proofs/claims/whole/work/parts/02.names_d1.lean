theorem dX5_faultPlace_4 : decode cX5_faultPlace 4 = .ok (.ireturn, 1) := by decide +kernel
theorem dX5_readProgram_0 : decode cX5_readProgram 0 = .ok (.aload_n 0, 1) := by decide +kernel
theorem dX5_readProgram_1 : decode cX5_readProgram 1 = .ok (.iconst 0, 1) := by decide +kernel
theorem dX5_readProgram_2 : decode cX5_readProgram 2 = .ok (.putfield 18, 3) := by decide +kernel
theorem dX5_readProgram_5 : decode cX5_readProgram 5 = .ok (.aload_n 0, 1) := by decide +kernel
theorem dX5_readProgram_6 : decode cX5_readProgram 6 = .ok (.iconst 0, 1) := by decide +kernel
theorem dX5_readProgram_7 : decode cX5_readProgram 7 = .ok (.putfield 22, 3) := by decide +kernel
theorem dX5_readProgram_10 : decode cX5_readProgram 10 = .ok (.aload_n 0, 1) := by decide +kernel
theorem dX5_readProgram_11 : decode cX5_readProgram 11 = .ok (.getfield 29, 3) := by decide +kernel
theorem dX5_readProgram_14 : decode cX5_readProgram 14 = .ok (.invokevirtual 33, 3) := by decide +kernel
theorem dX5_readProgram_17 : decode cX5_readProgram 17 = .ok (.aload_n 0, 1) := by decide +kernel
theorem dX5_readProgram_18 : decode cX5_readProgram 18 = .ok (.getfield 25, 3) := by decide +kernel
theorem dX5_readProgram_21 : decode cX5_readProgram 21 = .ok (.invokevirtual 38, 3) := by decide +kernel
theorem dX5_readProgram_24 : decode cX5_readProgram 24 = .ok (.aload_n 0, 1) := by decide +kernel
theorem dX5_readProgram_25 : decode cX5_readProgram 25 = .ok (.invokevirtual 43, 3) := by decide +kernel
theorem dX5_readProgram_28 : decode cX5_readProgram 28 = .ok (.istore_n 1, 1) := by decide +kernel
theorem dX5_readProgram_29 : decode cX5_readProgram 29 = .ok (.iconst 1, 1) := by decide +kernel
theorem dX5_readProgram_30 : decode cX5_readProgram 30 = .ok (.istore_n 2, 1) := by decide +kernel
theorem dX5_readProgram_31 : decode cX5_readProgram 31 = .ok (.iload_n 1, 1) := by decide +kernel
theorem dX5_readProgram_32 : decode cX5_readProgram 32 = .ok (.ifCond .eq 30, 3) := by decide +kernel
theorem dX5_readProgram_35 : decode cX5_readProgram 35 = .ok (.iload_n 2, 1) := by decide +kernel
theorem dX5_readProgram_36 : decode cX5_readProgram 36 = .ok (.bipush 20, 2) := by decide +kernel
theorem dX5_readProgram_38 : decode cX5_readProgram 38 = .ok (.if_icmp .gt 24, 3) := by decide +kernel
theorem dX5_readProgram_41 : decode cX5_readProgram 41 = .ok (.aload_n 0, 1) := by decide +kernel
theorem dX5_readProgram_42 : decode cX5_readProgram 42 = .ok (.getfield 25, 3) := by decide +kernel
theorem dX5_readProgram_45 : decode cX5_readProgram 45 = .ok (.invokevirtual 47, 3) := by decide +kernel
theorem dX5_readProgram_48 : decode cX5_readProgram 48 = .ok (.ifCond .eq 14, 3) := by decide +kernel
theorem dX5_readProgram_51 : decode cX5_readProgram 51 = .ok (.aload_n 0, 1) := by decide +kernel
theorem dX5_readProgram_52 : decode cX5_readProgram 52 = .ok (.invokevirtual 43, 3) := by decide +kernel
theorem dX5_readProgram_55 : decode cX5_readProgram 55 = .ok (.istore_n 1, 1) := by decide +kernel
theorem dX5_readProgram_56 : decode cX5_readProgram 56 = .ok (.iinc 2 1, 3) := by decide +kernel
theorem dX5_readProgram_59 : decode cX5_readProgram 59 = .ok (.goto (-28), 3) := by decide +kernel
theorem dX5_readProgram_62 : decode cX5_readProgram 62 = .ok (.iload_n 1, 1) := by decide +kernel
theorem dX5_readProgram_63 : decode cX5_readProgram 63 = .ok (.ifCond .eq 7, 3) := by decide +kernel
theorem dX5_readProgram_66 : decode cX5_readProgram 66 = .ok (.aload_n 0, 1) := by decide +kernel
theorem dX5_readProgram_67 : decode cX5_readProgram 67 = .ok (.invokevirtual 51, 3) := by decide +kernel
theorem dX5_readProgram_70 : decode cX5_readProgram 70 = .ok (.return_, 1) := by decide +kernel
theorem dX5_checkNames_0 : decode cX5_checkNames 0 = .ok (.aload_n 0, 1) := by decide +kernel
theorem dX5_checkNames_1 : decode cX5_checkNames 1 = .ok (.getfield 29, 3) := by decide +kernel
theorem dX5_checkNames_4 : decode cX5_checkNames 4 = .ok (.invokevirtual 54, 3) := by decide +kernel
theorem dX5_checkNames_7 : decode cX5_checkNames 7 = .ok (.aload_n 0, 1) := by decide +kernel
theorem dX5_checkNames_8 : decode cX5_checkNames 8 = .ok (.getfield 29, 3) := by decide +kernel
theorem dX5_checkNames_11 : decode cX5_checkNames 11 = .ok (.invokevirtual 57, 3) := by decide +kernel
theorem dX5_checkNames_14 : decode cX5_checkNames 14 = .ok (.istore_n 1, 1) := by decide +kernel
theorem dX5_checkNames_15 : decode cX5_checkNames 15 = .ok (.aload_n 0, 1) := by decide +kernel
theorem dX5_checkNames_16 : decode cX5_checkNames 16 = .ok (.getfield 29, 3) := by decide +kernel
theorem dX5_checkNames_19 : decode cX5_checkNames 19 = .ok (.ldc2_w 60, 3) := by decide +kernel
theorem dX5_checkNames_22 : decode cX5_checkNames 22 = .ok (.invokevirtual 62, 3) := by decide +kernel
theorem dX5_checkNames_25 : decode cX5_checkNames 25 = .ok (.istore_n 2, 1) := by decide +kernel
theorem dX5_checkNames_26 : decode cX5_checkNames 26 = .ok (.iload_n 1, 1) := by decide +kernel
theorem dX5_checkNames_27 : decode cX5_checkNames 27 = .ok (.iconst (-1), 1) := by decide +kernel
theorem dX5_checkNames_28 : decode cX5_checkNames 28 = .ok (.if_icmp .eq 13, 3) := by decide +kernel
theorem dX5_checkNames_31 : decode cX5_checkNames 31 = .ok (.aload_n 0, 1) := by decide +kernel
theorem dX5_checkNames_32 : decode cX5_checkNames 32 = .ok (.iconst 5, 1) := by decide +kernel
theorem dX5_checkNames_33 : decode cX5_checkNames 33 = .ok (.iload_n 1, 1) := by decide +kernel
theorem dX5_checkNames_34 : decode cX5_checkNames 34 = .ok (.invokevirtual 66, 3) := by decide +kernel
theorem dX5_checkNames_37 : decode cX5_checkNames 37 = .ok (.pop, 1) := by decide +kernel
theorem dX5_checkNames_38 : decode cX5_checkNames 38 = .ok (.goto 33, 3) := by decide +kernel
theorem dX5_checkNames_41 : decode cX5_checkNames 41 = .ok (.iload_n 2, 1) := by decide +kernel
theorem dX5_checkNames_42 : decode cX5_checkNames 42 = .ok (.iconst (-1), 1) := by decide +kernel
theorem dX5_checkNames_43 : decode cX5_checkNames 43 = .ok (.if_icmp .eq 14, 3) := by decide +kernel
theorem dX5_checkNames_46 : decode cX5_checkNames 46 = .ok (.aload_n 0, 1) := by decide +kernel
theorem dX5_checkNames_47 : decode cX5_checkNames 47 = .ok (.getfield 29, 3) := by decide +kernel
theorem dX5_checkNames_50 : decode cX5_checkNames 50 = .ok (.iload_n 2, 1) := by decide +kernel
theorem dX5_checkNames_51 : decode cX5_checkNames 51 = .ok (.invokevirtual 70, 3) := by decide +kernel
theorem dX5_checkNames_54 : decode cX5_checkNames 54 = .ok (.ifCond .le 17, 3) := by decide +kernel
theorem dX5_checkNames_57 : decode cX5_checkNames 57 = .ok (.aload_n 0, 1) := by decide +kernel
theorem dX5_checkNames_58 : decode cX5_checkNames 58 = .ok (.bipush 6, 2) := by decide +kernel
theorem dX5_checkNames_60 : decode cX5_checkNames 60 = .ok (.aload_n 0, 1) := by decide +kernel
theorem dX5_checkNames_61 : decode cX5_checkNames 61 = .ok (.getfield 25, 3) := by decide +kernel
theorem dX5_checkNames_64 : decode cX5_checkNames 64 = .ok (.invokevirtual 74, 3) := by decide +kernel
theorem dX5_checkNames_67 : decode cX5_checkNames 67 = .ok (.invokevirtual 66, 3) := by decide +kernel
theorem dX5_checkNames_70 : decode cX5_checkNames 70 = .ok (.pop, 1) := by decide +kernel
theorem dX5_checkNames_71 : decode cX5_checkNames 71 = .ok (.return_, 1) := by decide +kernel
theorem dX5_readDefinition_0 : decode cX5_readDefinition 0 = .ok (.aload_n 0, 1) := by decide +kernel
theorem dX5_readDefinition_1 : decode cX5_readDefinition 1 = .ok (.getfield 25, 3) := by decide +kernel
theorem dX5_readDefinition_4 : decode cX5_readDefinition 4 = .ok (.invokevirtual 47, 3) := by decide +kernel
theorem dX5_readDefinition_7 : decode cX5_readDefinition 7 = .ok (.iconst 2, 1) := by decide +kernel
theorem dX5_readDefinition_8 : decode cX5_readDefinition 8 = .ok (.if_icmp .eq 8, 3) := by decide +kernel
theorem dX5_readDefinition_11 : decode cX5_readDefinition 11 = .ok (.aload_n 0, 1) := by decide +kernel
theorem dX5_readDefinition_12 : decode cX5_readDefinition 12 = .ok (.invokevirtual 77, 3) := by decide +kernel
theorem dX5_readDefinition_15 : decode cX5_readDefinition 15 = .ok (.ireturn, 1) := by decide +kernel
theorem dX5_readDefinition_16 : decode cX5_readDefinition 16 = .ok (.aload_n 0, 1) := by decide +kernel
theorem dX5_readDefinition_17 : decode cX5_readDefinition 17 = .ok (.getfield 29, 3) := by decide +kernel
theorem dX5_readDefinition_20 : decode cX5_readDefinition 20 = .ok (.invokevirtual 80, 3) := by decide +kernel
theorem dX5_readDefinition_23 : decode cX5_readDefinition 23 = .ok (.bipush 20, 2) := by decide +kernel
theorem dX5_readDefinition_25 : decode cX5_readDefinition 25 = .ok (.if_icmp .ne 16, 3) := by decide +kernel
theorem dX5_readDefinition_28 : decode cX5_readDefinition 28 = .ok (.aload_n 0, 1) := by decide +kernel
theorem dX5_readDefinition_29 : decode cX5_readDefinition 29 = .ok (.iconst 3, 1) := by decide +kernel
theorem dX5_readDefinition_30 : decode cX5_readDefinition 30 = .ok (.aload_n 0, 1) := by decide +kernel
theorem dX5_readDefinition_31 : decode cX5_readDefinition 31 = .ok (.getfield 25, 3) := by decide +kernel
theorem dX5_readDefinition_34 : decode cX5_readDefinition 34 = .ok (.invokevirtual 83, 3) := by decide +kernel
theorem dX5_readDefinition_37 : decode cX5_readDefinition 37 = .ok (.invokevirtual 66, 3) := by decide +kernel
theorem dX5_readDefinition_40 : decode cX5_readDefinition 40 = .ok (.ireturn, 1) := by decide +kernel
theorem dX5_readDefinition_41 : decode cX5_readDefinition 41 = .ok (.aload_n 0, 1) := by decide +kernel
theorem dX5_readDefinition_42 : decode cX5_readDefinition 42 = .ok (.getfield 29, 3) := by decide +kernel
theorem dX5_readDefinition_45 : decode cX5_readDefinition 45 = .ok (.aload_n 0, 1) := by decide +kernel
theorem dX5_readDefinition_46 : decode cX5_readDefinition 46 = .ok (.getfield 25, 3) := by decide +kernel
theorem dX5_readDefinition_49 : decode cX5_readDefinition 49 = .ok (.invokevirtual 86, 3) := by decide +kernel
theorem dX5_readDefinition_52 : decode cX5_readDefinition 52 = .ok (.invokevirtual 62, 3) := by decide +kernel
theorem dX5_readDefinition_55 : decode cX5_readDefinition 55 = .ok (.iconst (-1), 1) := by decide +kernel
theorem dX5_readDefinition_56 : decode cX5_readDefinition 56 = .ok (.if_icmp .eq 16, 3) := by decide +kernel
theorem dX5_readDefinition_59 : decode cX5_readDefinition 59 = .ok (.aload_n 0, 1) := by decide +kernel
theorem dX5_readDefinition_60 : decode cX5_readDefinition 60 = .ok (.iconst 4, 1) := by decide +kernel
theorem dX5_readDefinition_61 : decode cX5_readDefinition 61 = .ok (.aload_n 0, 1) := by decide +kernel
theorem dX5_readDefinition_62 : decode cX5_readDefinition 62 = .ok (.getfield 25, 3) := by decide +kernel
theorem dX5_readDefinition_65 : decode cX5_readDefinition 65 = .ok (.invokevirtual 83, 3) := by decide +kernel
theorem dX5_readDefinition_68 : decode cX5_readDefinition 68 = .ok (.invokevirtual 66, 3) := by decide +kernel
theorem dX5_readDefinition_71 : decode cX5_readDefinition 71 = .ok (.ireturn, 1) := by decide +kernel
theorem dX5_readDefinition_72 : decode cX5_readDefinition 72 = .ok (.aload_n 0, 1) := by decide +kernel
theorem dX5_readDefinition_73 : decode cX5_readDefinition 73 = .ok (.getfield 29, 3) := by decide +kernel
theorem dX5_readDefinition_76 : decode cX5_readDefinition 76 = .ok (.aload_n 0, 1) := by decide +kernel
theorem dX5_readDefinition_77 : decode cX5_readDefinition 77 = .ok (.getfield 25, 3) := by decide +kernel
theorem dX5_readDefinition_80 : decode cX5_readDefinition 80 = .ok (.invokevirtual 86, 3) := by decide +kernel
theorem dX5_readDefinition_83 : decode cX5_readDefinition 83 = .ok (.invokevirtual 90, 3) := by decide +kernel
theorem dX5_readDefinition_86 : decode cX5_readDefinition 86 = .ok (.aload_n 0, 1) := by decide +kernel
theorem dX5_readDefinition_87 : decode cX5_readDefinition 87 = .ok (.getfield 25, 3) := by decide +kernel
theorem dX5_readDefinition_90 : decode cX5_readDefinition 90 = .ok (.invokevirtual 94, 3) := by decide +kernel
theorem dX5_readDefinition_93 : decode cX5_readDefinition 93 = .ok (.aload_n 0, 1) := by decide +kernel
theorem dX5_readDefinition_94 : decode cX5_readDefinition 94 = .ok (.getfield 29, 3) := by decide +kernel
theorem dX5_readDefinition_97 : decode cX5_readDefinition 97 = .ok (.invokevirtual 97, 3) := by decide +kernel
theorem dX5_readDefinition_100 : decode cX5_readDefinition 100 = .ok (.istore_n 1, 1) := by decide +kernel
theorem dX5_readDefinition_101 : decode cX5_readDefinition 101 = .ok (.aload_n 0, 1) := by decide +kernel
theorem dX5_readDefinition_102 : decode cX5_readDefinition 102 = .ok (.invokevirtual 100, 3) := by decide +kernel
theorem dX5_readDefinition_105 : decode cX5_readDefinition 105 = .ok (.istore_n 2, 1) := by decide +kernel
theorem dX5_readDefinition_106 : decode cX5_readDefinition 106 = .ok (.iload_n 2, 1) := by decide +kernel
theorem dX5_readDefinition_107 : decode cX5_readDefinition 107 = .ok (.iconst (-1), 1) := by decide +kernel
theorem dX5_readDefinition_108 : decode cX5_readDefinition 108 = .ok (.if_icmp .eq 29, 3) := by decide +kernel
theorem dX5_readDefinition_111 : decode cX5_readDefinition 111 = .ok (.aload_n 0, 1) := by decide +kernel
theorem dX5_readDefinition_112 : decode cX5_readDefinition 112 = .ok (.bipush 6, 2) := by decide +kernel
theorem dX5_readDefinition_114 : decode cX5_readDefinition 114 = .ok (.invokevirtual 103, 3) := by decide +kernel
theorem dX5_readDefinition_117 : decode cX5_readDefinition 117 = .ok (.ifCond .eq 20, 3) := by decide +kernel
theorem dX5_readDefinition_120 : decode cX5_readDefinition 120 = .ok (.aload_n 0, 1) := by decide +kernel
theorem dX5_readDefinition_121 : decode cX5_readDefinition 121 = .ok (.iconst 0, 1) := by decide +kernel
theorem dX5_readDefinition_122 : decode cX5_readDefinition 122 = .ok (.invokevirtual 107, 3) := by decide +kernel
theorem dX5_readDefinition_125 : decode cX5_readDefinition 125 = .ok (.ifCond .eq 12, 3) := by decide +kernel
theorem dX5_readDefinition_128 : decode cX5_readDefinition 128 = .ok (.aload_n 0, 1) := by decide +kernel
theorem dX5_readDefinition_129 : decode cX5_readDefinition 129 = .ok (.bipush 7, 2) := by decide +kernel
theorem dX5_readDefinition_131 : decode cX5_readDefinition 131 = .ok (.invokevirtual 103, 3) := by decide +kernel
theorem dX5_readDefinition_134 : decode cX5_readDefinition 134 = .ok (.ifCond .ne 5, 3) := by decide +kernel
theorem dX5_readDefinition_137 : decode cX5_readDefinition 137 = .ok (.iconst 0, 1) := by decide +kernel
theorem dX5_readDefinition_138 : decode cX5_readDefinition 138 = .ok (.ireturn, 1) := by decide +kernel
theorem dX5_readDefinition_139 : decode cX5_readDefinition 139 = .ok (.iconst 0, 1) := by decide +kernel
theorem dX5_readDefinition_140 : decode cX5_readDefinition 140 = .ok (.istore_n 3, 1) := by decide +kernel
theorem dX5_readDefinition_141 : decode cX5_readDefinition 141 = .ok (.iload_n 3, 1) := by decide +kernel
theorem dX5_readDefinition_142 : decode cX5_readDefinition 142 = .ok (.iload_n 2, 1) := by decide +kernel
theorem dX5_readDefinition_143 : decode cX5_readDefinition 143 = .ok (.if_icmp .ge 34, 3) := by decide +kernel
theorem dX5_readDefinition_146 : decode cX5_readDefinition 146 = .ok (.iload_n 3, 1) := by decide +kernel
theorem dX5_readDefinition_147 : decode cX5_readDefinition 147 = .ok (.aload_n 0, 1) := by decide +kernel
theorem dX5_readDefinition_148 : decode cX5_readDefinition 148 = .ok (.getfield 9, 3) := by decide +kernel
theorem dX5_readDefinition_151 : decode cX5_readDefinition 151 = .ok (.arraylength, 1) := by decide +kernel
theorem dX5_readDefinition_152 : decode cX5_readDefinition 152 = .ok (.if_icmp .ge 25, 3) := by decide +kernel
theorem dX5_readDefinition_155 : decode cX5_readDefinition 155 = .ok (.aload_n 0, 1) := by decide +kernel
theorem dX5_readDefinition_156 : decode cX5_readDefinition 156 = .ok (.getfield 29, 3) := by decide +kernel
theorem dX5_readDefinition_159 : decode cX5_readDefinition 159 = .ok (.iload_n 1, 1) := by decide +kernel
theorem dX5_readDefinition_160 : decode cX5_readDefinition 160 = .ok (.aload_n 0, 1) := by decide +kernel
theorem dX5_readDefinition_161 : decode cX5_readDefinition 161 = .ok (.getfield 9, 3) := by decide +kernel
theorem dX5_readDefinition_164 : decode cX5_readDefinition 164 = .ok (.iload_n 3, 1) := by decide +kernel
theorem dX5_readDefinition_165 : decode cX5_readDefinition 165 = .ok (.laload, 1) := by decide +kernel
theorem dX5_readDefinition_166 : decode cX5_readDefinition 166 = .ok (.iconst 3, 1) := by decide +kernel
theorem dX5_readDefinition_167 : decode cX5_readDefinition 167 = .ok (.iload_n 3, 1) := by decide +kernel
theorem dX5_readDefinition_168 : decode cX5_readDefinition 168 = .ok (.invokevirtual 110, 3) := by decide +kernel
theorem dX5_readDefinition_171 : decode cX5_readDefinition 171 = .ok (.iinc 3 1, 3) := by decide +kernel
theorem dX5_readDefinition_174 : decode cX5_readDefinition 174 = .ok (.goto (-33), 3) := by decide +kernel
theorem dX5_readDefinition_177 : decode cX5_readDefinition 177 = .ok (.aload_n 0, 1) := by decide +kernel
theorem dX5_readDefinition_178 : decode cX5_readDefinition 178 = .ok (.getfield 29, 3) := by decide +kernel
theorem dX5_readDefinition_181 : decode cX5_readDefinition 181 = .ok (.iload_n 2, 1) := by decide +kernel
theorem dX5_readDefinition_182 : decode cX5_readDefinition 182 = .ok (.invokevirtual 114, 3) := by decide +kernel
theorem dX5_readDefinition_185 : decode cX5_readDefinition 185 = .ok (.iconst 1, 1) := by decide +kernel
theorem dX5_readDefinition_186 : decode cX5_readDefinition 186 = .ok (.ireturn, 1) := by decide +kernel
theorem dX5_readParameters_0 : decode cX5_readParameters 0 = .ok (.iconst 0, 1) := by decide +kernel
theorem dX5_readParameters_1 : decode cX5_readParameters 1 = .ok (.istore_n 1, 1) := by decide +kernel
theorem dX5_readParameters_2 : decode cX5_readParameters 2 = .ok (.iload_n 1, 1) := by decide +kernel
theorem dX5_readParameters_3 : decode cX5_readParameters 3 = .ok (.bipush 8, 2) := by decide +kernel
theorem dX5_readParameters_5 : decode cX5_readParameters 5 = .ok (.if_icmp .gt 98, 3) := by decide +kernel
theorem dX5_readParameters_8 : decode cX5_readParameters 8 = .ok (.aload_n 0, 1) := by decide +kernel
theorem dX5_readParameters_9 : decode cX5_readParameters 9 = .ok (.getfield 25, 3) := by decide +kernel
theorem dX5_readParameters_12 : decode cX5_readParameters 12 = .ok (.invokevirtual 47, 3) := by decide +kernel
theorem dX5_readParameters_15 : decode cX5_readParameters 15 = .ok (.iconst 2, 1) := by decide +kernel
theorem dX5_readParameters_16 : decode cX5_readParameters 16 = .ok (.if_icmp .ne 87, 3) := by decide +kernel
theorem dX5_readParameters_19 : decode cX5_readParameters 19 = .ok (.iload_n 1, 1) := by decide +kernel
theorem dX5_readParameters_20 : decode cX5_readParameters 20 = .ok (.aload_n 0, 1) := by decide +kernel
theorem dX5_readParameters_21 : decode cX5_readParameters 21 = .ok (.getfield 9, 3) := by decide +kernel
theorem dX5_readParameters_24 : decode cX5_readParameters 24 = .ok (.arraylength, 1) := by decide +kernel
theorem dX5_readParameters_25 : decode cX5_readParameters 25 = .ok (.if_icmp .lt 18, 3) := by decide +kernel
theorem dX5_readParameters_28 : decode cX5_readParameters 28 = .ok (.aload_n 0, 1) := by decide +kernel
theorem dX5_readParameters_29 : decode cX5_readParameters 29 = .ok (.iconst 3, 1) := by decide +kernel
theorem dX5_readParameters_30 : decode cX5_readParameters 30 = .ok (.aload_n 0, 1) := by decide +kernel
theorem dX5_readParameters_31 : decode cX5_readParameters 31 = .ok (.getfield 25, 3) := by decide +kernel
theorem dX5_readParameters_34 : decode cX5_readParameters 34 = .ok (.invokevirtual 83, 3) := by decide +kernel
theorem dX5_readParameters_37 : decode cX5_readParameters 37 = .ok (.invokevirtual 66, 3) := by decide +kernel
theorem dX5_readParameters_40 : decode cX5_readParameters 40 = .ok (.pop, 1) := by decide +kernel
theorem dX5_readParameters_41 : decode cX5_readParameters 41 = .ok (.iconst (-1), 1) := by decide +kernel
theorem dX5_readParameters_42 : decode cX5_readParameters 42 = .ok (.ireturn, 1) := by decide +kernel
theorem dX5_readParameters_43 : decode cX5_readParameters 43 = .ok (.aload_n 0, 1) := by decide +kernel
theorem dX5_readParameters_44 : decode cX5_readParameters 44 = .ok (.getfield 9, 3) := by decide +kernel
theorem dX5_readParameters_47 : decode cX5_readParameters 47 = .ok (.iconst 0, 1) := by decide +kernel
theorem dX5_readParameters_48 : decode cX5_readParameters 48 = .ok (.iload_n 1, 1) := by decide +kernel
theorem dX5_readParameters_49 : decode cX5_readParameters 49 = .ok (.aload_n 0, 1) := by decide +kernel
theorem dX5_readParameters_50 : decode cX5_readParameters 50 = .ok (.getfield 25, 3) := by decide +kernel
theorem dX5_readParameters_53 : decode cX5_readParameters 53 = .ok (.invokevirtual 86, 3) := by decide +kernel
theorem dX5_readParameters_56 : decode cX5_readParameters 56 = .ok (.invokestatic 118, 3) := by decide +kernel
theorem dX5_readParameters_59 : decode cX5_readParameters 59 = .ok (.ifCond .eq 18, 3) := by decide +kernel
theorem dX5_readParameters_62 : decode cX5_readParameters 62 = .ok (.aload_n 0, 1) := by decide +kernel
theorem dX5_readParameters_63 : decode cX5_readParameters 63 = .ok (.iconst 4, 1) := by decide +kernel
theorem dX5_readParameters_64 : decode cX5_readParameters 64 = .ok (.aload_n 0, 1) := by decide +kernel
theorem dX5_readParameters_65 : decode cX5_readParameters 65 = .ok (.getfield 25, 3) := by decide +kernel
theorem dX5_readParameters_68 : decode cX5_readParameters 68 = .ok (.invokevirtual 83, 3) := by decide +kernel
theorem dX5_readParameters_71 : decode cX5_readParameters 71 = .ok (.invokevirtual 66, 3) := by decide +kernel
theorem dX5_readParameters_74 : decode cX5_readParameters 74 = .ok (.pop, 1) := by decide +kernel
theorem dX5_readParameters_75 : decode cX5_readParameters 75 = .ok (.iconst (-1), 1) := by decide +kernel
theorem dX5_readParameters_76 : decode cX5_readParameters 76 = .ok (.ireturn, 1) := by decide +kernel
theorem dX5_readParameters_77 : decode cX5_readParameters 77 = .ok (.aload_n 0, 1) := by decide +kernel
theorem dX5_readParameters_78 : decode cX5_readParameters 78 = .ok (.getfield 9, 3) := by decide +kernel
theorem dX5_readParameters_81 : decode cX5_readParameters 81 = .ok (.iload_n 1, 1) := by decide +kernel
theorem dX5_readParameters_82 : decode cX5_readParameters 82 = .ok (.aload_n 0, 1) := by decide +kernel
theorem dX5_readParameters_83 : decode cX5_readParameters 83 = .ok (.getfield 25, 3) := by decide +kernel
theorem dX5_readParameters_86 : decode cX5_readParameters 86 = .ok (.invokevirtual 86, 3) := by decide +kernel
theorem dX5_readParameters_89 : decode cX5_readParameters 89 = .ok (.lastore, 1) := by decide +kernel
theorem dX5_readParameters_90 : decode cX5_readParameters 90 = .ok (.aload_n 0, 1) := by decide +kernel
theorem dX5_readParameters_91 : decode cX5_readParameters 91 = .ok (.getfield 25, 3) := by decide +kernel
theorem dX5_readParameters_94 : decode cX5_readParameters 94 = .ok (.invokevirtual 94, 3) := by decide +kernel
theorem dX5_readParameters_97 : decode cX5_readParameters 97 = .ok (.iinc 1 1, 3) := by decide +kernel
theorem dX5_readParameters_100 : decode cX5_readParameters 100 = .ok (.goto (-98), 3) := by decide +kernel
theorem dX5_readParameters_103 : decode cX5_readParameters 103 = .ok (.iload_n 1, 1) := by decide +kernel
theorem dX5_readParameters_104 : decode cX5_readParameters 104 = .ok (.ireturn, 1) := by decide +kernel
theorem dX5_readExpr_0 : decode cX5_readExpr 0 = .ok (.aload_n 0, 1) := by decide +kernel
theorem dX5_readExpr_1 : decode cX5_readExpr 1 = .ok (.getfield 25, 3) := by decide +kernel
theorem dX5_readExpr_4 : decode cX5_readExpr 4 = .ok (.invokevirtual 47, 3) := by decide +kernel
theorem dX5_readExpr_7 : decode cX5_readExpr 7 = .ok (.iconst 4, 1) := by decide +kernel
theorem dX5_readExpr_8 : decode cX5_readExpr 8 = .ok (.if_icmp .ne 11, 3) := by decide +kernel
theorem dX5_readExpr_11 : decode cX5_readExpr 11 = .ok (.aload_n 0, 1) := by decide +kernel
theorem dX5_readExpr_12 : decode cX5_readExpr 12 = .ok (.iload_n 1, 1) := by decide +kernel
theorem dX5_readExpr_13 : decode cX5_readExpr 13 = .ok (.invokevirtual 122, 3) := by decide +kernel
theorem dX5_readExpr_16 : decode cX5_readExpr 16 = .ok (.goto 8, 3) := by decide +kernel
theorem dX5_readExpr_19 : decode cX5_readExpr 19 = .ok (.aload_n 0, 1) := by decide +kernel
theorem dX5_readExpr_20 : decode cX5_readExpr 20 = .ok (.iload_n 1, 1) := by decide +kernel
theorem dX5_readExpr_21 : decode cX5_readExpr 21 = .ok (.invokevirtual 125, 3) := by decide +kernel
theorem dX5_readExpr_24 : decode cX5_readExpr 24 = .ok (.ireturn, 1) := by decide +kernel
theorem dX5_readLet_0 : decode cX5_readLet 0 = .ok (.iload_n 1, 1) := by decide +kernel
theorem dX5_readLet_1 : decode cX5_readLet 1 = .ok (.bipush 12, 2) := by decide +kernel
theorem dX5_readLet_3 : decode cX5_readLet 3 = .ok (.if_icmp .lt 16, 3) := by decide +kernel
theorem dX5_readLet_6 : decode cX5_readLet 6 = .ok (.aload_n 0, 1) := by decide +kernel
theorem dX5_readLet_7 : decode cX5_readLet 7 = .ok (.iconst 3, 1) := by decide +kernel
theorem dX5_readLet_8 : decode cX5_readLet 8 = .ok (.aload_n 0, 1) := by decide +kernel
theorem dX5_readLet_9 : decode cX5_readLet 9 = .ok (.getfield 25, 3) := by decide +kernel
theorem dX5_readLet_12 : decode cX5_readLet 12 = .ok (.invokevirtual 83, 3) := by decide +kernel
theorem dX5_readLet_15 : decode cX5_readLet 15 = .ok (.invokevirtual 66, 3) := by decide +kernel
theorem dX5_readLet_18 : decode cX5_readLet 18 = .ok (.ireturn, 1) := by decide +kernel
theorem dX5_readLet_19 : decode cX5_readLet 19 = .ok (.aload_n 0, 1) := by decide +kernel
theorem dX5_readLet_20 : decode cX5_readLet 20 = .ok (.getfield 25, 3) := by decide +kernel
theorem dX5_readLet_23 : decode cX5_readLet 23 = .ok (.invokevirtual 94, 3) := by decide +kernel
theorem dX5_readLet_26 : decode cX5_readLet 26 = .ok (.iload_n 1, 1) := by decide +kernel
theorem dX5_readLet_27 : decode cX5_readLet 27 = .ok (.bipush 6, 2) := by decide +kernel
theorem dX5_readLet_29 : decode cX5_readLet 29 = .ok (.imul, 1) := by decide +kernel
theorem dX5_readLet_30 : decode cX5_readLet 30 = .ok (.istore_n 2, 1) := by decide +kernel
theorem dX5_readLet_31 : decode cX5_readLet 31 = .ok (.aload_n 0, 1) := by decide +kernel
theorem dX5_readLet_32 : decode cX5_readLet 32 = .ok (.getfield 29, 3) := by decide +kernel
theorem dX5_readLet_35 : decode cX5_readLet 35 = .ok (.invokevirtual 97, 3) := by decide +kernel
theorem dX5_readLet_38 : decode cX5_readLet 38 = .ok (.istore_n 3, 1) := by decide +kernel
theorem dX5_readLet_39 : decode cX5_readLet 39 = .ok (.aload_n 0, 1) := by decide +kernel
theorem dX5_readLet_40 : decode cX5_readLet 40 = .ok (.getfield 29, 3) := by decide +kernel
theorem dX5_readLet_43 : decode cX5_readLet 43 = .ok (.bipush 6, 2) := by decide +kernel
theorem dX5_readLet_45 : decode cX5_readLet 45 = .ok (.iconst 0, 1) := by decide +kernel
theorem dX5_readLet_46 : decode cX5_readLet 46 = .ok (.invokevirtual 128, 3) := by decide +kernel
theorem dX5_readLet_49 : decode cX5_readLet 49 = .ok (.iconst 0, 1) := by decide +kernel
theorem dX5_readLet_50 : decode cX5_readLet 50 = .ok (.istore 4, 2) := by decide +kernel
theorem dX5_readLet_52 : decode cX5_readLet 52 = .ok (.aload_n 0, 1) := by decide +kernel
theorem dX5_readLet_53 : decode cX5_readLet 53 = .ok (.iload_n 1, 1) := by decide +kernel
theorem dX5_readLet_54 : decode cX5_readLet 54 = .ok (.iload 4, 2) := by decide +kernel
theorem dX5_readLet_56 : decode cX5_readLet 56 = .ok (.invokevirtual 132, 3) := by decide +kernel
theorem dX5_readLet_59 : decode cX5_readLet 59 = .ok (.istore 5, 2) := by decide +kernel
theorem dX5_readLet_61 : decode cX5_readLet 61 = .ok (.iconst 1, 1) := by decide +kernel
theorem dX5_readLet_62 : decode cX5_readLet 62 = .ok (.istore 4, 2) := by decide +kernel
theorem dX5_readLet_64 : decode cX5_readLet 64 = .ok (.iload 5, 2) := by decide +kernel
theorem dX5_readLet_66 : decode cX5_readLet 66 = .ok (.ifCond .eq 36, 3) := by decide +kernel
theorem dX5_readLet_69 : decode cX5_readLet 69 = .ok (.iload 4, 2) := by decide +kernel
theorem dX5_readLet_71 : decode cX5_readLet 71 = .ok (.bipush 6, 2) := by decide +kernel
theorem dX5_readLet_73 : decode cX5_readLet 73 = .ok (.if_icmp .gt 29, 3) := by decide +kernel
theorem dX5_readLet_76 : decode cX5_readLet 76 = .ok (.aload_n 0, 1) := by decide +kernel
theorem dX5_readLet_77 : decode cX5_readLet 77 = .ok (.getfield 25, 3) := by decide +kernel
theorem dX5_readLet_80 : decode cX5_readLet 80 = .ok (.invokevirtual 47, 3) := by decide +kernel
theorem dX5_readLet_83 : decode cX5_readLet 83 = .ok (.iconst 5, 1) := by decide +kernel
theorem dX5_readLet_84 : decode cX5_readLet 84 = .ok (.if_icmp .eq 18, 3) := by decide +kernel
theorem dX5_readLet_87 : decode cX5_readLet 87 = .ok (.aload_n 0, 1) := by decide +kernel
theorem dX5_readLet_88 : decode cX5_readLet 88 = .ok (.iload_n 1, 1) := by decide +kernel
theorem dX5_readLet_89 : decode cX5_readLet 89 = .ok (.iload 4, 2) := by decide +kernel
theorem dX5_readLet_91 : decode cX5_readLet 91 = .ok (.invokevirtual 132, 3) := by decide +kernel
theorem dX5_readLet_94 : decode cX5_readLet 94 = .ok (.istore 5, 2) := by decide +kernel
theorem dX5_readLet_96 : decode cX5_readLet 96 = .ok (.iinc 4 1, 3) := by decide +kernel
theorem dX5_readLet_99 : decode cX5_readLet 99 = .ok (.goto (-35), 3) := by decide +kernel
theorem dX5_readLet_102 : decode cX5_readLet 102 = .ok (.iload 5, 2) := by decide +kernel
theorem dX5_readLet_104 : decode cX5_readLet 104 = .ok (.ifCond .eq 11, 3) := by decide +kernel
theorem dX5_readLet_107 : decode cX5_readLet 107 = .ok (.aload_n 0, 1) := by decide +kernel
theorem dX5_readLet_108 : decode cX5_readLet 108 = .ok (.iconst 5, 1) := by decide +kernel
theorem dX5_readLet_109 : decode cX5_readLet 109 = .ok (.invokevirtual 103, 3) := by decide +kernel
theorem dX5_readLet_112 : decode cX5_readLet 112 = .ok (.ifCond .ne 5, 3) := by decide +kernel
theorem dX5_readLet_115 : decode cX5_readLet 115 = .ok (.iconst 0, 1) := by decide +kernel
theorem dX5_readLet_116 : decode cX5_readLet 116 = .ok (.ireturn, 1) := by decide +kernel
theorem dX5_readLet_117 : decode cX5_readLet 117 = .ok (.aload_n 0, 1) := by decide +kernel
theorem dX5_readLet_118 : decode cX5_readLet 118 = .ok (.getfield 29, 3) := by decide +kernel
theorem dX5_readLet_121 : decode cX5_readLet 121 = .ok (.iload_n 3, 1) := by decide +kernel
theorem dX5_readLet_122 : decode cX5_readLet 122 = .ok (.iload 4, 2) := by decide +kernel
theorem dX5_readLet_124 : decode cX5_readLet 124 = .ok (.iload_n 2, 1) := by decide +kernel
theorem dX5_readLet_125 : decode cX5_readLet 125 = .ok (.invokevirtual 135, 3) := by decide +kernel
theorem dX5_readLet_128 : decode cX5_readLet 128 = .ok (.aload_n 0, 1) := by decide +kernel
theorem dX5_readLet_129 : decode cX5_readLet 129 = .ok (.iload_n 1, 1) := by decide +kernel
theorem dX5_readLet_130 : decode cX5_readLet 130 = .ok (.iconst 1, 1) := by decide +kernel
theorem dX5_readLet_131 : decode cX5_readLet 131 = .ok (.iadd, 1) := by decide +kernel
theorem dX5_readLet_132 : decode cX5_readLet 132 = .ok (.invokevirtual 107, 3) := by decide +kernel
theorem dX5_readLet_135 : decode cX5_readLet 135 = .ok (.ifCond .ne 5, 3) := by decide +kernel
theorem dX5_readLet_138 : decode cX5_readLet 138 = .ok (.iconst 0, 1) := by decide +kernel
theorem dX5_readLet_139 : decode cX5_readLet 139 = .ok (.ireturn, 1) := by decide +kernel
theorem dX5_readLet_140 : decode cX5_readLet 140 = .ok (.iload_n 2, 1) := by decide +kernel
theorem dX5_readLet_141 : decode cX5_readLet 141 = .ok (.istore 6, 2) := by decide +kernel
theorem dX5_readLet_143 : decode cX5_readLet 143 = .ok (.iload 6, 2) := by decide +kernel
theorem dX5_readLet_145 : decode cX5_readLet 145 = .ok (.iload_n 2, 1) := by decide +kernel
theorem dX5_readLet_146 : decode cX5_readLet 146 = .ok (.iload 4, 2) := by decide +kernel
theorem dX5_readLet_148 : decode cX5_readLet 148 = .ok (.iadd, 1) := by decide +kernel
theorem dX5_readLet_149 : decode cX5_readLet 149 = .ok (.if_icmp .ge 37, 3) := by decide +kernel
theorem dX5_readLet_152 : decode cX5_readLet 152 = .ok (.iload 6, 2) := by decide +kernel
theorem dX5_readLet_154 : decode cX5_readLet 154 = .ok (.aload_n 0, 1) := by decide +kernel
theorem dX5_readLet_155 : decode cX5_readLet 155 = .ok (.getfield 15, 3) := by decide +kernel
theorem dX5_readLet_158 : decode cX5_readLet 158 = .ok (.arraylength, 1) := by decide +kernel
theorem dX5_readLet_159 : decode cX5_readLet 159 = .ok (.if_icmp .ge 27, 3) := by decide +kernel
theorem dX5_readLet_162 : decode cX5_readLet 162 = .ok (.aload_n 0, 1) := by decide +kernel
theorem dX5_readLet_163 : decode cX5_readLet 163 = .ok (.getfield 29, 3) := by decide +kernel
theorem dX5_readLet_166 : decode cX5_readLet 166 = .ok (.iload_n 3, 1) := by decide +kernel
theorem dX5_readLet_167 : decode cX5_readLet 167 = .ok (.aload_n 0, 1) := by decide +kernel
theorem dX5_readLet_168 : decode cX5_readLet 168 = .ok (.getfield 15, 3) := by decide +kernel
theorem dX5_readLet_171 : decode cX5_readLet 171 = .ok (.iload 6, 2) := by decide +kernel
theorem dX5_readLet_173 : decode cX5_readLet 173 = .ok (.laload, 1) := by decide +kernel
theorem dX5_readLet_174 : decode cX5_readLet 174 = .ok (.iconst 4, 1) := by decide +kernel
theorem dX5_readLet_175 : decode cX5_readLet 175 = .ok (.iload 6, 2) := by decide +kernel
theorem dX5_readLet_177 : decode cX5_readLet 177 = .ok (.invokevirtual 110, 3) := by decide +kernel
theorem dX5_readLet_180 : decode cX5_readLet 180 = .ok (.iinc 6 1, 3) := by decide +kernel
theorem dX5_readLet_183 : decode cX5_readLet 183 = .ok (.goto (-40), 3) := by decide +kernel
theorem dX5_readLet_186 : decode cX5_readLet 186 = .ok (.iconst 1, 1) := by decide +kernel
theorem dX5_readLet_187 : decode cX5_readLet 187 = .ok (.ireturn, 1) := by decide +kernel
theorem dX5_readBinding_0 : decode cX5_readBinding 0 = .ok (.iload_n 1, 1) := by decide +kernel
theorem dX5_readBinding_1 : decode cX5_readBinding 1 = .ok (.bipush 6, 2) := by decide +kernel
theorem dX5_readBinding_3 : decode cX5_readBinding 3 = .ok (.imul, 1) := by decide +kernel
theorem dX5_readBinding_4 : decode cX5_readBinding 4 = .ok (.istore_n 3, 1) := by decide +kernel
theorem dX5_readBinding_5 : decode cX5_readBinding 5 = .ok (.iload_n 3, 1) := by decide +kernel
theorem dX5_readBinding_6 : decode cX5_readBinding 6 = .ok (.iload_n 2, 1) := by decide +kernel
theorem dX5_readBinding_7 : decode cX5_readBinding 7 = .ok (.iadd, 1) := by decide +kernel
theorem dX5_readBinding_8 : decode cX5_readBinding 8 = .ok (.istore 4, 2) := by decide +kernel
theorem dX5_readBinding_10 : decode cX5_readBinding 10 = .ok (.aload_n 0, 1) := by decide +kernel
theorem dX5_readBinding_11 : decode cX5_readBinding 11 = .ok (.getfield 25, 3) := by decide +kernel
theorem dX5_readBinding_14 : decode cX5_readBinding 14 = .ok (.invokevirtual 47, 3) := by decide +kernel
theorem dX5_readBinding_17 : decode cX5_readBinding 17 = .ok (.iconst 2, 1) := by decide +kernel
theorem dX5_readBinding_18 : decode cX5_readBinding 18 = .ok (.if_icmp .eq 8, 3) := by decide +kernel
theorem dX5_readBinding_21 : decode cX5_readBinding 21 = .ok (.aload_n 0, 1) := by decide +kernel
theorem dX5_readBinding_22 : decode cX5_readBinding 22 = .ok (.invokevirtual 77, 3) := by decide +kernel
theorem dX5_readBinding_25 : decode cX5_readBinding 25 = .ok (.ireturn, 1) := by decide +kernel
theorem dX5_readBinding_26 : decode cX5_readBinding 26 = .ok (.iload_n 2, 1) := by decide +kernel
theorem dX5_readBinding_27 : decode cX5_readBinding 27 = .ok (.bipush 6, 2) := by decide +kernel
theorem dX5_readBinding_29 : decode cX5_readBinding 29 = .ok (.if_icmp .ge 18, 3) := by decide +kernel
theorem dX5_readBinding_32 : decode cX5_readBinding 32 = .ok (.iload 4, 2) := by decide +kernel
theorem dX5_readBinding_34 : decode cX5_readBinding 34 = .ok (.ifCond .lt 13, 3) := by decide +kernel
theorem dX5_readBinding_37 : decode cX5_readBinding 37 = .ok (.iload 4, 2) := by decide +kernel
theorem dX5_readBinding_39 : decode cX5_readBinding 39 = .ok (.aload_n 0, 1) := by decide +kernel
theorem dX5_readBinding_40 : decode cX5_readBinding 40 = .ok (.getfield 15, 3) := by decide +kernel
theorem dX5_readBinding_43 : decode cX5_readBinding 43 = .ok (.arraylength, 1) := by decide +kernel
theorem dX5_readBinding_44 : decode cX5_readBinding 44 = .ok (.if_icmp .lt 16, 3) := by decide +kernel
theorem dX5_readBinding_47 : decode cX5_readBinding 47 = .ok (.aload_n 0, 1) := by decide +kernel
theorem dX5_readBinding_48 : decode cX5_readBinding 48 = .ok (.iconst 3, 1) := by decide +kernel
theorem dX5_readBinding_49 : decode cX5_readBinding 49 = .ok (.aload_n 0, 1) := by decide +kernel
theorem dX5_readBinding_50 : decode cX5_readBinding 50 = .ok (.getfield 25, 3) := by decide +kernel
theorem dX5_readBinding_53 : decode cX5_readBinding 53 = .ok (.invokevirtual 83, 3) := by decide +kernel
theorem dX5_readBinding_56 : decode cX5_readBinding 56 = .ok (.invokevirtual 66, 3) := by decide +kernel
theorem dX5_readBinding_59 : decode cX5_readBinding 59 = .ok (.ireturn, 1) := by decide +kernel
theorem dX5_readBinding_60 : decode cX5_readBinding 60 = .ok (.aload_n 0, 1) := by decide +kernel
theorem dX5_readBinding_61 : decode cX5_readBinding 61 = .ok (.getfield 15, 3) := by decide +kernel
theorem dX5_readBinding_64 : decode cX5_readBinding 64 = .ok (.iload_n 3, 1) := by decide +kernel
theorem dX5_readBinding_65 : decode cX5_readBinding 65 = .ok (.iload 4, 2) := by decide +kernel
theorem dX5_readBinding_67 : decode cX5_readBinding 67 = .ok (.aload_n 0, 1) := by decide +kernel
theorem dX5_readBinding_68 : decode cX5_readBinding 68 = .ok (.getfield 25, 3) := by decide +kernel
theorem dX5_readBinding_71 : decode cX5_readBinding 71 = .ok (.invokevirtual 86, 3) := by decide +kernel
theorem dX5_readBinding_74 : decode cX5_readBinding 74 = .ok (.invokestatic 118, 3) := by decide +kernel
theorem dX5_readBinding_77 : decode cX5_readBinding 77 = .ok (.ifCond .eq 16, 3) := by decide +kernel
theorem dX5_readBinding_80 : decode cX5_readBinding 80 = .ok (.aload_n 0, 1) := by decide +kernel
theorem dX5_readBinding_81 : decode cX5_readBinding 81 = .ok (.iconst 4, 1) := by decide +kernel
theorem dX5_readBinding_82 : decode cX5_readBinding 82 = .ok (.aload_n 0, 1) := by decide +kernel
theorem dX5_readBinding_83 : decode cX5_readBinding 83 = .ok (.getfield 25, 3) := by decide +kernel
theorem dX5_readBinding_86 : decode cX5_readBinding 86 = .ok (.invokevirtual 83, 3) := by decide +kernel
theorem dX5_readBinding_89 : decode cX5_readBinding 89 = .ok (.invokevirtual 66, 3) := by decide +kernel
theorem dX5_readBinding_92 : decode cX5_readBinding 92 = .ok (.ireturn, 1) := by decide +kernel
theorem dX5_readBinding_93 : decode cX5_readBinding 93 = .ok (.aload_n 0, 1) := by decide +kernel
theorem dX5_readBinding_94 : decode cX5_readBinding 94 = .ok (.getfield 15, 3) := by decide +kernel
theorem dX5_readBinding_97 : decode cX5_readBinding 97 = .ok (.iload 4, 2) := by decide +kernel
theorem dX5_readBinding_99 : decode cX5_readBinding 99 = .ok (.aload_n 0, 1) := by decide +kernel
theorem dX5_readBinding_100 : decode cX5_readBinding 100 = .ok (.getfield 25, 3) := by decide +kernel
theorem dX5_readBinding_103 : decode cX5_readBinding 103 = .ok (.invokevirtual 86, 3) := by decide +kernel
theorem dX5_readBinding_106 : decode cX5_readBinding 106 = .ok (.lastore, 1) := by decide +kernel
theorem dX5_readBinding_107 : decode cX5_readBinding 107 = .ok (.aload_n 0, 1) := by decide +kernel
theorem dX5_readBinding_108 : decode cX5_readBinding 108 = .ok (.getfield 25, 3) := by decide +kernel
theorem dX5_readBinding_111 : decode cX5_readBinding 111 = .ok (.invokevirtual 94, 3) := by decide +kernel
theorem dX5_readBinding_114 : decode cX5_readBinding 114 = .ok (.aload_n 0, 1) := by decide +kernel
theorem dX5_readBinding_115 : decode cX5_readBinding 115 = .ok (.bipush 6, 2) := by decide +kernel
theorem dX5_readBinding_117 : decode cX5_readBinding 117 = .ok (.invokevirtual 103, 3) := by decide +kernel
theorem dX5_readBinding_120 : decode cX5_readBinding 120 = .ok (.ifCond .eq 22, 3) := by decide +kernel
theorem dX5_readBinding_123 : decode cX5_readBinding 123 = .ok (.aload_n 0, 1) := by decide +kernel
theorem dX5_readBinding_124 : decode cX5_readBinding 124 = .ok (.iload_n 1, 1) := by decide +kernel
theorem dX5_readBinding_125 : decode cX5_readBinding 125 = .ok (.iconst 1, 1) := by decide +kernel
theorem dX5_readBinding_126 : decode cX5_readBinding 126 = .ok (.iadd, 1) := by decide +kernel
theorem dX5_readBinding_127 : decode cX5_readBinding 127 = .ok (.invokevirtual 107, 3) := by decide +kernel
theorem dX5_readBinding_130 : decode cX5_readBinding 130 = .ok (.ifCond .eq 12, 3) := by decide +kernel
theorem dX5_readBinding_133 : decode cX5_readBinding 133 = .ok (.aload_n 0, 1) := by decide +kernel
theorem dX5_readBinding_134 : decode cX5_readBinding 134 = .ok (.bipush 7, 2) := by decide +kernel
theorem dX5_readBinding_136 : decode cX5_readBinding 136 = .ok (.invokevirtual 103, 3) := by decide +kernel
theorem dX5_readBinding_139 : decode cX5_readBinding 139 = .ok (.ifCond .ne 5, 3) := by decide +kernel
theorem dX5_readBinding_142 : decode cX5_readBinding 142 = .ok (.iconst 0, 1) := by decide +kernel
theorem dX5_readBinding_143 : decode cX5_readBinding 143 = .ok (.ireturn, 1) := by decide +kernel
theorem dX5_readBinding_144 : decode cX5_readBinding 144 = .ok (.aload_n 0, 1) := by decide +kernel
theorem dX5_readBinding_145 : decode cX5_readBinding 145 = .ok (.getfield 29, 3) := by decide +kernel
theorem dX5_readBinding_148 : decode cX5_readBinding 148 = .ok (.bipush 7, 2) := by decide +kernel
theorem dX5_readBinding_150 : decode cX5_readBinding 150 = .ok (.iload 4, 2) := by decide +kernel
theorem dX5_readBinding_152 : decode cX5_readBinding 152 = .ok (.invokevirtual 128, 3) := by decide +kernel
theorem dX5_readBinding_155 : decode cX5_readBinding 155 = .ok (.iconst 1, 1) := by decide +kernel
theorem dX5_readBinding_156 : decode cX5_readBinding 156 = .ok (.ireturn, 1) := by decide +kernel
theorem dX5_readAtoms_0 : decode cX5_readAtoms 0 = .ok (.iconst 0, 1) := by decide +kernel
theorem dX5_readAtoms_1 : decode cX5_readAtoms 1 = .ok (.istore_n 2, 1) := by decide +kernel
theorem dX5_readAtoms_2 : decode cX5_readAtoms 2 = .ok (.iload_n 2, 1) := by decide +kernel
theorem dX5_readAtoms_3 : decode cX5_readAtoms 3 = .ok (.bipush 10, 2) := by decide +kernel
theorem dX5_readAtoms_5 : decode cX5_readAtoms 5 = .ok (.if_icmp .gt 45, 3) := by decide +kernel
theorem dX5_readAtoms_8 : decode cX5_readAtoms 8 = .ok (.aload_n 0, 1) := by decide +kernel
theorem dX5_readAtoms_9 : decode cX5_readAtoms 9 = .ok (.invokevirtual 139, 3) := by decide +kernel
theorem dX5_readAtoms_12 : decode cX5_readAtoms 12 = .ok (.ifCond .eq 38, 3) := by decide +kernel
theorem dX5_readAtoms_15 : decode cX5_readAtoms 15 = .ok (.iload_n 2, 1) := by decide +kernel
theorem dX5_readAtoms_16 : decode cX5_readAtoms 16 = .ok (.bipush 10, 2) := by decide +kernel
theorem dX5_readAtoms_18 : decode cX5_readAtoms 18 = .ok (.if_icmp .ne 16, 3) := by decide +kernel
theorem dX5_readAtoms_21 : decode cX5_readAtoms 21 = .ok (.aload_n 0, 1) := by decide +kernel
theorem dX5_readAtoms_22 : decode cX5_readAtoms 22 = .ok (.iconst 3, 1) := by decide +kernel
theorem dX5_readAtoms_23 : decode cX5_readAtoms 23 = .ok (.aload_n 0, 1) := by decide +kernel
theorem dX5_readAtoms_24 : decode cX5_readAtoms 24 = .ok (.getfield 25, 3) := by decide +kernel
theorem dX5_readAtoms_27 : decode cX5_readAtoms 27 = .ok (.invokevirtual 83, 3) := by decide +kernel
theorem dX5_readAtoms_30 : decode cX5_readAtoms 30 = .ok (.invokevirtual 66, 3) := by decide +kernel
theorem dX5_readAtoms_33 : decode cX5_readAtoms 33 = .ok (.ireturn, 1) := by decide +kernel
theorem dX5_readAtoms_34 : decode cX5_readAtoms 34 = .ok (.aload_n 0, 1) := by decide +kernel
theorem dX5_readAtoms_35 : decode cX5_readAtoms 35 = .ok (.iload_n 1, 1) := by decide +kernel
theorem dX5_readAtoms_36 : decode cX5_readAtoms 36 = .ok (.invokevirtual 142, 3) := by decide +kernel
theorem dX5_readAtoms_39 : decode cX5_readAtoms 39 = .ok (.ifCond .ne 5, 3) := by decide +kernel
theorem dX5_readAtoms_42 : decode cX5_readAtoms 42 = .ok (.iconst 0, 1) := by decide +kernel
theorem dX5_readAtoms_43 : decode cX5_readAtoms 43 = .ok (.ireturn, 1) := by decide +kernel
theorem dX5_readAtoms_44 : decode cX5_readAtoms 44 = .ok (.iinc 2 1, 3) := by decide +kernel
theorem dX5_readAtoms_47 : decode cX5_readAtoms 47 = .ok (.goto (-45), 3) := by decide +kernel
theorem dX5_readAtoms_50 : decode cX5_readAtoms 50 = .ok (.iload_n 2, 1) := by decide +kernel
theorem dX5_readAtoms_51 : decode cX5_readAtoms 51 = .ok (.ifCond .ne 8, 3) := by decide +kernel
theorem dX5_readAtoms_54 : decode cX5_readAtoms 54 = .ok (.aload_n 0, 1) := by decide +kernel
theorem dX5_readAtoms_55 : decode cX5_readAtoms 55 = .ok (.invokevirtual 77, 3) := by decide +kernel
theorem dX5_readAtoms_58 : decode cX5_readAtoms 58 = .ok (.ireturn, 1) := by decide +kernel
theorem dX5_readAtoms_59 : decode cX5_readAtoms 59 = .ok (.iload_n 2, 1) := by decide +kernel
theorem dX5_readAtoms_60 : decode cX5_readAtoms 60 = .ok (.iconst 1, 1) := by decide +kernel
theorem dX5_readAtoms_61 : decode cX5_readAtoms 61 = .ok (.if_icmp .le 12, 3) := by decide +kernel
theorem dX5_readAtoms_64 : decode cX5_readAtoms 64 = .ok (.aload_n 0, 1) := by decide +kernel
theorem dX5_readAtoms_65 : decode cX5_readAtoms 65 = .ok (.getfield 29, 3) := by decide +kernel
theorem dX5_readAtoms_68 : decode cX5_readAtoms 68 = .ok (.iconst 5, 1) := by decide +kernel
theorem dX5_readAtoms_69 : decode cX5_readAtoms 69 = .ok (.iload_n 2, 1) := by decide +kernel
theorem dX5_readAtoms_70 : decode cX5_readAtoms 70 = .ok (.invokevirtual 128, 3) := by decide +kernel
theorem dX5_readAtoms_73 : decode cX5_readAtoms 73 = .ok (.iconst 1, 1) := by decide +kernel
theorem dX5_readAtoms_74 : decode cX5_readAtoms 74 = .ok (.ireturn, 1) := by decide +kernel
theorem dX5_beginsAtom_0 : decode cX5_beginsAtom 0 = .ok (.aload_n 0, 1) := by decide +kernel
theorem dX5_beginsAtom_1 : decode cX5_beginsAtom 1 = .ok (.getfield 25, 3) := by decide +kernel
theorem dX5_beginsAtom_4 : decode cX5_beginsAtom 4 = .ok (.invokevirtual 47, 3) := by decide +kernel
theorem dX5_beginsAtom_7 : decode cX5_beginsAtom 7 = .ok (.istore_n 1, 1) := by decide +kernel
theorem dX5_beginsAtom_8 : decode cX5_beginsAtom 8 = .ok (.iload_n 1, 1) := by decide +kernel
theorem dX5_beginsAtom_9 : decode cX5_beginsAtom 9 = .ok (.iconst 1, 1) := by decide +kernel
theorem dX5_beginsAtom_10 : decode cX5_beginsAtom 10 = .ok (.if_icmp .eq 19, 3) := by decide +kernel
theorem dX5_beginsAtom_13 : decode cX5_beginsAtom 13 = .ok (.iload_n 1, 1) := by decide +kernel
theorem dX5_beginsAtom_14 : decode cX5_beginsAtom 14 = .ok (.iconst 3, 1) := by decide +kernel
theorem dX5_beginsAtom_15 : decode cX5_beginsAtom 15 = .ok (.if_icmp .eq 14, 3) := by decide +kernel
theorem dX5_beginsAtom_18 : decode cX5_beginsAtom 18 = .ok (.iload_n 1, 1) := by decide +kernel
theorem dX5_beginsAtom_19 : decode cX5_beginsAtom 19 = .ok (.iconst 2, 1) := by decide +kernel
theorem dX5_beginsAtom_20 : decode cX5_beginsAtom 20 = .ok (.if_icmp .eq 9, 3) := by decide +kernel
theorem dX5_beginsAtom_23 : decode cX5_beginsAtom 23 = .ok (.iload_n 1, 1) := by decide +kernel
theorem dX5_beginsAtom_24 : decode cX5_beginsAtom 24 = .ok (.bipush 8, 2) := by decide +kernel
theorem dX5_beginsAtom_26 : decode cX5_beginsAtom 26 = .ok (.if_icmp .ne 7, 3) := by decide +kernel
theorem dX5_beginsAtom_29 : decode cX5_beginsAtom 29 = .ok (.iconst 1, 1) := by decide +kernel
theorem dX5_beginsAtom_30 : decode cX5_beginsAtom 30 = .ok (.goto 4, 3) := by decide +kernel
theorem dX5_beginsAtom_33 : decode cX5_beginsAtom 33 = .ok (.iconst 0, 1) := by decide +kernel
theorem dX5_beginsAtom_34 : decode cX5_beginsAtom 34 = .ok (.ireturn, 1) := by decide +kernel
theorem dX5_readAtom_0 : decode cX5_readAtom 0 = .ok (.aload_n 0, 1) := by decide +kernel
theorem dX5_readAtom_1 : decode cX5_readAtom 1 = .ok (.getfield 25, 3) := by decide +kernel
theorem dX5_readAtom_4 : decode cX5_readAtom 4 = .ok (.invokevirtual 47, 3) := by decide +kernel
theorem dX5_readAtom_7 : decode cX5_readAtom 7 = .ok (.tableswitch 85 1 3 #[25, 61, 43], 25) := by decide +kernel
theorem dX5_readAtom_32 : decode cX5_readAtom 32 = .ok (.aload_n 0, 1) := by decide +kernel
theorem dX5_readAtom_33 : decode cX5_readAtom 33 = .ok (.getfield 29, 3) := by decide +kernel
theorem dX5_readAtom_36 : decode cX5_readAtom 36 = .ok (.iconst 0, 1) := by decide +kernel
theorem dX5_readAtom_37 : decode cX5_readAtom 37 = .ok (.aload_n 0, 1) := by decide +kernel
theorem dX5_readAtom_38 : decode cX5_readAtom 38 = .ok (.getfield 25, 3) := by decide +kernel
theorem dX5_readAtom_41 : decode cX5_readAtom 41 = .ok (.invokevirtual 145, 3) := by decide +kernel
theorem dX5_readAtom_44 : decode cX5_readAtom 44 = .ok (.invokevirtual 128, 3) := by decide +kernel
theorem dX5_readAtom_47 : decode cX5_readAtom 47 = .ok (.goto 51, 3) := by decide +kernel
theorem dX5_readAtom_50 : decode cX5_readAtom 50 = .ok (.aload_n 0, 1) := by decide +kernel
theorem dX5_readAtom_51 : decode cX5_readAtom 51 = .ok (.getfield 29, 3) := by decide +kernel
theorem dX5_readAtom_54 : decode cX5_readAtom 54 = .ok (.iconst 1, 1) := by decide +kernel
theorem dX5_readAtom_55 : decode cX5_readAtom 55 = .ok (.aload_n 0, 1) := by decide +kernel
theorem dX5_readAtom_56 : decode cX5_readAtom 56 = .ok (.getfield 25, 3) := by decide +kernel
theorem dX5_readAtom_59 : decode cX5_readAtom 59 = .ok (.invokevirtual 145, 3) := by decide +kernel
theorem dX5_readAtom_62 : decode cX5_readAtom 62 = .ok (.invokevirtual 128, 3) := by decide +kernel
theorem dX5_readAtom_65 : decode cX5_readAtom 65 = .ok (.goto 33, 3) := by decide +kernel
theorem dX5_readAtom_68 : decode cX5_readAtom 68 = .ok (.aload_n 0, 1) := by decide +kernel
theorem dX5_readAtom_69 : decode cX5_readAtom 69 = .ok (.getfield 29, 3) := by decide +kernel
theorem dX5_readAtom_72 : decode cX5_readAtom 72 = .ok (.aload_n 0, 1) := by decide +kernel
theorem dX5_readAtom_73 : decode cX5_readAtom 73 = .ok (.getfield 25, 3) := by decide +kernel
theorem dX5_readAtom_76 : decode cX5_readAtom 76 = .ok (.invokevirtual 86, 3) := by decide +kernel
theorem dX5_readAtom_79 : decode cX5_readAtom 79 = .ok (.aload_n 0, 1) := by decide +kernel
theorem dX5_readAtom_80 : decode cX5_readAtom 80 = .ok (.getfield 25, 3) := by decide +kernel
theorem dX5_readAtom_83 : decode cX5_readAtom 83 = .ok (.invokevirtual 83, 3) := by decide +kernel
theorem dX5_readAtom_86 : decode cX5_readAtom 86 = .ok (.invokevirtual 148, 3) := by decide +kernel
theorem dX5_readAtom_89 : decode cX5_readAtom 89 = .ok (.goto 9, 3) := by decide +kernel
theorem dX5_readAtom_92 : decode cX5_readAtom 92 = .ok (.aload_n 0, 1) := by decide +kernel
theorem dX5_readAtom_93 : decode cX5_readAtom 93 = .ok (.iload_n 1, 1) := by decide +kernel
theorem dX5_readAtom_94 : decode cX5_readAtom 94 = .ok (.invokevirtual 152, 3) := by decide +kernel
theorem dX5_readAtom_97 : decode cX5_readAtom 97 = .ok (.ireturn, 1) := by decide +kernel
theorem dX5_readAtom_98 : decode cX5_readAtom 98 = .ok (.aload_n 0, 1) := by decide +kernel
theorem dX5_readAtom_99 : decode cX5_readAtom 99 = .ok (.getfield 25, 3) := by decide +kernel
theorem dX5_readAtom_102 : decode cX5_readAtom 102 = .ok (.invokevirtual 94, 3) := by decide +kernel
theorem dX5_readAtom_105 : decode cX5_readAtom 105 = .ok (.iconst 1, 1) := by decide +kernel
theorem dX5_readAtom_106 : decode cX5_readAtom 106 = .ok (.ireturn, 1) := by decide +kernel
theorem dX5_readWithin_0 : decode cX5_readWithin 0 = .ok (.iload_n 1, 1) := by decide +kernel
theorem dX5_readWithin_1 : decode cX5_readWithin 1 = .ok (.bipush 12, 2) := by decide +kernel
theorem dX5_readWithin_3 : decode cX5_readWithin 3 = .ok (.if_icmp .lt 16, 3) := by decide +kernel
theorem dX5_readWithin_6 : decode cX5_readWithin 6 = .ok (.aload_n 0, 1) := by decide +kernel
theorem dX5_readWithin_7 : decode cX5_readWithin 7 = .ok (.iconst 3, 1) := by decide +kernel
theorem dX5_readWithin_8 : decode cX5_readWithin 8 = .ok (.aload_n 0, 1) := by decide +kernel
theorem dX5_readWithin_9 : decode cX5_readWithin 9 = .ok (.getfield 25, 3) := by decide +kernel
theorem dX5_readWithin_12 : decode cX5_readWithin 12 = .ok (.invokevirtual 83, 3) := by decide +kernel
theorem dX5_readWithin_15 : decode cX5_readWithin 15 = .ok (.invokevirtual 66, 3) := by decide +kernel
theorem dX5_readWithin_18 : decode cX5_readWithin 18 = .ok (.ireturn, 1) := by decide +kernel
theorem dX5_readWithin_19 : decode cX5_readWithin 19 = .ok (.aload_n 0, 1) := by decide +kernel
theorem dX5_readWithin_20 : decode cX5_readWithin 20 = .ok (.getfield 25, 3) := by decide +kernel
theorem dX5_readWithin_23 : decode cX5_readWithin 23 = .ok (.invokevirtual 94, 3) := by decide +kernel
theorem dX5_readWithin_26 : decode cX5_readWithin 26 = .ok (.aload_n 0, 1) := by decide +kernel
theorem dX5_readWithin_27 : decode cX5_readWithin 27 = .ok (.iload_n 1, 1) := by decide +kernel
theorem dX5_readWithin_28 : decode cX5_readWithin 28 = .ok (.iconst 1, 1) := by decide +kernel
theorem dX5_readWithin_29 : decode cX5_readWithin 29 = .ok (.iadd, 1) := by decide +kernel
theorem dX5_readWithin_30 : decode cX5_readWithin 30 = .ok (.invokevirtual 107, 3) := by decide +kernel
theorem dX5_readWithin_33 : decode cX5_readWithin 33 = .ok (.ifCond .eq 16, 3) := by decide +kernel
theorem dX5_readWithin_36 : decode cX5_readWithin 36 = .ok (.aload_n 0, 1) := by decide +kernel
theorem dX5_readWithin_37 : decode cX5_readWithin 37 = .ok (.bipush 9, 2) := by decide +kernel
theorem dX5_readWithin_39 : decode cX5_readWithin 39 = .ok (.invokevirtual 103, 3) := by decide +kernel
theorem dX5_readWithin_42 : decode cX5_readWithin 42 = .ok (.ifCond .eq 7, 3) := by decide +kernel
theorem dX5_readWithin_45 : decode cX5_readWithin 45 = .ok (.iconst 1, 1) := by decide +kernel
theorem dX5_readWithin_46 : decode cX5_readWithin 46 = .ok (.goto 4, 3) := by decide +kernel
theorem dX5_readWithin_49 : decode cX5_readWithin 49 = .ok (.iconst 0, 1) := by decide +kernel
theorem dX5_readWithin_50 : decode cX5_readWithin 50 = .ok (.ireturn, 1) := by decide +kernel
theorem dX5_take_0 : decode cX5_take 0 = .ok (.aload_n 0, 1) := by decide +kernel
theorem dX5_take_1 : decode cX5_take 1 = .ok (.getfield 25, 3) := by decide +kernel
theorem dX5_take_4 : decode cX5_take 4 = .ok (.invokevirtual 47, 3) := by decide +kernel
theorem dX5_take_7 : decode cX5_take 7 = .ok (.iload_n 1, 1) := by decide +kernel
theorem dX5_take_8 : decode cX5_take 8 = .ok (.if_icmp .eq 8, 3) := by decide +kernel
theorem dX5_take_11 : decode cX5_take 11 = .ok (.aload_n 0, 1) := by decide +kernel
theorem dX5_take_12 : decode cX5_take 12 = .ok (.invokevirtual 77, 3) := by decide +kernel
theorem dX5_take_15 : decode cX5_take 15 = .ok (.ireturn, 1) := by decide +kernel
theorem dX5_take_16 : decode cX5_take 16 = .ok (.aload_n 0, 1) := by decide +kernel
theorem dX5_take_17 : decode cX5_take 17 = .ok (.getfield 25, 3) := by decide +kernel
theorem dX5_take_20 : decode cX5_take 20 = .ok (.invokevirtual 94, 3) := by decide +kernel
theorem dX5_take_23 : decode cX5_take 23 = .ok (.iconst 1, 1) := by decide +kernel
theorem dX5_take_24 : decode cX5_take 24 = .ok (.ireturn, 1) := by decide +kernel
theorem dX5_cannotStand_0 : decode cX5_cannotStand 0 = .ok (.aload_n 0, 1) := by decide +kernel
theorem dX5_cannotStand_1 : decode cX5_cannotStand 1 = .ok (.getfield 25, 3) := by decide +kernel
theorem dX5_cannotStand_4 : decode cX5_cannotStand 4 = .ok (.invokevirtual 47, 3) := by decide +kernel
theorem dX5_cannotStand_7 : decode cX5_cannotStand 7 = .ok (.bipush 10, 2) := by decide +kernel
theorem dX5_cannotStand_9 : decode cX5_cannotStand 9 = .ok (.if_icmp .ne 7, 3) := by decide +kernel
theorem dX5_cannotStand_12 : decode cX5_cannotStand 12 = .ok (.iconst 1, 1) := by decide +kernel
theorem dX5_cannotStand_13 : decode cX5_cannotStand 13 = .ok (.goto 4, 3) := by decide +kernel
theorem dX5_cannotStand_16 : decode cX5_cannotStand 16 = .ok (.iconst 2, 1) := by decide +kernel
theorem dX5_cannotStand_17 : decode cX5_cannotStand 17 = .ok (.istore_n 1, 1) := by decide +kernel
theorem dX5_cannotStand_18 : decode cX5_cannotStand 18 = .ok (.aload_n 0, 1) := by decide +kernel
theorem dX5_cannotStand_19 : decode cX5_cannotStand 19 = .ok (.iload_n 1, 1) := by decide +kernel
theorem dX5_cannotStand_20 : decode cX5_cannotStand 20 = .ok (.aload_n 0, 1) := by decide +kernel
theorem dX5_cannotStand_21 : decode cX5_cannotStand 21 = .ok (.getfield 25, 3) := by decide +kernel
theorem dX5_cannotStand_24 : decode cX5_cannotStand 24 = .ok (.invokevirtual 83, 3) := by decide +kernel
theorem dX5_cannotStand_27 : decode cX5_cannotStand 27 = .ok (.invokevirtual 66, 3) := by decide +kernel
theorem dX5_cannotStand_30 : decode cX5_cannotStand 30 = .ok (.ireturn, 1) := by decide +kernel
theorem dX5_fail_0 : decode cX5_fail 0 = .ok (.aload_n 0, 1) := by decide +kernel
theorem dX5_fail_1 : decode cX5_fail 1 = .ok (.iload_n 1, 1) := by decide +kernel
theorem dX5_fail_2 : decode cX5_fail 2 = .ok (.putfield 18, 3) := by decide +kernel
theorem dX5_fail_5 : decode cX5_fail 5 = .ok (.aload_n 0, 1) := by decide +kernel
theorem dX5_fail_6 : decode cX5_fail 6 = .ok (.iload_n 2, 1) := by decide +kernel
theorem dX5_fail_7 : decode cX5_fail 7 = .ok (.putfield 22, 3) := by decide +kernel
theorem dX5_fail_10 : decode cX5_fail 10 = .ok (.iconst 0, 1) := by decide +kernel
theorem dX5_fail_11 : decode cX5_fail 11 = .ok (.ireturn, 1) := by decide +kernel
theorem dX5_has_0 : decode cX5_has 0 = .ok (.iload_n 1, 1) := by decide +kernel
theorem dX5_has_1 : decode cX5_has 1 = .ok (.ifCond .ge 7, 3) := by decide +kernel
theorem dX5_has_4 : decode cX5_has 4 = .ok (.iconst 0, 1) := by decide +kernel
theorem dX5_has_5 : decode cX5_has 5 = .ok (.goto 4, 3) := by decide +kernel
theorem dX5_has_8 : decode cX5_has 8 = .ok (.iload_n 1, 1) := by decide +kernel
theorem dX5_has_9 : decode cX5_has 9 = .ok (.istore 5, 2) := by decide +kernel
theorem dX5_has_11 : decode cX5_has 11 = .ok (.iload 5, 2) := by decide +kernel
theorem dX5_has_13 : decode cX5_has 13 = .ok (.iload_n 2, 1) := by decide +kernel
theorem dX5_has_14 : decode cX5_has 14 = .ok (.if_icmp .ge 27, 3) := by decide +kernel
theorem dX5_has_17 : decode cX5_has 17 = .ok (.iload 5, 2) := by decide +kernel
theorem dX5_has_19 : decode cX5_has 19 = .ok (.aload_n 0, 1) := by decide +kernel
theorem dX5_has_20 : decode cX5_has 20 = .ok (.arraylength, 1) := by decide +kernel
theorem dX5_has_21 : decode cX5_has 21 = .ok (.if_icmp .ge 20, 3) := by decide +kernel
theorem dX5_has_24 : decode cX5_has 24 = .ok (.aload_n 0, 1) := by decide +kernel
theorem dX5_has_25 : decode cX5_has 25 = .ok (.iload 5, 2) := by decide +kernel
theorem dX5_has_27 : decode cX5_has 27 = .ok (.laload, 1) := by decide +kernel
theorem dX5_has_28 : decode cX5_has 28 = .ok (.lload_n 3, 1) := by decide +kernel
theorem dX5_has_29 : decode cX5_has 29 = .ok (.lcmp, 1) := by decide +kernel
theorem dX5_has_30 : decode cX5_has 30 = .ok (.ifCond .ne 5, 3) := by decide +kernel
theorem dX5_has_33 : decode cX5_has 33 = .ok (.iconst 1, 1) := by decide +kernel
theorem dX5_has_34 : decode cX5_has 34 = .ok (.ireturn, 1) := by decide +kernel
theorem dX5_has_35 : decode cX5_has 35 = .ok (.iinc 5 1, 3) := by decide +kernel
theorem dX5_has_38 : decode cX5_has 38 = .ok (.goto (-27), 3) := by decide +kernel
theorem dX5_has_41 : decode cX5_has 41 = .ok (.iconst 0, 1) := by decide +kernel
theorem dX5_has_42 : decode cX5_has 42 = .ok (.ireturn, 1) := by decide +kernel
theorem dX6_init_0 : decode cX6_init 0 = .ok (.aload_n 0, 1) := by decide +kernel
theorem dX6_init_1 : decode cX6_init 1 = .ok (.invokespecial 3, 3) := by decide +kernel
theorem dX6_init_4 : decode cX6_init 4 = .ok (.aload_n 0, 1) := by decide +kernel
theorem dX6_init_5 : decode cX6_init 5 = .ok (.sipush 600, 3) := by decide +kernel
theorem dX6_init_8 : decode cX6_init 8 = .ok (.newarray .int, 2) := by decide +kernel
theorem dX6_init_10 : decode cX6_init 10 = .ok (.putfield 9, 3) := by decide +kernel
theorem dX6_init_13 : decode cX6_init 13 = .ok (.aload_n 0, 1) := by decide +kernel
theorem dX6_init_14 : decode cX6_init 14 = .ok (.sipush 600, 3) := by decide +kernel
theorem dX6_init_17 : decode cX6_init 17 = .ok (.newarray .int, 2) := by decide +kernel
theorem dX6_init_19 : decode cX6_init 19 = .ok (.putfield 15, 3) := by decide +kernel
theorem dX6_init_22 : decode cX6_init 22 = .ok (.aload_n 0, 1) := by decide +kernel
theorem dX6_init_23 : decode cX6_init 23 = .ok (.iconst 0, 1) := by decide +kernel
theorem dX6_init_24 : decode cX6_init 24 = .ok (.putfield 18, 3) := by decide +kernel
theorem dX6_init_27 : decode cX6_init 27 = .ok (.aload_n 0, 1) := by decide +kernel
theorem dX6_init_28 : decode cX6_init 28 = .ok (.iconst 0, 1) := by decide +kernel
theorem dX6_init_29 : decode cX6_init 29 = .ok (.putfield 22, 3) := by decide +kernel
theorem dX6_init_32 : decode cX6_init 32 = .ok (.return_, 1) := by decide +kernel
theorem dX6_begin_0 : decode cX6_begin 0 = .ok (.aload_n 0, 1) := by decide +kernel
theorem dX6_begin_1 : decode cX6_begin 1 = .ok (.iconst 0, 1) := by decide +kernel
theorem dX6_begin_2 : decode cX6_begin 2 = .ok (.putfield 18, 3) := by decide +kernel
theorem dX6_begin_5 : decode cX6_begin 5 = .ok (.aload_n 0, 1) := by decide +kernel
theorem dX6_begin_6 : decode cX6_begin 6 = .ok (.iconst 0, 1) := by decide +kernel
theorem dX6_begin_7 : decode cX6_begin 7 = .ok (.putfield 22, 3) := by decide +kernel
theorem dX6_begin_10 : decode cX6_begin 10 = .ok (.aload_n 0, 1) := by decide +kernel
theorem dX6_begin_11 : decode cX6_begin 11 = .ok (.getfield 15, 3) := by decide +kernel
theorem dX6_begin_14 : decode cX6_begin 14 = .ok (.iconst 0, 1) := by decide +kernel
theorem dX6_begin_15 : decode cX6_begin 15 = .ok (.iconst 0, 1) := by decide +kernel
theorem dX6_begin_16 : decode cX6_begin 16 = .ok (.iastore, 1) := by decide +kernel
theorem dX6_begin_17 : decode cX6_begin 17 = .ok (.aload_n 0, 1) := by decide +kernel
theorem dX6_begin_18 : decode cX6_begin 18 = .ok (.iload_n 1, 1) := by decide +kernel
theorem dX6_begin_19 : decode cX6_begin 19 = .ok (.invokevirtual 25, 3) := by decide +kernel
theorem dX6_begin_22 : decode cX6_begin 22 = .ok (.return_, 1) := by decide +kernel
theorem dX6_size_0 : decode cX6_size 0 = .ok (.aload_n 0, 1) := by decide +kernel
theorem dX6_size_1 : decode cX6_size 1 = .ok (.getfield 18, 3) := by decide +kernel
theorem dX6_size_4 : decode cX6_size 4 = .ok (.ireturn, 1) := by decide +kernel
theorem dX6_dumped_0 : decode cX6_dumped 0 = .ok (.aload_n 0, 1) := by decide +kernel
theorem dX6_dumped_1 : decode cX6_dumped 1 = .ok (.getfield 22, 3) := by decide +kernel
theorem dX6_dumped_4 : decode cX6_dumped 4 = .ok (.ireturn, 1) := by decide +kernel
theorem dX6_hasRoom_0 : decode cX6_hasRoom 0 = .ok (.aload_n 0, 1) := by decide +kernel
theorem dX6_hasRoom_1 : decode cX6_hasRoom 1 = .ok (.getfield 18, 3) := by decide +kernel
theorem dX6_hasRoom_4 : decode cX6_hasRoom 4 = .ok (.sipush 600, 3) := by decide +kernel
theorem dX6_hasRoom_7 : decode cX6_hasRoom 7 = .ok (.if_icmp .ge 7, 3) := by decide +kernel
theorem dX6_hasRoom_10 : decode cX6_hasRoom 10 = .ok (.iconst 1, 1) := by decide +kernel
theorem dX6_hasRoom_11 : decode cX6_hasRoom 11 = .ok (.goto 4, 3) := by decide +kernel
theorem dX6_hasRoom_14 : decode cX6_hasRoom 14 = .ok (.iconst 0, 1) := by decide +kernel
theorem dX6_hasRoom_15 : decode cX6_hasRoom 15 = .ok (.ireturn, 1) := by decide +kernel
theorem dX6_height_0 : decode cX6_height 0 = .ok (.aload_n 0, 1) := by decide +kernel
theorem dX6_height_1 : decode cX6_height 1 = .ok (.getfield 18, 3) := by decide +kernel
theorem dX6_height_4 : decode cX6_height 4 = .ok (.aload_n 0, 1) := by decide +kernel
theorem dX6_height_5 : decode cX6_height 5 = .ok (.aload_n 0, 1) := by decide +kernel
theorem dX6_height_6 : decode cX6_height 6 = .ok (.getfield 22, 3) := by decide +kernel
theorem dX6_height_9 : decode cX6_height 9 = .ok (.invokevirtual 29, 3) := by decide +kernel
theorem dX6_height_12 : decode cX6_height 12 = .ok (.isub, 1) := by decide +kernel
theorem dX6_height_13 : decode cX6_height 13 = .ok (.ireturn, 1) := by decide +kernel
theorem dX6_beginOf_0 : decode cX6_beginOf 0 = .ok (.iload_n 1, 1) := by decide +kernel
theorem dX6_beginOf_1 : decode cX6_beginOf 1 = .ok (.ifCond .lt 19, 3) := by decide +kernel
theorem dX6_beginOf_4 : decode cX6_beginOf 4 = .ok (.iload_n 1, 1) := by decide +kernel
theorem dX6_beginOf_5 : decode cX6_beginOf 5 = .ok (.sipush 600, 3) := by decide +kernel
theorem dX6_beginOf_8 : decode cX6_beginOf 8 = .ok (.if_icmp .ge 12, 3) := by decide +kernel
theorem dX6_beginOf_11 : decode cX6_beginOf 11 = .ok (.aload_n 0, 1) := by decide +kernel
theorem dX6_beginOf_12 : decode cX6_beginOf 12 = .ok (.getfield 15, 3) := by decide +kernel
theorem dX6_beginOf_15 : decode cX6_beginOf 15 = .ok (.iload_n 1, 1) := by decide +kernel
theorem dX6_beginOf_16 : decode cX6_beginOf 16 = .ok (.iaload, 1) := by decide +kernel
theorem dX6_beginOf_17 : decode cX6_beginOf 17 = .ok (.goto 4, 3) := by decide +kernel
theorem dX6_beginOf_20 : decode cX6_beginOf 20 = .ok (.iconst 0, 1) := by decide +kernel
theorem dX6_beginOf_21 : decode cX6_beginOf 21 = .ok (.ireturn, 1) := by decide +kernel
theorem dX6_at_0 : decode cX6_at 0 = .ok (.iload_n 1, 1) := by decide +kernel
theorem dX6_at_1 : decode cX6_at 1 = .ok (.ifCond .lt 27, 3) := by decide +kernel
theorem dX6_at_4 : decode cX6_at 4 = .ok (.iload_n 1, 1) := by decide +kernel
theorem dX6_at_5 : decode cX6_at 5 = .ok (.aload_n 0, 1) := by decide +kernel
theorem dX6_at_6 : decode cX6_at 6 = .ok (.getfield 18, 3) := by decide +kernel
theorem dX6_at_9 : decode cX6_at 9 = .ok (.if_icmp .ge 19, 3) := by decide +kernel
theorem dX6_at_12 : decode cX6_at 12 = .ok (.iload_n 1, 1) := by decide +kernel
theorem dX6_at_13 : decode cX6_at 13 = .ok (.sipush 600, 3) := by decide +kernel
theorem dX6_at_16 : decode cX6_at 16 = .ok (.if_icmp .ge 12, 3) := by decide +kernel
theorem dX6_at_19 : decode cX6_at 19 = .ok (.aload_n 0, 1) := by decide +kernel
theorem dX6_at_20 : decode cX6_at 20 = .ok (.getfield 9, 3) := by decide +kernel
theorem dX6_at_23 : decode cX6_at 23 = .ok (.iload_n 1, 1) := by decide +kernel
theorem dX6_at_24 : decode cX6_at 24 = .ok (.iaload, 1) := by decide +kernel
theorem dX6_at_25 : decode cX6_at 25 = .ok (.goto 4, 3) := by decide +kernel
theorem dX6_at_28 : decode cX6_at 28 = .ok (.iconst (-1), 1) := by decide +kernel
theorem dX6_at_29 : decode cX6_at 29 = .ok (.ireturn, 1) := by decide +kernel
theorem dX6_fromTop_0 : decode cX6_fromTop 0 = .ok (.iload_n 1, 1) := by decide +kernel
theorem dX6_fromTop_1 : decode cX6_fromTop 1 = .ok (.ifCond .lt 26, 3) := by decide +kernel
theorem dX6_fromTop_4 : decode cX6_fromTop 4 = .ok (.iload_n 1, 1) := by decide +kernel
theorem dX6_fromTop_5 : decode cX6_fromTop 5 = .ok (.aload_n 0, 1) := by decide +kernel
theorem dX6_fromTop_6 : decode cX6_fromTop 6 = .ok (.invokevirtual 33, 3) := by decide +kernel
theorem dX6_fromTop_9 : decode cX6_fromTop 9 = .ok (.if_icmp .ge 18, 3) := by decide +kernel
theorem dX6_fromTop_12 : decode cX6_fromTop 12 = .ok (.aload_n 0, 1) := by decide +kernel
theorem dX6_fromTop_13 : decode cX6_fromTop 13 = .ok (.aload_n 0, 1) := by decide +kernel
theorem dX6_fromTop_14 : decode cX6_fromTop 14 = .ok (.getfield 18, 3) := by decide +kernel
theorem dX6_fromTop_17 : decode cX6_fromTop 17 = .ok (.iconst 1, 1) := by decide +kernel
theorem dX6_fromTop_18 : decode cX6_fromTop 18 = .ok (.isub, 1) := by decide +kernel
theorem dX6_fromTop_19 : decode cX6_fromTop 19 = .ok (.iload_n 1, 1) := by decide +kernel
theorem dX6_fromTop_20 : decode cX6_fromTop 20 = .ok (.isub, 1) := by decide +kernel
theorem dX6_fromTop_21 : decode cX6_fromTop 21 = .ok (.invokevirtual 37, 3) := by decide +kernel
theorem dX6_fromTop_24 : decode cX6_fromTop 24 = .ok (.goto 4, 3) := by decide +kernel
theorem dX6_fromTop_27 : decode cX6_fromTop 27 = .ok (.iconst (-1), 1) := by decide +kernel
theorem dX6_fromTop_28 : decode cX6_fromTop 28 = .ok (.ireturn, 1) := by decide +kernel
theorem dX6_topOfDumped_0 : decode cX6_topOfDumped 0 = .ok (.iload_n 1, 1) := by decide +kernel
theorem dX6_topOfDumped_1 : decode cX6_topOfDumped 1 = .ok (.ifCond .lt 30, 3) := by decide +kernel
theorem dX6_topOfDumped_4 : decode cX6_topOfDumped 4 = .ok (.iload_n 1, 1) := by decide +kernel
theorem dX6_topOfDumped_5 : decode cX6_topOfDumped 5 = .ok (.aload_n 0, 1) := by decide +kernel
theorem dX6_topOfDumped_6 : decode cX6_topOfDumped 6 = .ok (.getfield 22, 3) := by decide +kernel
theorem dX6_topOfDumped_9 : decode cX6_topOfDumped 9 = .ok (.if_icmp .ge 22, 3) := by decide +kernel
theorem dX6_topOfDumped_12 : decode cX6_topOfDumped 12 = .ok (.aload_n 0, 1) := by decide +kernel
theorem dX6_topOfDumped_13 : decode cX6_topOfDumped 13 = .ok (.aload_n 0, 1) := by decide +kernel
theorem dX6_topOfDumped_14 : decode cX6_topOfDumped 14 = .ok (.aload_n 0, 1) := by decide +kernel
theorem dX6_topOfDumped_15 : decode cX6_topOfDumped 15 = .ok (.getfield 22, 3) := by decide +kernel
theorem dX6_topOfDumped_18 : decode cX6_topOfDumped 18 = .ok (.iload_n 1, 1) := by decide +kernel
theorem dX6_topOfDumped_19 : decode cX6_topOfDumped 19 = .ok (.isub, 1) := by decide +kernel
theorem dX6_topOfDumped_20 : decode cX6_topOfDumped 20 = .ok (.invokevirtual 29, 3) := by decide +kernel
theorem dX6_topOfDumped_23 : decode cX6_topOfDumped 23 = .ok (.iconst 1, 1) := by decide +kernel
theorem dX6_topOfDumped_24 : decode cX6_topOfDumped 24 = .ok (.isub, 1) := by decide +kernel
theorem dX6_topOfDumped_25 : decode cX6_topOfDumped 25 = .ok (.invokevirtual 37, 3) := by decide +kernel
theorem dX6_topOfDumped_28 : decode cX6_topOfDumped 28 = .ok (.goto 4, 3) := by decide +kernel
theorem dX6_topOfDumped_31 : decode cX6_topOfDumped 31 = .ok (.iconst (-1), 1) := by decide +kernel
theorem dX6_topOfDumped_32 : decode cX6_topOfDumped 32 = .ok (.ireturn, 1) := by decide +kernel
theorem dX6_push_0 : decode cX6_push 0 = .ok (.aload_n 0, 1) := by decide +kernel
theorem dX6_push_1 : decode cX6_push 1 = .ok (.getfield 18, 3) := by decide +kernel
theorem dX6_push_4 : decode cX6_push 4 = .ok (.ifCond .lt 33, 3) := by decide +kernel
theorem dX6_push_7 : decode cX6_push 7 = .ok (.aload_n 0, 1) := by decide +kernel
theorem dX6_push_8 : decode cX6_push 8 = .ok (.getfield 18, 3) := by decide +kernel
theorem dX6_push_11 : decode cX6_push 11 = .ok (.sipush 600, 3) := by decide +kernel
theorem dX6_push_14 : decode cX6_push 14 = .ok (.if_icmp .ge 23, 3) := by decide +kernel
theorem dX6_push_17 : decode cX6_push 17 = .ok (.aload_n 0, 1) := by decide +kernel
theorem dX6_push_18 : decode cX6_push 18 = .ok (.getfield 9, 3) := by decide +kernel
theorem dX6_push_21 : decode cX6_push 21 = .ok (.aload_n 0, 1) := by decide +kernel
theorem dX6_push_22 : decode cX6_push 22 = .ok (.getfield 18, 3) := by decide +kernel
theorem dX6_push_25 : decode cX6_push 25 = .ok (.iload_n 1, 1) := by decide +kernel
theorem dX6_push_26 : decode cX6_push 26 = .ok (.iastore, 1) := by decide +kernel
theorem dX6_push_27 : decode cX6_push 27 = .ok (.aload_n 0, 1) := by decide +kernel
theorem dX6_push_28 : decode cX6_push 28 = .ok (.dup, 1) := by decide +kernel
theorem dX6_push_29 : decode cX6_push 29 = .ok (.getfield 18, 3) := by decide +kernel
theorem dX6_push_32 : decode cX6_push 32 = .ok (.iconst 1, 1) := by decide +kernel
theorem dX6_push_33 : decode cX6_push 33 = .ok (.iadd, 1) := by decide +kernel
theorem dX6_push_34 : decode cX6_push 34 = .ok (.putfield 18, 3) := by decide +kernel
theorem dX6_push_37 : decode cX6_push 37 = .ok (.return_, 1) := by decide +kernel
theorem dX6_pop_0 : decode cX6_pop 0 = .ok (.aload_n 0, 1) := by decide +kernel
theorem dX6_pop_1 : decode cX6_pop 1 = .ok (.dup, 1) := by decide +kernel
theorem dX6_pop_2 : decode cX6_pop 2 = .ok (.getfield 18, 3) := by decide +kernel
theorem dX6_pop_5 : decode cX6_pop 5 = .ok (.iload_n 1, 1) := by decide +kernel
theorem dX6_pop_6 : decode cX6_pop 6 = .ok (.aload_n 0, 1) := by decide +kernel
theorem dX6_pop_7 : decode cX6_pop 7 = .ok (.invokevirtual 33, 3) := by decide +kernel
theorem dX6_pop_10 : decode cX6_pop 10 = .ok (.if_icmp .ge 7, 3) := by decide +kernel
theorem dX6_pop_13 : decode cX6_pop 13 = .ok (.iload_n 1, 1) := by decide +kernel
theorem dX6_pop_14 : decode cX6_pop 14 = .ok (.goto 7, 3) := by decide +kernel
theorem dX6_pop_17 : decode cX6_pop 17 = .ok (.aload_n 0, 1) := by decide +kernel
theorem dX6_pop_18 : decode cX6_pop 18 = .ok (.invokevirtual 33, 3) := by decide +kernel
theorem dX6_pop_21 : decode cX6_pop 21 = .ok (.isub, 1) := by decide +kernel
theorem dX6_pop_22 : decode cX6_pop 22 = .ok (.putfield 18, 3) := by decide +kernel
theorem dX6_pop_25 : decode cX6_pop 25 = .ok (.return_, 1) := by decide +kernel
theorem dX6_putOnDump_0 : decode cX6_putOnDump 0 = .ok (.aload_n 0, 1) := by decide +kernel
theorem dX6_putOnDump_1 : decode cX6_putOnDump 1 = .ok (.invokevirtual 40, 3) := by decide +kernel
theorem dX6_putOnDump_4 : decode cX6_putOnDump 4 = .ok (.ifCond .eq 48, 3) := by decide +kernel
theorem dX6_putOnDump_7 : decode cX6_putOnDump 7 = .ok (.aload_n 0, 1) := by decide +kernel
theorem dX6_putOnDump_8 : decode cX6_putOnDump 8 = .ok (.getfield 22, 3) := by decide +kernel
theorem dX6_putOnDump_11 : decode cX6_putOnDump 11 = .ok (.ifCond .lt 41, 3) := by decide +kernel
theorem dX6_putOnDump_14 : decode cX6_putOnDump 14 = .ok (.aload_n 0, 1) := by decide +kernel
theorem dX6_putOnDump_15 : decode cX6_putOnDump 15 = .ok (.getfield 22, 3) := by decide +kernel
theorem dX6_putOnDump_18 : decode cX6_putOnDump 18 = .ok (.sipush 599, 3) := by decide +kernel
theorem dX6_putOnDump_21 : decode cX6_putOnDump 21 = .ok (.if_icmp .ge 31, 3) := by decide +kernel
theorem dX6_putOnDump_24 : decode cX6_putOnDump 24 = .ok (.aload_n 0, 1) := by decide +kernel
theorem dX6_putOnDump_25 : decode cX6_putOnDump 25 = .ok (.dup, 1) := by decide +kernel
theorem dX6_putOnDump_26 : decode cX6_putOnDump 26 = .ok (.getfield 22, 3) := by decide +kernel
theorem dX6_putOnDump_29 : decode cX6_putOnDump 29 = .ok (.iconst 1, 1) := by decide +kernel
theorem dX6_putOnDump_30 : decode cX6_putOnDump 30 = .ok (.iadd, 1) := by decide +kernel
theorem dX6_putOnDump_31 : decode cX6_putOnDump 31 = .ok (.putfield 22, 3) := by decide +kernel
theorem dX6_putOnDump_34 : decode cX6_putOnDump 34 = .ok (.aload_n 0, 1) := by decide +kernel
theorem dX6_putOnDump_35 : decode cX6_putOnDump 35 = .ok (.getfield 15, 3) := by decide +kernel
theorem dX6_putOnDump_38 : decode cX6_putOnDump 38 = .ok (.aload_n 0, 1) := by decide +kernel
theorem dX6_putOnDump_39 : decode cX6_putOnDump 39 = .ok (.getfield 22, 3) := by decide +kernel
theorem dX6_putOnDump_42 : decode cX6_putOnDump 42 = .ok (.aload_n 0, 1) := by decide +kernel
theorem dX6_putOnDump_43 : decode cX6_putOnDump 43 = .ok (.getfield 18, 3) := by decide +kernel
theorem dX6_putOnDump_46 : decode cX6_putOnDump 46 = .ok (.iastore, 1) := by decide +kernel
theorem dX6_putOnDump_47 : decode cX6_putOnDump 47 = .ok (.aload_n 0, 1) := by decide +kernel
theorem dX6_putOnDump_48 : decode cX6_putOnDump 48 = .ok (.iload_n 1, 1) := by decide +kernel
theorem dX6_putOnDump_49 : decode cX6_putOnDump 49 = .ok (.invokevirtual 25, 3) := by decide +kernel
theorem dX6_putOnDump_52 : decode cX6_putOnDump 52 = .ok (.return_, 1) := by decide +kernel
theorem dX6_takeFromDump_0 : decode cX6_takeFromDump 0 = .ok (.aload_n 0, 1) := by decide +kernel
theorem dX6_takeFromDump_1 : decode cX6_takeFromDump 1 = .ok (.getfield 22, 3) := by decide +kernel
theorem dX6_takeFromDump_4 : decode cX6_takeFromDump 4 = .ok (.ifCond .le 25, 3) := by decide +kernel
theorem dX6_takeFromDump_7 : decode cX6_takeFromDump 7 = .ok (.aload_n 0, 1) := by decide +kernel
theorem dX6_takeFromDump_8 : decode cX6_takeFromDump 8 = .ok (.aload_n 0, 1) := by decide +kernel
theorem dX6_takeFromDump_9 : decode cX6_takeFromDump 9 = .ok (.aload_n 0, 1) := by decide +kernel
theorem dX6_takeFromDump_10 : decode cX6_takeFromDump 10 = .ok (.getfield 22, 3) := by decide +kernel
theorem dX6_takeFromDump_13 : decode cX6_takeFromDump 13 = .ok (.invokevirtual 29, 3) := by decide +kernel
theorem dX6_takeFromDump_16 : decode cX6_takeFromDump 16 = .ok (.putfield 18, 3) := by decide +kernel
theorem dX6_takeFromDump_19 : decode cX6_takeFromDump 19 = .ok (.aload_n 0, 1) := by decide +kernel
theorem dX6_takeFromDump_20 : decode cX6_takeFromDump 20 = .ok (.dup, 1) := by decide +kernel
theorem dX6_takeFromDump_21 : decode cX6_takeFromDump 21 = .ok (.getfield 22, 3) := by decide +kernel
theorem dX6_takeFromDump_24 : decode cX6_takeFromDump 24 = .ok (.iconst 1, 1) := by decide +kernel
theorem dX6_takeFromDump_25 : decode cX6_takeFromDump 25 = .ok (.isub, 1) := by decide +kernel
theorem dX6_takeFromDump_26 : decode cX6_takeFromDump 26 = .ok (.putfield 22, 3) := by decide +kernel
theorem dX6_takeFromDump_29 : decode cX6_takeFromDump 29 = .ok (.return_, 1) := by decide +kernel
theorem dX6_hasAsLowest_0 : decode cX6_hasAsLowest 0 = .ok (.iconst 0, 1) := by decide +kernel
theorem dX6_hasAsLowest_1 : decode cX6_hasAsLowest 1 = .ok (.istore_n 2, 1) := by decide +kernel
theorem dX6_hasAsLowest_2 : decode cX6_hasAsLowest 2 = .ok (.iload_n 2, 1) := by decide +kernel
theorem dX6_hasAsLowest_3 : decode cX6_hasAsLowest 3 = .ok (.aload_n 0, 1) := by decide +kernel
theorem dX6_hasAsLowest_4 : decode cX6_hasAsLowest 4 = .ok (.getfield 22, 3) := by decide +kernel
theorem dX6_hasAsLowest_7 : decode cX6_hasAsLowest 7 = .ok (.if_icmp .gt 24, 3) := by decide +kernel
theorem dX6_hasAsLowest_10 : decode cX6_hasAsLowest 10 = .ok (.aload_n 0, 1) := by decide +kernel
theorem dX6_hasAsLowest_11 : decode cX6_hasAsLowest 11 = .ok (.aload_n 0, 1) := by decide +kernel
theorem dX6_hasAsLowest_12 : decode cX6_hasAsLowest 12 = .ok (.iload_n 2, 1) := by decide +kernel
theorem dX6_hasAsLowest_13 : decode cX6_hasAsLowest 13 = .ok (.invokevirtual 29, 3) := by decide +kernel
theorem dX6_hasAsLowest_16 : decode cX6_hasAsLowest 16 = .ok (.invokevirtual 37, 3) := by decide +kernel
theorem dX6_hasAsLowest_19 : decode cX6_hasAsLowest 19 = .ok (.iload_n 1, 1) := by decide +kernel
theorem dX6_hasAsLowest_20 : decode cX6_hasAsLowest 20 = .ok (.if_icmp .ne 5, 3) := by decide +kernel
theorem dX6_hasAsLowest_23 : decode cX6_hasAsLowest 23 = .ok (.iconst 1, 1) := by decide +kernel
theorem dX6_hasAsLowest_24 : decode cX6_hasAsLowest 24 = .ok (.ireturn, 1) := by decide +kernel
theorem dX6_hasAsLowest_25 : decode cX6_hasAsLowest 25 = .ok (.iinc 2 1, 3) := by decide +kernel
theorem dX6_hasAsLowest_28 : decode cX6_hasAsLowest 28 = .ok (.goto (-26), 3) := by decide +kernel
theorem dX6_hasAsLowest_31 : decode cX6_hasAsLowest 31 = .ok (.iconst 0, 1) := by decide +kernel
theorem dX6_hasAsLowest_32 : decode cX6_hasAsLowest 32 = .ok (.ireturn, 1) := by decide +kernel
theorem dX7_init_0 : decode cX7_init 0 = .ok (.aload_n 0, 1) := by decide +kernel
theorem dX7_init_1 : decode cX7_init 1 = .ok (.invokespecial 3, 3) := by decide +kernel
theorem dX7_init_4 : decode cX7_init 4 = .ok (.aload_n 0, 1) := by decide +kernel
theorem dX7_init_5 : decode cX7_init 5 = .ok (.sipush 800, 3) := by decide +kernel
theorem dX7_init_8 : decode cX7_init 8 = .ok (.newarray .byte, 2) := by decide +kernel
theorem dX7_init_10 : decode cX7_init 10 = .ok (.putfield 9, 3) := by decide +kernel
theorem dX7_init_13 : decode cX7_init 13 = .ok (.aload_n 0, 1) := by decide +kernel
theorem dX7_init_14 : decode cX7_init 14 = .ok (.iconst 0, 1) := by decide +kernel
theorem dX7_init_15 : decode cX7_init 15 = .ok (.putfield 15, 3) := by decide +kernel
theorem dX7_init_18 : decode cX7_init 18 = .ok (.return_, 1) := by decide +kernel
theorem dX7_size_0 : decode cX7_size 0 = .ok (.aload_n 0, 1) := by decide +kernel
theorem dX7_size_1 : decode cX7_size 1 = .ok (.getfield 15, 3) := by decide +kernel
theorem dX7_size_4 : decode cX7_size 4 = .ok (.ireturn, 1) := by decide +kernel
theorem dX7_put_0 : decode cX7_put 0 = .ok (.bipush 24, 2) := by decide +kernel
theorem dX7_put_2 : decode cX7_put 2 = .ok (.istore_n 2, 1) := by decide +kernel
theorem dX7_put_3 : decode cX7_put 3 = .ok (.iload_n 2, 1) := by decide +kernel
theorem dX7_put_4 : decode cX7_put 4 = .ok (.ifCond .lt 44, 3) := by decide +kernel
theorem dX7_put_7 : decode cX7_put 7 = .ok (.aload_n 0, 1) := by decide +kernel
theorem dX7_put_8 : decode cX7_put 8 = .ok (.getfield 15, 3) := by decide +kernel
theorem dX7_put_11 : decode cX7_put 11 = .ok (.aload_n 0, 1) := by decide +kernel
theorem dX7_put_12 : decode cX7_put 12 = .ok (.getfield 9, 3) := by decide +kernel
theorem dX7_put_15 : decode cX7_put 15 = .ok (.arraylength, 1) := by decide +kernel
theorem dX7_put_16 : decode cX7_put 16 = .ok (.if_icmp .ge 32, 3) := by decide +kernel
theorem dX7_put_19 : decode cX7_put 19 = .ok (.aload_n 0, 1) := by decide +kernel
theorem dX7_put_20 : decode cX7_put 20 = .ok (.getfield 9, 3) := by decide +kernel
theorem dX7_put_23 : decode cX7_put 23 = .ok (.aload_n 0, 1) := by decide +kernel
theorem dX7_put_24 : decode cX7_put 24 = .ok (.getfield 15, 3) := by decide +kernel
theorem dX7_put_27 : decode cX7_put 27 = .ok (.iload_n 1, 1) := by decide +kernel
theorem dX7_put_28 : decode cX7_put 28 = .ok (.iload_n 2, 1) := by decide +kernel
theorem dX7_put_29 : decode cX7_put 29 = .ok (.ishr, 1) := by decide +kernel
theorem dX7_put_30 : decode cX7_put 30 = .ok (.i2b, 1) := by decide +kernel
theorem dX7_put_31 : decode cX7_put 31 = .ok (.bastore, 1) := by decide +kernel
theorem dX7_put_32 : decode cX7_put 32 = .ok (.aload_n 0, 1) := by decide +kernel
theorem dX7_put_33 : decode cX7_put 33 = .ok (.dup, 1) := by decide +kernel
theorem dX7_put_34 : decode cX7_put 34 = .ok (.getfield 15, 3) := by decide +kernel
theorem dX7_put_37 : decode cX7_put 37 = .ok (.iconst 1, 1) := by decide +kernel
theorem dX7_put_38 : decode cX7_put 38 = .ok (.iadd, 1) := by decide +kernel
theorem dX7_put_39 : decode cX7_put 39 = .ok (.putfield 15, 3) := by decide +kernel
theorem dX7_put_42 : decode cX7_put 42 = .ok (.iinc 2 (-8), 3) := by decide +kernel
theorem dX7_put_45 : decode cX7_put 45 = .ok (.goto (-42), 3) := by decide +kernel
theorem dX7_put_48 : decode cX7_put 48 = .ok (.return_, 1) := by decide +kernel
theorem dX7_keepFirst_0 : decode cX7_keepFirst 0 = .ok (.aload_n 0, 1) := by decide +kernel
theorem dX7_keepFirst_1 : decode cX7_keepFirst 1 = .ok (.getfield 15, 3) := by decide +kernel
theorem dX7_keepFirst_4 : decode cX7_keepFirst 4 = .ok (.iload_n 1, 1) := by decide +kernel
theorem dX7_keepFirst_5 : decode cX7_keepFirst 5 = .ok (.isub, 1) := by decide +kernel
theorem dX7_keepFirst_6 : decode cX7_keepFirst 6 = .ok (.istore_n 2, 1) := by decide +kernel
theorem dX7_keepFirst_7 : decode cX7_keepFirst 7 = .ok (.aload_n 0, 1) := by decide +kernel
theorem dX7_keepFirst_8 : decode cX7_keepFirst 8 = .ok (.iload_n 1, 1) := by decide +kernel
theorem dX7_keepFirst_9 : decode cX7_keepFirst 9 = .ok (.putfield 15, 3) := by decide +kernel
theorem dX7_keepFirst_12 : decode cX7_keepFirst 12 = .ok (.iload_n 2, 1) := by decide +kernel
theorem dX7_keepFirst_13 : decode cX7_keepFirst 13 = .ok (.ireturn, 1) := by decide +kernel
theorem dX7_byteAt_0 : decode cX7_byteAt 0 = .ok (.iload_n 1, 1) := by decide +kernel
theorem dX7_byteAt_1 : decode cX7_byteAt 1 = .ok (.ifCond .lt 20, 3) := by decide +kernel
theorem dX7_byteAt_4 : decode cX7_byteAt 4 = .ok (.iload_n 1, 1) := by decide +kernel
theorem dX7_byteAt_5 : decode cX7_byteAt 5 = .ok (.aload_n 0, 1) := by decide +kernel
theorem dX7_byteAt_6 : decode cX7_byteAt 6 = .ok (.getfield 15, 3) := by decide +kernel
theorem dX7_byteAt_9 : decode cX7_byteAt 9 = .ok (.if_icmp .ge 12, 3) := by decide +kernel
theorem dX7_byteAt_12 : decode cX7_byteAt 12 = .ok (.iload_n 1, 1) := by decide +kernel
theorem dX7_byteAt_13 : decode cX7_byteAt 13 = .ok (.aload_n 0, 1) := by decide +kernel
theorem dX7_byteAt_14 : decode cX7_byteAt 14 = .ok (.getfield 9, 3) := by decide +kernel
theorem dX7_byteAt_17 : decode cX7_byteAt 17 = .ok (.arraylength, 1) := by decide +kernel
theorem dX7_byteAt_18 : decode cX7_byteAt 18 = .ok (.if_icmp .lt 5, 3) := by decide +kernel
theorem dX7_byteAt_21 : decode cX7_byteAt 21 = .ok (.iconst (-1), 1) := by decide +kernel
theorem dX7_byteAt_22 : decode cX7_byteAt 22 = .ok (.ireturn, 1) := by decide +kernel
theorem dX7_byteAt_23 : decode cX7_byteAt 23 = .ok (.aload_n 0, 1) := by decide +kernel
theorem dX7_byteAt_24 : decode cX7_byteAt 24 = .ok (.getfield 9, 3) := by decide +kernel
theorem dX7_byteAt_27 : decode cX7_byteAt 27 = .ok (.iload_n 1, 1) := by decide +kernel
theorem dX7_byteAt_28 : decode cX7_byteAt 28 = .ok (.baload, 1) := by decide +kernel
theorem dX7_byteAt_29 : decode cX7_byteAt 29 = .ok (.sipush 255, 3) := by decide +kernel
theorem dX7_byteAt_32 : decode cX7_byteAt 32 = .ok (.iand, 1) := by decide +kernel
theorem dX7_byteAt_33 : decode cX7_byteAt 33 = .ok (.ireturn, 1) := by decide +kernel
theorem dX8_init_0 : decode cX8_init 0 = .ok (.aload_n 0, 1) := by decide +kernel
theorem dX8_init_1 : decode cX8_init 1 = .ok (.invokespecial 3, 3) := by decide +kernel
theorem dX8_init_4 : decode cX8_init 4 = .ok (.aload_n 0, 1) := by decide +kernel
theorem dX8_init_5 : decode cX8_init 5 = .ok (.bipush 15, 2) := by decide +kernel
theorem dX8_init_7 : decode cX8_init 7 = .ok (.newarray .long, 2) := by decide +kernel
theorem dX8_init_9 : decode cX8_init 9 = .ok (.putfield 11, 3) := by decide +kernel
theorem dX8_init_12 : decode cX8_init 12 = .ok (.aload_n 0, 1) := by decide +kernel
theorem dX8_init_13 : decode cX8_init 13 = .ok (.iconst 0, 1) := by decide +kernel
theorem dX8_init_14 : decode cX8_init 14 = .ok (.putfield 15, 3) := by decide +kernel
theorem dX8_init_17 : decode cX8_init 17 = .ok (.aload_n 0, 1) := by decide +kernel
theorem dX8_init_18 : decode cX8_init 18 = .ok (.iconst 0, 1) := by decide +kernel
theorem dX8_init_19 : decode cX8_init 19 = .ok (.putfield 19, 3) := by decide +kernel
theorem dX8_init_22 : decode cX8_init 22 = .ok (.aload_n 0, 1) := by decide +kernel
theorem dX8_init_23 : decode cX8_init 23 = .ok (.iconst 0, 1) := by decide +kernel
theorem dX8_init_24 : decode cX8_init 24 = .ok (.putfield 22, 3) := by decide +kernel
theorem dX8_init_27 : decode cX8_init 27 = .ok (.aload_n 0, 1) := by decide +kernel
theorem dX8_init_28 : decode cX8_init 28 = .ok (.iconst 0, 1) := by decide +kernel
theorem dX8_init_29 : decode cX8_init 29 = .ok (.putfield 25, 3) := by decide +kernel
theorem dX8_init_32 : decode cX8_init 32 = .ok (.aload_n 0, 1) := by decide +kernel
theorem dX8_init_33 : decode cX8_init 33 = .ok (.lconst 0, 1) := by decide +kernel
theorem dX8_init_34 : decode cX8_init 34 = .ok (.putfield 28, 3) := by decide +kernel
theorem dX8_init_37 : decode cX8_init 37 = .ok (.aload_n 0, 1) := by decide +kernel
theorem dX8_init_38 : decode cX8_init 38 = .ok (.aload_n 1, 1) := by decide +kernel
theorem dX8_init_39 : decode cX8_init 39 = .ok (.putfield 32, 3) := by decide +kernel
theorem dX8_init_42 : decode cX8_init 42 = .ok (.iconst 0, 1) := by decide +kernel
theorem dX8_init_43 : decode cX8_init 43 = .ok (.istore_n 2, 1) := by decide +kernel
theorem dX8_init_44 : decode cX8_init 44 = .ok (.lconst 0, 1) := by decide +kernel
theorem dX8_init_45 : decode cX8_init 45 = .ok (.lstore_n 3, 1) := by decide +kernel
theorem dX8_init_46 : decode cX8_init 46 = .ok (.iconst 0, 1) := by decide +kernel
theorem dX8_init_47 : decode cX8_init 47 = .ok (.istore 5, 2) := by decide +kernel
theorem dX8_init_49 : decode cX8_init 49 = .ok (.iload 5, 2) := by decide +kernel
theorem dX8_init_51 : decode cX8_init 51 = .ok (.ldc 36, 2) := by decide +kernel
theorem dX8_init_53 : decode cX8_init 53 = .ok (.invokevirtual 38, 3) := by decide +kernel
theorem dX8_init_56 : decode cX8_init 56 = .ok (.if_icmp .ge 58, 3) := by decide +kernel
theorem dX8_init_59 : decode cX8_init 59 = .ok (.iload_n 2, 1) := by decide +kernel
theorem dX8_init_60 : decode cX8_init 60 = .ok (.aload_n 0, 1) := by decide +kernel
theorem dX8_init_61 : decode cX8_init 61 = .ok (.getfield 11, 3) := by decide +kernel
theorem dX8_init_64 : decode cX8_init 64 = .ok (.arraylength, 1) := by decide +kernel
theorem dX8_init_65 : decode cX8_init 65 = .ok (.if_icmp .ge 49, 3) := by decide +kernel
theorem dX8_init_68 : decode cX8_init 68 = .ok (.ldc 36, 2) := by decide +kernel
theorem dX8_init_70 : decode cX8_init 70 = .ok (.iload 5, 2) := by decide +kernel
theorem dX8_init_72 : decode cX8_init 72 = .ok (.invokevirtual 44, 3) := by decide +kernel
theorem dX8_init_75 : decode cX8_init 75 = .ok (.istore 6, 2) := by decide +kernel
theorem dX8_init_77 : decode cX8_init 77 = .ok (.iload 6, 2) := by decide +kernel
theorem dX8_init_79 : decode cX8_init 79 = .ok (.bipush 32, 2) := by decide +kernel
theorem dX8_init_81 : decode cX8_init 81 = .ok (.if_icmp .ne 18, 3) := by decide +kernel
theorem dX8_init_84 : decode cX8_init 84 = .ok (.aload_n 0, 1) := by decide +kernel
theorem dX8_init_85 : decode cX8_init 85 = .ok (.getfield 11, 3) := by decide +kernel
theorem dX8_init_88 : decode cX8_init 88 = .ok (.iload_n 2, 1) := by decide +kernel
theorem dX8_init_89 : decode cX8_init 89 = .ok (.lload_n 3, 1) := by decide +kernel
theorem dX8_init_90 : decode cX8_init 90 = .ok (.lastore, 1) := by decide +kernel
theorem dX8_init_91 : decode cX8_init 91 = .ok (.iinc 2 1, 3) := by decide +kernel
theorem dX8_init_94 : decode cX8_init 94 = .ok (.lconst 0, 1) := by decide +kernel
theorem dX8_init_95 : decode cX8_init 95 = .ok (.lstore_n 3, 1) := by decide +kernel
theorem dX8_init_96 : decode cX8_init 96 = .ok (.goto 12, 3) := by decide +kernel
theorem dX8_init_99 : decode cX8_init 99 = .ok (.lload_n 3, 1) := by decide +kernel
theorem dX8_init_100 : decode cX8_init 100 = .ok (.bipush 8, 2) := by decide +kernel
theorem dX8_init_102 : decode cX8_init 102 = .ok (.lshl, 1) := by decide +kernel
theorem dX8_init_103 : decode cX8_init 103 = .ok (.iload 6, 2) := by decide +kernel
theorem dX8_init_105 : decode cX8_init 105 = .ok (.i2l, 1) := by decide +kernel
theorem dX8_init_106 : decode cX8_init 106 = .ok (.lor, 1) := by decide +kernel
theorem dX8_init_107 : decode cX8_init 107 = .ok (.lstore_n 3, 1) := by decide +kernel
theorem dX8_init_108 : decode cX8_init 108 = .ok (.iinc 5 1, 3) := by decide +kernel
theorem dX8_init_111 : decode cX8_init 111 = .ok (.goto (-62), 3) := by decide +kernel
theorem dX8_init_114 : decode cX8_init 114 = .ok (.return_, 1) := by decide +kernel
theorem dX8_kind_0 : decode cX8_kind 0 = .ok (.aload_n 0, 1) := by decide +kernel
theorem dX8_kind_1 : decode cX8_kind 1 = .ok (.getfield 19, 3) := by decide +kernel
theorem dX8_kind_4 : decode cX8_kind 4 = .ok (.ireturn, 1) := by decide +kernel
theorem dX8_place_0 : decode cX8_place 0 = .ok (.aload_n 0, 1) := by decide +kernel
theorem dX8_place_1 : decode cX8_place 1 = .ok (.getfield 22, 3) := by decide +kernel
theorem dX8_place_4 : decode cX8_place 4 = .ok (.ireturn, 1) := by decide +kernel
theorem dX8_value_0 : decode cX8_value 0 = .ok (.aload_n 0, 1) := by decide +kernel
theorem dX8_value_1 : decode cX8_value 1 = .ok (.getfield 25, 3) := by decide +kernel
theorem dX8_value_4 : decode cX8_value 4 = .ok (.ireturn, 1) := by decide +kernel
theorem dX8_name_0 : decode cX8_name 0 = .ok (.aload_n 0, 1) := by decide +kernel
theorem dX8_name_1 : decode cX8_name 1 = .ok (.getfield 28, 3) := by decide +kernel
theorem dX8_name_4 : decode cX8_name 4 = .ok (.lreturn, 1) := by decide +kernel
theorem dX8_end_0 : decode cX8_end 0 = .ok (.aload_n 0, 1) := by decide +kernel
theorem dX8_end_1 : decode cX8_end 1 = .ok (.getfield 32, 3) := by decide +kernel
theorem dX8_end_4 : decode cX8_end 4 = .ok (.invokevirtual 48, 3) := by decide +kernel
theorem dX8_end_7 : decode cX8_end 7 = .ok (.ireturn, 1) := by decide +kernel
theorem dX8_begin_0 : decode cX8_begin 0 = .ok (.aload_n 0, 1) := by decide +kernel
theorem dX8_begin_1 : decode cX8_begin 1 = .ok (.iconst 0, 1) := by decide +kernel
theorem dX8_begin_2 : decode cX8_begin 2 = .ok (.putfield 15, 3) := by decide +kernel
theorem dX8_begin_5 : decode cX8_begin 5 = .ok (.aload_n 0, 1) := by decide +kernel
theorem dX8_begin_6 : decode cX8_begin 6 = .ok (.invokevirtual 53, 3) := by decide +kernel
theorem dX8_begin_9 : decode cX8_begin 9 = .ok (.return_, 1) := by decide +kernel
theorem dX8_advance_0 : decode cX8_advance 0 = .ok (.aload_n 0, 1) := by decide +kernel
theorem dX8_advance_1 : decode cX8_advance 1 = .ok (.getfield 32, 3) := by decide +kernel
theorem dX8_advance_4 : decode cX8_advance 4 = .ok (.aload_n 0, 1) := by decide +kernel
theorem dX8_advance_5 : decode cX8_advance 5 = .ok (.getfield 15, 3) := by decide +kernel
theorem dX8_advance_8 : decode cX8_advance 8 = .ok (.invokevirtual 56, 3) := by decide +kernel
theorem dX8_advance_11 : decode cX8_advance 11 = .ok (.istore_n 1, 1) := by decide +kernel
theorem dX8_advance_12 : decode cX8_advance 12 = .ok (.aload_n 0, 1) := by decide +kernel
theorem dX8_advance_13 : decode cX8_advance 13 = .ok (.getfield 15, 3) := by decide +kernel
theorem dX8_advance_16 : decode cX8_advance 16 = .ok (.aload_n 0, 1) := by decide +kernel
theorem dX8_advance_17 : decode cX8_advance 17 = .ok (.getfield 32, 3) := by decide +kernel
theorem dX8_advance_20 : decode cX8_advance 20 = .ok (.invokevirtual 48, 3) := by decide +kernel
theorem dX8_advance_23 : decode cX8_advance 23 = .ok (.if_icmp .ge 40, 3) := by decide +kernel
theorem dX8_advance_26 : decode cX8_advance 26 = .ok (.iload_n 1, 1) := by decide +kernel
theorem dX8_advance_27 : decode cX8_advance 27 = .ok (.bipush 32, 2) := by decide +kernel
theorem dX8_advance_29 : decode cX8_advance 29 = .ok (.if_icmp .eq 9, 3) := by decide +kernel
theorem dX8_advance_32 : decode cX8_advance 32 = .ok (.iload_n 1, 1) := by decide +kernel
theorem dX8_advance_33 : decode cX8_advance 33 = .ok (.bipush 10, 2) := by decide +kernel
theorem dX8_advance_35 : decode cX8_advance 35 = .ok (.if_icmp .ne 28, 3) := by decide +kernel
theorem dX8_advance_38 : decode cX8_advance 38 = .ok (.aload_n 0, 1) := by decide +kernel
theorem dX8_advance_39 : decode cX8_advance 39 = .ok (.dup, 1) := by decide +kernel
theorem dX8_advance_40 : decode cX8_advance 40 = .ok (.getfield 15, 3) := by decide +kernel
theorem dX8_advance_43 : decode cX8_advance 43 = .ok (.iconst 1, 1) := by decide +kernel
theorem dX8_advance_44 : decode cX8_advance 44 = .ok (.iadd, 1) := by decide +kernel
theorem dX8_advance_45 : decode cX8_advance 45 = .ok (.putfield 15, 3) := by decide +kernel
theorem dX8_advance_48 : decode cX8_advance 48 = .ok (.aload_n 0, 1) := by decide +kernel
theorem dX8_advance_49 : decode cX8_advance 49 = .ok (.getfield 32, 3) := by decide +kernel
theorem dX8_advance_52 : decode cX8_advance 52 = .ok (.aload_n 0, 1) := by decide +kernel
theorem dX8_advance_53 : decode cX8_advance 53 = .ok (.getfield 15, 3) := by decide +kernel
theorem dX8_advance_56 : decode cX8_advance 56 = .ok (.invokevirtual 56, 3) := by decide +kernel
theorem dX8_advance_59 : decode cX8_advance 59 = .ok (.istore_n 1, 1) := by decide +kernel
theorem dX8_advance_60 : decode cX8_advance 60 = .ok (.goto (-48), 3) := by decide +kernel
theorem dX8_advance_63 : decode cX8_advance 63 = .ok (.aload_n 0, 1) := by decide +kernel
theorem dX8_advance_64 : decode cX8_advance 64 = .ok (.aload_n 0, 1) := by decide +kernel
theorem dX8_advance_65 : decode cX8_advance 65 = .ok (.getfield 15, 3) := by decide +kernel
theorem dX8_advance_68 : decode cX8_advance 68 = .ok (.putfield 22, 3) := by decide +kernel
theorem dX8_advance_71 : decode cX8_advance 71 = .ok (.iload_n 1, 1) := by decide +kernel
theorem dX8_advance_72 : decode cX8_advance 72 = .ok (.iconst (-1), 1) := by decide +kernel
theorem dX8_advance_73 : decode cX8_advance 73 = .ok (.if_icmp .ne 11, 3) := by decide +kernel
theorem dX8_advance_76 : decode cX8_advance 76 = .ok (.aload_n 0, 1) := by decide +kernel
theorem dX8_advance_77 : decode cX8_advance 77 = .ok (.iconst 0, 1) := by decide +kernel
theorem dX8_advance_78 : decode cX8_advance 78 = .ok (.putfield 19, 3) := by decide +kernel
theorem dX8_advance_81 : decode cX8_advance 81 = .ok (.goto 49, 3) := by decide +kernel
theorem dX8_advance_84 : decode cX8_advance 84 = .ok (.iload_n 1, 1) := by decide +kernel
theorem dX8_advance_85 : decode cX8_advance 85 = .ok (.invokestatic 60, 3) := by decide +kernel
theorem dX8_advance_88 : decode cX8_advance 88 = .ok (.ifCond .eq 10, 3) := by decide +kernel
theorem dX8_advance_91 : decode cX8_advance 91 = .ok (.aload_n 0, 1) := by decide +kernel
theorem dX8_advance_92 : decode cX8_advance 92 = .ok (.invokevirtual 64, 3) := by decide +kernel
theorem dX8_advance_95 : decode cX8_advance 95 = .ok (.goto 35, 3) := by decide +kernel
theorem dX8_advance_98 : decode cX8_advance 98 = .ok (.iload_n 1, 1) := by decide +kernel
theorem dX8_advance_99 : decode cX8_advance 99 = .ok (.invokestatic 67, 3) := by decide +kernel
theorem dX8_advance_102 : decode cX8_advance 102 = .ok (.ifCond .eq 10, 3) := by decide +kernel
theorem dX8_advance_105 : decode cX8_advance 105 = .ok (.aload_n 0, 1) := by decide +kernel
theorem dX8_advance_106 : decode cX8_advance 106 = .ok (.invokevirtual 70, 3) := by decide +kernel
theorem dX8_advance_109 : decode cX8_advance 109 = .ok (.goto 21, 3) := by decide +kernel
theorem dX8_advance_112 : decode cX8_advance 112 = .ok (.aload_n 0, 1) := by decide +kernel
theorem dX8_advance_113 : decode cX8_advance 113 = .ok (.iload_n 1, 1) := by decide +kernel
theorem dX8_advance_114 : decode cX8_advance 114 = .ok (.invokestatic 73, 3) := by decide +kernel
theorem dX8_advance_117 : decode cX8_advance 117 = .ok (.putfield 19, 3) := by decide +kernel
theorem dX8_advance_120 : decode cX8_advance 120 = .ok (.aload_n 0, 1) := by decide +kernel
theorem dX8_advance_121 : decode cX8_advance 121 = .ok (.dup, 1) := by decide +kernel
theorem dX8_advance_122 : decode cX8_advance 122 = .ok (.getfield 15, 3) := by decide +kernel
theorem dX8_advance_125 : decode cX8_advance 125 = .ok (.iconst 1, 1) := by decide +kernel
theorem dX8_advance_126 : decode cX8_advance 126 = .ok (.iadd, 1) := by decide +kernel
theorem dX8_advance_127 : decode cX8_advance 127 = .ok (.putfield 15, 3) := by decide +kernel
theorem dX8_advance_130 : decode cX8_advance 130 = .ok (.return_, 1) := by decide +kernel
theorem dX8_takeNumber_0 : decode cX8_takeNumber 0 = .ok (.aload_n 0, 1) := by decide +kernel
theorem dX8_takeNumber_1 : decode cX8_takeNumber 1 = .ok (.iconst 0, 1) := by decide +kernel
theorem dX8_takeNumber_2 : decode cX8_takeNumber 2 = .ok (.putfield 25, 3) := by decide +kernel
theorem dX8_takeNumber_5 : decode cX8_takeNumber 5 = .ok (.aload_n 0, 1) := by decide +kernel
theorem dX8_takeNumber_6 : decode cX8_takeNumber 6 = .ok (.getfield 15, 3) := by decide +kernel
theorem dX8_takeNumber_9 : decode cX8_takeNumber 9 = .ok (.aload_n 0, 1) := by decide +kernel
theorem dX8_takeNumber_10 : decode cX8_takeNumber 10 = .ok (.getfield 32, 3) := by decide +kernel
theorem dX8_takeNumber_13 : decode cX8_takeNumber 13 = .ok (.invokevirtual 48, 3) := by decide +kernel
theorem dX8_takeNumber_16 : decode cX8_takeNumber 16 = .ok (.if_icmp .ge 59, 3) := by decide +kernel
theorem dX8_takeNumber_19 : decode cX8_takeNumber 19 = .ok (.aload_n 0, 1) := by decide +kernel
theorem dX8_takeNumber_20 : decode cX8_takeNumber 20 = .ok (.getfield 32, 3) := by decide +kernel
theorem dX8_takeNumber_23 : decode cX8_takeNumber 23 = .ok (.aload_n 0, 1) := by decide +kernel
theorem dX8_takeNumber_24 : decode cX8_takeNumber 24 = .ok (.getfield 15, 3) := by decide +kernel
theorem dX8_takeNumber_27 : decode cX8_takeNumber 27 = .ok (.invokevirtual 56, 3) := by decide +kernel
theorem dX8_takeNumber_30 : decode cX8_takeNumber 30 = .ok (.invokestatic 60, 3) := by decide +kernel
theorem dX8_takeNumber_33 : decode cX8_takeNumber 33 = .ok (.ifCond .eq 42, 3) := by decide +kernel
theorem dX8_takeNumber_36 : decode cX8_takeNumber 36 = .ok (.aload_n 0, 1) := by decide +kernel
theorem dX8_takeNumber_37 : decode cX8_takeNumber 37 = .ok (.aload_n 0, 1) := by decide +kernel
theorem dX8_takeNumber_38 : decode cX8_takeNumber 38 = .ok (.getfield 25, 3) := by decide +kernel
theorem dX8_takeNumber_41 : decode cX8_takeNumber 41 = .ok (.bipush 10, 2) := by decide +kernel
theorem dX8_takeNumber_43 : decode cX8_takeNumber 43 = .ok (.imul, 1) := by decide +kernel
theorem dX8_takeNumber_44 : decode cX8_takeNumber 44 = .ok (.aload_n 0, 1) := by decide +kernel
theorem dX8_takeNumber_45 : decode cX8_takeNumber 45 = .ok (.getfield 32, 3) := by decide +kernel
theorem dX8_takeNumber_48 : decode cX8_takeNumber 48 = .ok (.aload_n 0, 1) := by decide +kernel
theorem dX8_takeNumber_49 : decode cX8_takeNumber 49 = .ok (.getfield 15, 3) := by decide +kernel
theorem dX8_takeNumber_52 : decode cX8_takeNumber 52 = .ok (.invokevirtual 56, 3) := by decide +kernel
theorem dX8_takeNumber_55 : decode cX8_takeNumber 55 = .ok (.iadd, 1) := by decide +kernel
theorem dX8_takeNumber_56 : decode cX8_takeNumber 56 = .ok (.bipush 48, 2) := by decide +kernel
theorem dX8_takeNumber_58 : decode cX8_takeNumber 58 = .ok (.isub, 1) := by decide +kernel
theorem dX8_takeNumber_59 : decode cX8_takeNumber 59 = .ok (.putfield 25, 3) := by decide +kernel
theorem dX8_takeNumber_62 : decode cX8_takeNumber 62 = .ok (.aload_n 0, 1) := by decide +kernel
theorem dX8_takeNumber_63 : decode cX8_takeNumber 63 = .ok (.dup, 1) := by decide +kernel
theorem dX8_takeNumber_64 : decode cX8_takeNumber 64 = .ok (.getfield 15, 3) := by decide +kernel
theorem dX8_takeNumber_67 : decode cX8_takeNumber 67 = .ok (.iconst 1, 1) := by decide +kernel
theorem dX8_takeNumber_68 : decode cX8_takeNumber 68 = .ok (.iadd, 1) := by decide +kernel
theorem dX8_takeNumber_69 : decode cX8_takeNumber 69 = .ok (.putfield 15, 3) := by decide +kernel
theorem dX8_takeNumber_72 : decode cX8_takeNumber 72 = .ok (.goto (-67), 3) := by decide +kernel
theorem dX8_takeNumber_75 : decode cX8_takeNumber 75 = .ok (.aload_n 0, 1) := by decide +kernel
theorem dX8_takeNumber_76 : decode cX8_takeNumber 76 = .ok (.aload_n 0, 1) := by decide +kernel
theorem dX8_takeNumber_77 : decode cX8_takeNumber 77 = .ok (.getfield 15, 3) := by decide +kernel
theorem dX8_takeNumber_80 : decode cX8_takeNumber 80 = .ok (.aload_n 0, 1) := by decide +kernel
theorem dX8_takeNumber_81 : decode cX8_takeNumber 81 = .ok (.getfield 22, 3) := by decide +kernel
theorem dX8_takeNumber_84 : decode cX8_takeNumber 84 = .ok (.isub, 1) := by decide +kernel
theorem dX8_takeNumber_85 : decode cX8_takeNumber 85 = .ok (.bipush 9, 2) := by decide +kernel
theorem dX8_takeNumber_87 : decode cX8_takeNumber 87 = .ok (.if_icmp .gt 7, 3) := by decide +kernel
theorem dX8_takeNumber_90 : decode cX8_takeNumber 90 = .ok (.iconst 1, 1) := by decide +kernel
theorem dX8_takeNumber_91 : decode cX8_takeNumber 91 = .ok (.goto 5, 3) := by decide +kernel
theorem dX8_takeNumber_94 : decode cX8_takeNumber 94 = .ok (.bipush 10, 2) := by decide +kernel
theorem dX8_takeNumber_96 : decode cX8_takeNumber 96 = .ok (.putfield 19, 3) := by decide +kernel
theorem dX8_takeNumber_99 : decode cX8_takeNumber 99 = .ok (.return_, 1) := by decide +kernel
theorem dX8_takeWord_0 : decode cX8_takeWord 0 = .ok (.aload_n 0, 1) := by decide +kernel
theorem dX8_takeWord_1 : decode cX8_takeWord 1 = .ok (.lconst 0, 1) := by decide +kernel
theorem dX8_takeWord_2 : decode cX8_takeWord 2 = .ok (.putfield 28, 3) := by decide +kernel
theorem dX8_takeWord_5 : decode cX8_takeWord 5 = .ok (.aload_n 0, 1) := by decide +kernel
theorem dX8_takeWord_6 : decode cX8_takeWord 6 = .ok (.getfield 15, 3) := by decide +kernel
theorem dX8_takeWord_9 : decode cX8_takeWord 9 = .ok (.aload_n 0, 1) := by decide +kernel
theorem dX8_takeWord_10 : decode cX8_takeWord 10 = .ok (.getfield 32, 3) := by decide +kernel
theorem dX8_takeWord_13 : decode cX8_takeWord 13 = .ok (.invokevirtual 48, 3) := by decide +kernel
theorem dX8_takeWord_16 : decode cX8_takeWord 16 = .ok (.if_icmp .ge 57, 3) := by decide +kernel
theorem dX8_takeWord_19 : decode cX8_takeWord 19 = .ok (.aload_n 0, 1) := by decide +kernel
theorem dX8_takeWord_20 : decode cX8_takeWord 20 = .ok (.getfield 32, 3) := by decide +kernel
theorem dX8_takeWord_23 : decode cX8_takeWord 23 = .ok (.aload_n 0, 1) := by decide +kernel
theorem dX8_takeWord_24 : decode cX8_takeWord 24 = .ok (.getfield 15, 3) := by decide +kernel
theorem dX8_takeWord_27 : decode cX8_takeWord 27 = .ok (.invokevirtual 56, 3) := by decide +kernel
theorem dX8_takeWord_30 : decode cX8_takeWord 30 = .ok (.invokestatic 76, 3) := by decide +kernel
theorem dX8_takeWord_33 : decode cX8_takeWord 33 = .ok (.ifCond .eq 40, 3) := by decide +kernel
theorem dX8_takeWord_36 : decode cX8_takeWord 36 = .ok (.aload_n 0, 1) := by decide +kernel
theorem dX8_takeWord_37 : decode cX8_takeWord 37 = .ok (.aload_n 0, 1) := by decide +kernel
theorem dX8_takeWord_38 : decode cX8_takeWord 38 = .ok (.getfield 28, 3) := by decide +kernel
theorem dX8_takeWord_41 : decode cX8_takeWord 41 = .ok (.bipush 8, 2) := by decide +kernel
theorem dX8_takeWord_43 : decode cX8_takeWord 43 = .ok (.lshl, 1) := by decide +kernel
theorem dX8_takeWord_44 : decode cX8_takeWord 44 = .ok (.aload_n 0, 1) := by decide +kernel
theorem dX8_takeWord_45 : decode cX8_takeWord 45 = .ok (.getfield 32, 3) := by decide +kernel
theorem dX8_takeWord_48 : decode cX8_takeWord 48 = .ok (.aload_n 0, 1) := by decide +kernel
theorem dX8_takeWord_49 : decode cX8_takeWord 49 = .ok (.getfield 15, 3) := by decide +kernel
theorem dX8_takeWord_52 : decode cX8_takeWord 52 = .ok (.invokevirtual 56, 3) := by decide +kernel
theorem dX8_takeWord_55 : decode cX8_takeWord 55 = .ok (.i2l, 1) := by decide +kernel
theorem dX8_takeWord_56 : decode cX8_takeWord 56 = .ok (.lor, 1) := by decide +kernel
theorem dX8_takeWord_57 : decode cX8_takeWord 57 = .ok (.putfield 28, 3) := by decide +kernel
theorem dX8_takeWord_60 : decode cX8_takeWord 60 = .ok (.aload_n 0, 1) := by decide +kernel
theorem dX8_takeWord_61 : decode cX8_takeWord 61 = .ok (.dup, 1) := by decide +kernel
theorem dX8_takeWord_62 : decode cX8_takeWord 62 = .ok (.getfield 15, 3) := by decide +kernel
theorem dX8_takeWord_65 : decode cX8_takeWord 65 = .ok (.iconst 1, 1) := by decide +kernel
theorem dX8_takeWord_66 : decode cX8_takeWord 66 = .ok (.iadd, 1) := by decide +kernel
theorem dX8_takeWord_67 : decode cX8_takeWord 67 = .ok (.putfield 15, 3) := by decide +kernel
theorem dX8_takeWord_70 : decode cX8_takeWord 70 = .ok (.goto (-65), 3) := by decide +kernel
theorem dX8_takeWord_73 : decode cX8_takeWord 73 = .ok (.aload_n 0, 1) := by decide +kernel
theorem dX8_takeWord_74 : decode cX8_takeWord 74 = .ok (.aload_n 0, 1) := by decide +kernel
theorem dX8_takeWord_75 : decode cX8_takeWord 75 = .ok (.getfield 15, 3) := by decide +kernel
theorem dX8_takeWord_78 : decode cX8_takeWord 78 = .ok (.aload_n 0, 1) := by decide +kernel
theorem dX8_takeWord_79 : decode cX8_takeWord 79 = .ok (.getfield 22, 3) := by decide +kernel
theorem dX8_takeWord_82 : decode cX8_takeWord 82 = .ok (.isub, 1) := by decide +kernel
theorem dX8_takeWord_83 : decode cX8_takeWord 83 = .ok (.bipush 8, 2) := by decide +kernel
theorem dX8_takeWord_85 : decode cX8_takeWord 85 = .ok (.if_icmp .gt 10, 3) := by decide +kernel
theorem dX8_takeWord_88 : decode cX8_takeWord 88 = .ok (.aload_n 0, 1) := by decide +kernel
theorem dX8_takeWord_89 : decode cX8_takeWord 89 = .ok (.invokevirtual 79, 3) := by decide +kernel
theorem dX8_takeWord_92 : decode cX8_takeWord 92 = .ok (.goto 5, 3) := by decide +kernel
theorem dX8_takeWord_95 : decode cX8_takeWord 95 = .ok (.bipush 10, 2) := by decide +kernel
theorem dX8_takeWord_97 : decode cX8_takeWord 97 = .ok (.putfield 19, 3) := by decide +kernel
theorem dX8_takeWord_100 : decode cX8_takeWord 100 = .ok (.return_, 1) := by decide +kernel
theorem dX8_kindOfWord_0 : decode cX8_kindOfWord 0 = .ok (.iconst 0, 1) := by decide +kernel
theorem dX8_kindOfWord_1 : decode cX8_kindOfWord 1 = .ok (.istore_n 1, 1) := by decide +kernel
theorem dX8_kindOfWord_2 : decode cX8_kindOfWord 2 = .ok (.iload_n 1, 1) := by decide +kernel
theorem dX8_kindOfWord_3 : decode cX8_kindOfWord 3 = .ok (.aload_n 0, 1) := by decide +kernel
theorem dX8_kindOfWord_4 : decode cX8_kindOfWord 4 = .ok (.getfield 11, 3) := by decide +kernel
theorem dX8_kindOfWord_7 : decode cX8_kindOfWord 7 = .ok (.arraylength, 1) := by decide +kernel
theorem dX8_kindOfWord_8 : decode cX8_kindOfWord 8 = .ok (.if_icmp .ge 50, 3) := by decide +kernel
theorem dX8_kindOfWord_11 : decode cX8_kindOfWord 11 = .ok (.aload_n 0, 1) := by decide +kernel
theorem dX8_kindOfWord_12 : decode cX8_kindOfWord 12 = .ok (.getfield 11, 3) := by decide +kernel
theorem dX8_kindOfWord_15 : decode cX8_kindOfWord 15 = .ok (.iload_n 1, 1) := by decide +kernel
theorem dX8_kindOfWord_16 : decode cX8_kindOfWord 16 = .ok (.laload, 1) := by decide +kernel
theorem dX8_kindOfWord_17 : decode cX8_kindOfWord 17 = .ok (.aload_n 0, 1) := by decide +kernel
theorem dX8_kindOfWord_18 : decode cX8_kindOfWord 18 = .ok (.getfield 28, 3) := by decide +kernel
theorem dX8_kindOfWord_21 : decode cX8_kindOfWord 21 = .ok (.lcmp, 1) := by decide +kernel
theorem dX8_kindOfWord_22 : decode cX8_kindOfWord 22 = .ok (.ifCond .ne 30, 3) := by decide +kernel
theorem dX8_kindOfWord_25 : decode cX8_kindOfWord 25 = .ok (.aload_n 0, 1) := by decide +kernel
theorem dX8_kindOfWord_26 : decode cX8_kindOfWord 26 = .ok (.iload_n 1, 1) := by decide +kernel
theorem dX8_kindOfWord_27 : decode cX8_kindOfWord 27 = .ok (.putfield 25, 3) := by decide +kernel
theorem dX8_kindOfWord_30 : decode cX8_kindOfWord 30 = .ok (.iload_n 1, 1) := by decide +kernel
theorem dX8_kindOfWord_31 : decode cX8_kindOfWord 31 = .ok (.bipush 13, 2) := by decide +kernel
theorem dX8_kindOfWord_33 : decode cX8_kindOfWord 33 = .ok (.if_icmp .ge 7, 3) := by decide +kernel
theorem dX8_kindOfWord_36 : decode cX8_kindOfWord 36 = .ok (.iconst 3, 1) := by decide +kernel
theorem dX8_kindOfWord_37 : decode cX8_kindOfWord 37 = .ok (.goto 14, 3) := by decide +kernel
theorem dX8_kindOfWord_40 : decode cX8_kindOfWord 40 = .ok (.iload_n 1, 1) := by decide +kernel
theorem dX8_kindOfWord_41 : decode cX8_kindOfWord 41 = .ok (.bipush 13, 2) := by decide +kernel
theorem dX8_kindOfWord_43 : decode cX8_kindOfWord 43 = .ok (.if_icmp .ne 7, 3) := by decide +kernel
theorem dX8_kindOfWord_46 : decode cX8_kindOfWord 46 = .ok (.iconst 4, 1) := by decide +kernel
theorem dX8_kindOfWord_47 : decode cX8_kindOfWord 47 = .ok (.goto 4, 3) := by decide +kernel
theorem dX8_kindOfWord_50 : decode cX8_kindOfWord 50 = .ok (.iconst 5, 1) := by decide +kernel
theorem dX8_kindOfWord_51 : decode cX8_kindOfWord 51 = .ok (.ireturn, 1) := by decide +kernel
theorem dX8_kindOfWord_52 : decode cX8_kindOfWord 52 = .ok (.iinc 1 1, 3) := by decide +kernel
theorem dX8_kindOfWord_55 : decode cX8_kindOfWord 55 = .ok (.goto (-53), 3) := by decide +kernel
theorem dX8_kindOfWord_58 : decode cX8_kindOfWord 58 = .ok (.iconst 2, 1) := by decide +kernel
theorem dX8_kindOfWord_59 : decode cX8_kindOfWord 59 = .ok (.ireturn, 1) := by decide +kernel
theorem dX8_signOf_0 : decode cX8_signOf 0 = .ok (.iload_n 0, 1) := by decide +kernel
theorem dX8_signOf_1 : decode cX8_signOf 1 = .ok (.lookupswitch 55 #[(40, 49), (41, 52), (59, 46), (61, 43)], 43) := by decide +kernel
theorem dX8_signOf_44 : decode cX8_signOf 44 = .ok (.bipush 6, 2) := by decide +kernel
theorem dX8_signOf_46 : decode cX8_signOf 46 = .ok (.ireturn, 1) := by decide +kernel
theorem dX8_signOf_47 : decode cX8_signOf 47 = .ok (.bipush 7, 2) := by decide +kernel
theorem dX8_signOf_49 : decode cX8_signOf 49 = .ok (.ireturn, 1) := by decide +kernel
theorem dX8_signOf_50 : decode cX8_signOf 50 = .ok (.bipush 8, 2) := by decide +kernel
theorem dX8_signOf_52 : decode cX8_signOf 52 = .ok (.ireturn, 1) := by decide +kernel
theorem dX8_signOf_53 : decode cX8_signOf 53 = .ok (.bipush 9, 2) := by decide +kernel
theorem dX8_signOf_55 : decode cX8_signOf 55 = .ok (.ireturn, 1) := by decide +kernel
theorem dX8_signOf_56 : decode cX8_signOf 56 = .ok (.bipush 10, 2) := by decide +kernel
theorem dX8_signOf_58 : decode cX8_signOf 58 = .ok (.ireturn, 1) := by decide +kernel
theorem dX8_isDigit_0 : decode cX8_isDigit 0 = .ok (.iload_n 0, 1) := by decide +kernel
theorem dX8_isDigit_1 : decode cX8_isDigit 1 = .ok (.bipush 48, 2) := by decide +kernel
theorem dX8_isDigit_3 : decode cX8_isDigit 3 = .ok (.if_icmp .lt 13, 3) := by decide +kernel
theorem dX8_isDigit_6 : decode cX8_isDigit 6 = .ok (.iload_n 0, 1) := by decide +kernel
theorem dX8_isDigit_7 : decode cX8_isDigit 7 = .ok (.bipush 57, 2) := by decide +kernel
theorem dX8_isDigit_9 : decode cX8_isDigit 9 = .ok (.if_icmp .gt 7, 3) := by decide +kernel
theorem dX8_isDigit_12 : decode cX8_isDigit 12 = .ok (.iconst 1, 1) := by decide +kernel
theorem dX8_isDigit_13 : decode cX8_isDigit 13 = .ok (.goto 4, 3) := by decide +kernel
theorem dX8_isDigit_16 : decode cX8_isDigit 16 = .ok (.iconst 0, 1) := by decide +kernel
theorem dX8_isDigit_17 : decode cX8_isDigit 17 = .ok (.ireturn, 1) := by decide +kernel
theorem dX8_isLetter_0 : decode cX8_isLetter 0 = .ok (.iload_n 0, 1) := by decide +kernel
theorem dX8_isLetter_1 : decode cX8_isLetter 1 = .ok (.bipush 97, 2) := by decide +kernel
theorem dX8_isLetter_3 : decode cX8_isLetter 3 = .ok (.if_icmp .lt 13, 3) := by decide +kernel
theorem dX8_isLetter_6 : decode cX8_isLetter 6 = .ok (.iload_n 0, 1) := by decide +kernel
theorem dX8_isLetter_7 : decode cX8_isLetter 7 = .ok (.bipush 122, 2) := by decide +kernel
theorem dX8_isLetter_9 : decode cX8_isLetter 9 = .ok (.if_icmp .gt 7, 3) := by decide +kernel
theorem dX8_isLetter_12 : decode cX8_isLetter 12 = .ok (.iconst 1, 1) := by decide +kernel
theorem dX8_isLetter_13 : decode cX8_isLetter 13 = .ok (.goto 4, 3) := by decide +kernel
theorem dX8_isLetter_16 : decode cX8_isLetter 16 = .ok (.iconst 0, 1) := by decide +kernel
theorem dX8_isLetter_17 : decode cX8_isLetter 17 = .ok (.ireturn, 1) := by decide +kernel
theorem dX8_isLetterOrDigit_0 : decode cX8_isLetterOrDigit 0 = .ok (.iload_n 0, 1) := by decide +kernel
theorem dX8_isLetterOrDigit_1 : decode cX8_isLetterOrDigit 1 = .ok (.bipush 97, 2) := by decide +kernel
theorem dX8_isLetterOrDigit_3 : decode cX8_isLetterOrDigit 3 = .ok (.if_icmp .lt 9, 3) := by decide +kernel
theorem dX8_isLetterOrDigit_6 : decode cX8_isLetterOrDigit 6 = .ok (.iload_n 0, 1) := by decide +kernel
theorem dX8_isLetterOrDigit_7 : decode cX8_isLetterOrDigit 7 = .ok (.bipush 122, 2) := by decide +kernel
theorem dX8_isLetterOrDigit_9 : decode cX8_isLetterOrDigit 9 = .ok (.if_icmp .le 15, 3) := by decide +kernel
theorem dX8_isLetterOrDigit_12 : decode cX8_isLetterOrDigit 12 = .ok (.iload_n 0, 1) := by decide +kernel
theorem dX8_isLetterOrDigit_13 : decode cX8_isLetterOrDigit 13 = .ok (.bipush 48, 2) := by decide +kernel
theorem dX8_isLetterOrDigit_15 : decode cX8_isLetterOrDigit 15 = .ok (.if_icmp .lt 13, 3) := by decide +kernel
theorem dX8_isLetterOrDigit_18 : decode cX8_isLetterOrDigit 18 = .ok (.iload_n 0, 1) := by decide +kernel
theorem dX8_isLetterOrDigit_19 : decode cX8_isLetterOrDigit 19 = .ok (.bipush 57, 2) := by decide +kernel
theorem dX8_isLetterOrDigit_21 : decode cX8_isLetterOrDigit 21 = .ok (.if_icmp .gt 7, 3) := by decide +kernel
theorem dX8_isLetterOrDigit_24 : decode cX8_isLetterOrDigit 24 = .ok (.iconst 1, 1) := by decide +kernel
theorem dX8_isLetterOrDigit_25 : decode cX8_isLetterOrDigit 25 = .ok (.goto 4, 3) := by decide +kernel
theorem dX8_isLetterOrDigit_28 : decode cX8_isLetterOrDigit 28 = .ok (.iconst 0, 1) := by decide +kernel
theorem dX8_isLetterOrDigit_29 : decode cX8_isLetterOrDigit 29 = .ok (.ireturn, 1) := by decide +kernel
theorem dX9_init_0 : decode cX9_init 0 = .ok (.aload_n 0, 1) := by decide +kernel
theorem dX9_init_1 : decode cX9_init 1 = .ok (.invokespecial 1, 3) := by decide +kernel
theorem dX9_init_4 : decode cX9_init 4 = .ok (.aload_n 0, 1) := by decide +kernel
theorem dX9_init_5 : decode cX9_init 5 = .ok (.new 7, 3) := by decide +kernel
theorem dX9_init_8 : decode cX9_init 8 = .ok (.dup, 1) := by decide +kernel
theorem dX9_init_9 : decode cX9_init 9 = .ok (.invokespecial 9, 3) := by decide +kernel
theorem dX9_init_12 : decode cX9_init 12 = .ok (.putfield 10, 3) := by decide +kernel
theorem dX9_init_15 : decode cX9_init 15 = .ok (.aload_n 0, 1) := by decide +kernel
theorem dX9_init_16 : decode cX9_init 16 = .ok (.new 16, 3) := by decide +kernel
theorem dX9_init_19 : decode cX9_init 19 = .ok (.dup, 1) := by decide +kernel
theorem dX9_init_20 : decode cX9_init 20 = .ok (.invokespecial 18, 3) := by decide +kernel
theorem dX9_init_23 : decode cX9_init 23 = .ok (.putfield 19, 3) := by decide +kernel
theorem dX9_init_26 : decode cX9_init 26 = .ok (.aload_n 0, 1) := by decide +kernel
theorem dX9_init_27 : decode cX9_init 27 = .ok (.new 23, 3) := by decide +kernel
theorem dX9_init_30 : decode cX9_init 30 = .ok (.dup, 1) := by decide +kernel
theorem dX9_init_31 : decode cX9_init 31 = .ok (.new 25, 3) := by decide +kernel
theorem dX9_init_34 : decode cX9_init 34 = .ok (.dup, 1) := by decide +kernel
theorem dX9_init_35 : decode cX9_init 35 = .ok (.aload_n 0, 1) := by decide +kernel
theorem dX9_init_36 : decode cX9_init 36 = .ok (.getfield 10, 3) := by decide +kernel
theorem dX9_init_39 : decode cX9_init 39 = .ok (.invokespecial 27, 3) := by decide +kernel
theorem dX9_init_42 : decode cX9_init 42 = .ok (.aload_n 0, 1) := by decide +kernel
theorem dX9_init_43 : decode cX9_init 43 = .ok (.getfield 19, 3) := by decide +kernel
theorem dX9_init_46 : decode cX9_init 46 = .ok (.invokespecial 30, 3) := by decide +kernel
theorem dX9_init_49 : decode cX9_init 49 = .ok (.putfield 33, 3) := by decide +kernel
theorem dX9_init_52 : decode cX9_init 52 = .ok (.aload_n 0, 1) := by decide +kernel
theorem dX9_init_53 : decode cX9_init 53 = .ok (.new 37, 3) := by decide +kernel
theorem dX9_init_56 : decode cX9_init 56 = .ok (.dup, 1) := by decide +kernel
theorem dX9_init_57 : decode cX9_init 57 = .ok (.invokespecial 39, 3) := by decide +kernel
theorem dX9_init_60 : decode cX9_init 60 = .ok (.putfield 40, 3) := by decide +kernel
theorem dX9_init_63 : decode cX9_init 63 = .ok (.aload_n 0, 1) := by decide +kernel
theorem dX9_init_64 : decode cX9_init 64 = .ok (.new 44, 3) := by decide +kernel
theorem dX9_init_67 : decode cX9_init 67 = .ok (.dup, 1) := by decide +kernel
theorem dX9_init_68 : decode cX9_init 68 = .ok (.invokespecial 46, 3) := by decide +kernel
theorem dX9_init_71 : decode cX9_init 71 = .ok (.putfield 47, 3) := by decide +kernel
theorem dX9_init_74 : decode cX9_init 74 = .ok (.aload_n 0, 1) := by decide +kernel
theorem dX9_init_75 : decode cX9_init 75 = .ok (.new 51, 3) := by decide +kernel
theorem dX9_init_78 : decode cX9_init 78 = .ok (.dup, 1) := by decide +kernel
theorem dX9_init_79 : decode cX9_init 79 = .ok (.aload_n 0, 1) := by decide +kernel
theorem dX9_init_80 : decode cX9_init 80 = .ok (.getfield 19, 3) := by decide +kernel
theorem dX9_init_83 : decode cX9_init 83 = .ok (.aload_n 0, 1) := by decide +kernel
theorem dX9_init_84 : decode cX9_init 84 = .ok (.getfield 40, 3) := by decide +kernel
theorem dX9_init_87 : decode cX9_init 87 = .ok (.aload_n 0, 1) := by decide +kernel
theorem dX9_init_88 : decode cX9_init 88 = .ok (.getfield 47, 3) := by decide +kernel
theorem dX9_init_91 : decode cX9_init 91 = .ok (.invokespecial 53, 3) := by decide +kernel
theorem dX9_init_94 : decode cX9_init 94 = .ok (.putfield 56, 3) := by decide +kernel
theorem dX9_init_97 : decode cX9_init 97 = .ok (.aload_n 0, 1) := by decide +kernel
theorem dX9_init_98 : decode cX9_init 98 = .ok (.new 60, 3) := by decide +kernel
theorem dX9_init_101 : decode cX9_init 101 = .ok (.dup, 1) := by decide +kernel
theorem dX9_init_102 : decode cX9_init 102 = .ok (.aload_n 0, 1) := by decide +kernel
theorem dX9_init_103 : decode cX9_init 103 = .ok (.getfield 19, 3) := by decide +kernel
theorem dX9_init_106 : decode cX9_init 106 = .ok (.aload_n 0, 1) := by decide +kernel
theorem dX9_init_107 : decode cX9_init 107 = .ok (.getfield 40, 3) := by decide +kernel
theorem dX9_init_110 : decode cX9_init 110 = .ok (.aload_n 0, 1) := by decide +kernel
theorem dX9_init_111 : decode cX9_init 111 = .ok (.getfield 47, 3) := by decide +kernel
theorem dX9_init_114 : decode cX9_init 114 = .ok (.invokespecial 62, 3) := by decide +kernel
theorem dX9_init_117 : decode cX9_init 117 = .ok (.putfield 63, 3) := by decide +kernel
theorem dX9_init_120 : decode cX9_init 120 = .ok (.aload_n 0, 1) := by decide +kernel
theorem dX9_init_121 : decode cX9_init 121 = .ok (.sipush 5001, 3) := by decide +kernel
theorem dX9_init_124 : decode cX9_init 124 = .ok (.newarray .boolean, 2) := by decide +kernel
theorem dX9_init_126 : decode cX9_init 126 = .ok (.putfield 67, 3) := by decide +kernel
theorem dX9_init_129 : decode cX9_init 129 = .ok (.aload_n 0, 1) := by decide +kernel
theorem dX9_init_130 : decode cX9_init 130 = .ok (.iconst 0, 1) := by decide +kernel
theorem dX9_init_131 : decode cX9_init 131 = .ok (.putfield 71, 3) := by decide +kernel
theorem dX9_init_134 : decode cX9_init 134 = .ok (.aload_n 0, 1) := by decide +kernel
theorem dX9_init_135 : decode cX9_init 135 = .ok (.iconst 0, 1) := by decide +kernel
theorem dX9_init_136 : decode cX9_init 136 = .ok (.putfield 75, 3) := by decide +kernel
theorem dX9_init_139 : decode cX9_init 139 = .ok (.aload_n 0, 1) := by decide +kernel
theorem dX9_init_140 : decode cX9_init 140 = .ok (.iconst 0, 1) := by decide +kernel
theorem dX9_init_141 : decode cX9_init 141 = .ok (.putfield 79, 3) := by decide +kernel
theorem dX9_init_144 : decode cX9_init 144 = .ok (.aload_n 0, 1) := by decide +kernel
theorem dX9_init_145 : decode cX9_init 145 = .ok (.iconst 0, 1) := by decide +kernel
theorem dX9_init_146 : decode cX9_init 146 = .ok (.putfield 82, 3) := by decide +kernel
theorem dX9_init_149 : decode cX9_init 149 = .ok (.aload_n 0, 1) := by decide +kernel
theorem dX9_init_150 : decode cX9_init 150 = .ok (.iconst (-1), 1) := by decide +kernel
theorem dX9_init_151 : decode cX9_init 151 = .ok (.putfield 85, 3) := by decide +kernel
theorem dX9_init_154 : decode cX9_init 154 = .ok (.return_, 1) := by decide +kernel
theorem dX9_feed_0 : decode cX9_feed 0 = .ok (.aload_n 0, 1) := by decide +kernel
theorem dX9_feed_1 : decode cX9_feed 1 = .ok (.getfield 10, 3) := by decide +kernel
theorem dX9_feed_4 : decode cX9_feed 4 = .ok (.invokevirtual 88, 3) := by decide +kernel
theorem dX9_feed_7 : decode cX9_feed 7 = .ok (.sipush 780, 3) := by decide +kernel
theorem dX9_feed_10 : decode cX9_feed 10 = .ok (.if_icmp .le 6, 3) := by decide +kernel
theorem dX9_feed_13 : decode cX9_feed 13 = .ok (.bipush (-2), 2) := by decide +kernel
theorem dX9_feed_15 : decode cX9_feed 15 = .ok (.ireturn, 1) := by decide +kernel
theorem dX9_feed_16 : decode cX9_feed 16 = .ok (.aload_n 0, 1) := by decide +kernel
theorem dX9_feed_17 : decode cX9_feed 17 = .ok (.getfield 10, 3) := by decide +kernel
theorem dX9_feed_20 : decode cX9_feed 20 = .ok (.iload_n 1, 1) := by decide +kernel
theorem dX9_feed_21 : decode cX9_feed 21 = .ok (.invokevirtual 92, 3) := by decide +kernel
theorem dX9_feed_24 : decode cX9_feed 24 = .ok (.aload_n 0, 1) := by decide +kernel
theorem dX9_feed_25 : decode cX9_feed 25 = .ok (.getfield 10, 3) := by decide +kernel
theorem dX9_feed_28 : decode cX9_feed 28 = .ok (.iload_n 2, 1) := by decide +kernel
theorem dX9_feed_29 : decode cX9_feed 29 = .ok (.invokevirtual 92, 3) := by decide +kernel
theorem dX9_feed_32 : decode cX9_feed 32 = .ok (.aload_n 0, 1) := by decide +kernel
theorem dX9_feed_33 : decode cX9_feed 33 = .ok (.getfield 10, 3) := by decide +kernel
theorem dX9_feed_36 : decode cX9_feed 36 = .ok (.iload_n 3, 1) := by decide +kernel
theorem dX9_feed_37 : decode cX9_feed 37 = .ok (.invokevirtual 92, 3) := by decide +kernel
theorem dX9_feed_40 : decode cX9_feed 40 = .ok (.aload_n 0, 1) := by decide +kernel
theorem dX9_feed_41 : decode cX9_feed 41 = .ok (.getfield 10, 3) := by decide +kernel
theorem dX9_feed_44 : decode cX9_feed 44 = .ok (.iload 4, 2) := by decide +kernel
theorem dX9_feed_46 : decode cX9_feed 46 = .ok (.invokevirtual 92, 3) := by decide +kernel
theorem dX9_feed_49 : decode cX9_feed 49 = .ok (.aload_n 0, 1) := by decide +kernel
theorem dX9_feed_50 : decode cX9_feed 50 = .ok (.getfield 10, 3) := by decide +kernel
theorem dX9_feed_53 : decode cX9_feed 53 = .ok (.iload 5, 2) := by decide +kernel
theorem dX9_feed_55 : decode cX9_feed 55 = .ok (.invokevirtual 92, 3) := by decide +kernel
theorem dX9_feed_58 : decode cX9_feed 58 = .ok (.aload_n 0, 1) := by decide +kernel
theorem dX9_feed_59 : decode cX9_feed 59 = .ok (.getfield 10, 3) := by decide +kernel
theorem dX9_feed_62 : decode cX9_feed 62 = .ok (.invokevirtual 88, 3) := by decide +kernel
theorem dX9_feed_65 : decode cX9_feed 65 = .ok (.ireturn, 1) := by decide +kernel
theorem dX9_cut_0 : decode cX9_cut 0 = .ok (.iload_n 1, 1) := by decide +kernel
theorem dX9_cut_1 : decode cX9_cut 1 = .ok (.ifCond .lt 14, 3) := by decide +kernel
theorem dX9_cut_4 : decode cX9_cut 4 = .ok (.iload_n 1, 1) := by decide +kernel
theorem dX9_cut_5 : decode cX9_cut 5 = .ok (.aload_n 0, 1) := by decide +kernel
theorem dX9_cut_6 : decode cX9_cut 6 = .ok (.getfield 10, 3) := by decide +kernel
theorem dX9_cut_9 : decode cX9_cut 9 = .ok (.invokevirtual 88, 3) := by decide +kernel
theorem dX9_cut_12 : decode cX9_cut 12 = .ok (.if_icmp .le 5, 3) := by decide +kernel
theorem dX9_cut_15 : decode cX9_cut 15 = .ok (.iconst (-1), 1) := by decide +kernel
theorem dX9_cut_16 : decode cX9_cut 16 = .ok (.ireturn, 1) := by decide +kernel
theorem dX9_cut_17 : decode cX9_cut 17 = .ok (.aload_n 0, 1) := by decide +kernel
theorem dX9_cut_18 : decode cX9_cut 18 = .ok (.getfield 10, 3) := by decide +kernel
theorem dX9_cut_21 : decode cX9_cut 21 = .ok (.iload_n 1, 1) := by decide +kernel
theorem dX9_cut_22 : decode cX9_cut 22 = .ok (.invokevirtual 96, 3) := by decide +kernel
theorem dX9_cut_25 : decode cX9_cut 25 = .ok (.ireturn, 1) := by decide +kernel
theorem dX9_read_0 : decode cX9_read 0 = .ok (.aload_n 0, 1) := by decide +kernel
theorem dX9_read_1 : decode cX9_read 1 = .ok (.getfield 33, 3) := by decide +kernel
theorem dX9_read_4 : decode cX9_read 4 = .ok (.invokevirtual 100, 3) := by decide +kernel
theorem dX9_read_7 : decode cX9_read 7 = .ok (.aload_n 0, 1) := by decide +kernel
theorem dX9_read_8 : decode cX9_read 8 = .ok (.getfield 10, 3) := by decide +kernel
theorem dX9_read_11 : decode cX9_read 11 = .ok (.iconst 0, 1) := by decide +kernel
theorem dX9_read_12 : decode cX9_read 12 = .ok (.invokevirtual 96, 3) := by decide +kernel
theorem dX9_read_15 : decode cX9_read 15 = .ok (.pop, 1) := by decide +kernel
theorem dX9_read_16 : decode cX9_read 16 = .ok (.aload_n 0, 1) := by decide +kernel
theorem dX9_read_17 : decode cX9_read 17 = .ok (.aload_n 0, 1) := by decide +kernel
theorem dX9_read_18 : decode cX9_read 18 = .ok (.getfield 33, 3) := by decide +kernel
theorem dX9_read_21 : decode cX9_read 21 = .ok (.invokevirtual 103, 3) := by decide +kernel
theorem dX9_read_24 : decode cX9_read 24 = .ok (.putfield 75, 3) := by decide +kernel
theorem dX9_read_27 : decode cX9_read 27 = .ok (.aload_n 0, 1) := by decide +kernel
theorem dX9_read_28 : decode cX9_read 28 = .ok (.aload_n 0, 1) := by decide +kernel
theorem dX9_read_29 : decode cX9_read 29 = .ok (.getfield 75, 3) := by decide +kernel
theorem dX9_read_32 : decode cX9_read 32 = .ok (.ifCond .ne 7, 3) := by decide +kernel
theorem dX9_read_35 : decode cX9_read 35 = .ok (.iconst 1, 1) := by decide +kernel
theorem dX9_read_36 : decode cX9_read 36 = .ok (.goto 4, 3) := by decide +kernel
theorem dX9_read_39 : decode cX9_read 39 = .ok (.iconst 0, 1) := by decide +kernel
theorem dX9_read_40 : decode cX9_read 40 = .ok (.putfield 71, 3) := by decide +kernel
theorem dX9_read_43 : decode cX9_read 43 = .ok (.aload_n 0, 1) := by decide +kernel
theorem dX9_read_44 : decode cX9_read 44 = .ok (.getfield 71, 3) := by decide +kernel
theorem dX9_read_47 : decode cX9_read 47 = .ok (.ifCond .ne 14, 3) := by decide +kernel
theorem dX9_read_50 : decode cX9_read 50 = .ok (.bipush (-10), 2) := by decide +kernel
theorem dX9_read_52 : decode cX9_read 52 = .ok (.aload_n 0, 1) := by decide +kernel
theorem dX9_read_53 : decode cX9_read 53 = .ok (.getfield 33, 3) := by decide +kernel
theorem dX9_read_56 : decode cX9_read 56 = .ok (.invokevirtual 106, 3) := by decide +kernel
theorem dX9_read_59 : decode cX9_read 59 = .ok (.isub, 1) := by decide +kernel
theorem dX9_read_60 : decode cX9_read 60 = .ok (.ireturn, 1) := by decide +kernel
theorem dX9_read_61 : decode cX9_read 61 = .ok (.aload_n 0, 1) := by decide +kernel
theorem dX9_read_62 : decode cX9_read 62 = .ok (.iconst 0, 1) := by decide +kernel
theorem dX9_read_63 : decode cX9_read 63 = .ok (.invokevirtual 109, 3) := by decide +kernel
theorem dX9_read_66 : decode cX9_read 66 = .ok (.aload_n 0, 1) := by decide +kernel
theorem dX9_read_67 : decode cX9_read 67 = .ok (.getfield 56, 3) := by decide +kernel
theorem dX9_read_70 : decode cX9_read 70 = .ok (.invokevirtual 112, 3) := by decide +kernel
theorem dX9_read_73 : decode cX9_read 73 = .ok (.aload_n 0, 1) := by decide +kernel
theorem dX9_read_74 : decode cX9_read 74 = .ok (.invokevirtual 115, 3) := by decide +kernel
theorem dX9_read_77 : decode cX9_read 77 = .ok (.aload_n 0, 1) := by decide +kernel
theorem dX9_read_78 : decode cX9_read 78 = .ok (.iconst (-1), 1) := by decide +kernel
theorem dX9_read_79 : decode cX9_read 79 = .ok (.putfield 85, 3) := by decide +kernel
theorem dX9_read_82 : decode cX9_read 82 = .ok (.aload_n 0, 1) := by decide +kernel
theorem dX9_read_83 : decode cX9_read 83 = .ok (.getfield 19, 3) := by decide +kernel
theorem dX9_read_86 : decode cX9_read 86 = .ok (.invokevirtual 118, 3) := by decide +kernel
theorem dX9_read_89 : decode cX9_read 89 = .ok (.ireturn, 1) := by decide +kernel
theorem dX9_fault_0 : decode cX9_fault 0 = .ok (.aload_n 0, 1) := by decide +kernel
theorem dX9_fault_1 : decode cX9_fault 1 = .ok (.getfield 75, 3) := by decide +kernel
theorem dX9_fault_4 : decode cX9_fault 4 = .ok (.ireturn, 1) := by decide +kernel
theorem dX9_step_0 : decode cX9_step 0 = .ok (.aload_n 0, 1) := by decide +kernel
theorem dX9_step_1 : decode cX9_step 1 = .ok (.getfield 71, 3) := by decide +kernel
theorem dX9_step_4 : decode cX9_step 4 = .ok (.ifCond .ne 6, 3) := by decide +kernel
theorem dX9_step_7 : decode cX9_step 7 = .ok (.bipush (-3), 2) := by decide +kernel
theorem dX9_step_9 : decode cX9_step 9 = .ok (.ireturn, 1) := by decide +kernel
theorem dX9_step_10 : decode cX9_step 10 = .ok (.iload_n 1, 1) := by decide +kernel
theorem dX9_step_11 : decode cX9_step 11 = .ok (.iconst 1, 1) := by decide +kernel
theorem dX9_step_12 : decode cX9_step 12 = .ok (.if_icmp .lt 10, 3) := by decide +kernel
theorem dX9_step_15 : decode cX9_step 15 = .ok (.iload_n 1, 1) := by decide +kernel
theorem dX9_step_16 : decode cX9_step 16 = .ok (.sipush 2000, 3) := by decide +kernel
theorem dX9_step_19 : decode cX9_step 19 = .ok (.if_icmp .le 5, 3) := by decide +kernel
theorem dX9_step_22 : decode cX9_step 22 = .ok (.iconst (-1), 1) := by decide +kernel
theorem dX9_step_23 : decode cX9_step 23 = .ok (.ireturn, 1) := by decide +kernel
theorem dX9_step_24 : decode cX9_step 24 = .ok (.iconst 0, 1) := by decide +kernel
theorem dX9_step_25 : decode cX9_step 25 = .ok (.istore_n 2, 1) := by decide +kernel
theorem dX9_step_26 : decode cX9_step 26 = .ok (.iload_n 2, 1) := by decide +kernel
theorem dX9_step_27 : decode cX9_step 27 = .ok (.iload_n 1, 1) := by decide +kernel
theorem dX9_step_28 : decode cX9_step 28 = .ok (.if_icmp .ge 62, 3) := by decide +kernel
theorem dX9_step_31 : decode cX9_step 31 = .ok (.iload_n 2, 1) := by decide +kernel
theorem dX9_step_32 : decode cX9_step 32 = .ok (.ifCond .le 20, 3) := by decide +kernel
theorem dX9_step_35 : decode cX9_step 35 = .ok (.aload_n 0, 1) := by decide +kernel
theorem dX9_step_36 : decode cX9_step 36 = .ok (.getfield 56, 3) := by decide +kernel
theorem dX9_step_39 : decode cX9_step 39 = .ok (.aload_n 0, 1) := by decide +kernel
theorem dX9_step_40 : decode cX9_step 40 = .ok (.getfield 85, 3) := by decide +kernel
theorem dX9_step_43 : decode cX9_step 43 = .ok (.invokevirtual 119, 3) := by decide +kernel
theorem dX9_step_46 : decode cX9_step 46 = .ok (.ifCond .eq 6, 3) := by decide +kernel
theorem dX9_step_49 : decode cX9_step 49 = .ok (.goto 41, 3) := by decide +kernel
theorem dX9_step_52 : decode cX9_step 52 = .ok (.aload_n 0, 1) := by decide +kernel
theorem dX9_step_53 : decode cX9_step 53 = .ok (.aload_n 0, 1) := by decide +kernel
theorem dX9_step_54 : decode cX9_step 54 = .ok (.getfield 56, 3) := by decide +kernel
theorem dX9_step_57 : decode cX9_step 57 = .ok (.invokevirtual 123, 3) := by decide +kernel
theorem dX9_step_60 : decode cX9_step 60 = .ok (.putfield 79, 3) := by decide +kernel
theorem dX9_step_63 : decode cX9_step 63 = .ok (.aload_n 0, 1) := by decide +kernel
theorem dX9_step_64 : decode cX9_step 64 = .ok (.aload_n 0, 1) := by decide +kernel
theorem dX9_step_65 : decode cX9_step 65 = .ok (.getfield 56, 3) := by decide +kernel
theorem dX9_step_68 : decode cX9_step 68 = .ok (.invokevirtual 126, 3) := by decide +kernel
theorem dX9_step_71 : decode cX9_step 71 = .ok (.putfield 82, 3) := by decide +kernel
theorem dX9_step_74 : decode cX9_step 74 = .ok (.aload_n 0, 1) := by decide +kernel
theorem dX9_step_75 : decode cX9_step 75 = .ok (.getfield 79, 3) := by decide +kernel
theorem dX9_step_78 : decode cX9_step 78 = .ok (.ifCond .eq 6, 3) := by decide +kernel
theorem dX9_step_81 : decode cX9_step 81 = .ok (.goto 9, 3) := by decide +kernel
theorem dX9_step_84 : decode cX9_step 84 = .ok (.iinc 2 1, 3) := by decide +kernel
theorem dX9_step_87 : decode cX9_step 87 = .ok (.goto (-61), 3) := by decide +kernel
theorem dX9_step_90 : decode cX9_step 90 = .ok (.iload_n 2, 1) := by decide +kernel
theorem dX9_step_91 : decode cX9_step 91 = .ok (.ireturn, 1) := by decide +kernel
theorem dX9_state_0 : decode cX9_state 0 = .ok (.aload_n 0, 1) := by decide +kernel
theorem dX9_state_1 : decode cX9_state 1 = .ok (.getfield 71, 3) := by decide +kernel
theorem dX9_state_4 : decode cX9_state 4 = .ok (.ifCond .eq 10, 3) := by decide +kernel
theorem dX9_state_7 : decode cX9_state 7 = .ok (.aload_n 0, 1) := by decide +kernel
theorem dX9_state_8 : decode cX9_state 8 = .ok (.getfield 79, 3) := by decide +kernel
theorem dX9_state_11 : decode cX9_state 11 = .ok (.goto 5, 3) := by decide +kernel
theorem dX9_state_14 : decode cX9_state 14 = .ok (.bipush (-3), 2) := by decide +kernel
theorem dX9_state_16 : decode cX9_state 16 = .ok (.ireturn, 1) := by decide +kernel
theorem dX9_error_0 : decode cX9_error 0 = .ok (.aload_n 0, 1) := by decide +kernel
theorem dX9_error_1 : decode cX9_error 1 = .ok (.getfield 71, 3) := by decide +kernel
theorem dX9_error_4 : decode cX9_error 4 = .ok (.ifCond .eq 10, 3) := by decide +kernel
theorem dX9_error_7 : decode cX9_error 7 = .ok (.aload_n 0, 1) := by decide +kernel
theorem dX9_error_8 : decode cX9_error 8 = .ok (.getfield 82, 3) := by decide +kernel
theorem dX9_error_11 : decode cX9_error 11 = .ok (.goto 5, 3) := by decide +kernel
theorem dX9_error_14 : decode cX9_error 14 = .ok (.bipush (-3), 2) := by decide +kernel
theorem dX9_error_16 : decode cX9_error 16 = .ok (.ireturn, 1) := by decide +kernel
theorem dX9_next_0 : decode cX9_next 0 = .ok (.aload_n 0, 1) := by decide +kernel
theorem dX9_next_1 : decode cX9_next 1 = .ok (.getfield 71, 3) := by decide +kernel
theorem dX9_next_4 : decode cX9_next 4 = .ok (.ifCond .eq 13, 3) := by decide +kernel
theorem dX9_next_7 : decode cX9_next 7 = .ok (.aload_n 0, 1) := by decide +kernel
theorem dX9_next_8 : decode cX9_next 8 = .ok (.getfield 56, 3) := by decide +kernel
theorem dX9_next_11 : decode cX9_next 11 = .ok (.invokevirtual 129, 3) := by decide +kernel
theorem dX9_next_14 : decode cX9_next 14 = .ok (.goto 5, 3) := by decide +kernel
theorem dX9_next_17 : decode cX9_next 17 = .ok (.bipush (-3), 2) := by decide +kernel
theorem dX9_next_19 : decode cX9_next 19 = .ok (.ireturn, 1) := by decide +kernel
theorem dX9_stopAt_0 : decode cX9_stopAt 0 = .ok (.aload_n 0, 1) := by decide +kernel
theorem dX9_stopAt_1 : decode cX9_stopAt 1 = .ok (.getfield 71, 3) := by decide +kernel
theorem dX9_stopAt_4 : decode cX9_stopAt 4 = .ok (.ifCond .ne 6, 3) := by decide +kernel
theorem dX9_stopAt_7 : decode cX9_stopAt 7 = .ok (.bipush (-3), 2) := by decide +kernel
theorem dX9_stopAt_9 : decode cX9_stopAt 9 = .ok (.ireturn, 1) := by decide +kernel
theorem dX9_stopAt_10 : decode cX9_stopAt 10 = .ok (.iload_n 1, 1) := by decide +kernel
theorem dX9_stopAt_11 : decode cX9_stopAt 11 = .ok (.iconst (-1), 1) := by decide +kernel
theorem dX9_stopAt_12 : decode cX9_stopAt 12 = .ok (.if_icmp .lt 14, 3) := by decide +kernel
theorem dX9_stopAt_15 : decode cX9_stopAt 15 = .ok (.iload_n 1, 1) := by decide +kernel
theorem dX9_stopAt_16 : decode cX9_stopAt 16 = .ok (.aload_n 0, 1) := by decide +kernel
theorem dX9_stopAt_17 : decode cX9_stopAt 17 = .ok (.getfield 19, 3) := by decide +kernel
theorem dX9_stopAt_20 : decode cX9_stopAt 20 = .ok (.invokevirtual 118, 3) := by decide +kernel
theorem dX9_stopAt_23 : decode cX9_stopAt 23 = .ok (.if_icmp .lt 5, 3) := by decide +kernel
theorem dX9_stopAt_26 : decode cX9_stopAt 26 = .ok (.iconst (-1), 1) := by decide +kernel
theorem dX9_stopAt_27 : decode cX9_stopAt 27 = .ok (.ireturn, 1) := by decide +kernel
theorem dX9_stopAt_28 : decode cX9_stopAt 28 = .ok (.aload_n 0, 1) := by decide +kernel
theorem dX9_stopAt_29 : decode cX9_stopAt 29 = .ok (.getfield 85, 3) := by decide +kernel
theorem dX9_stopAt_32 : decode cX9_stopAt 32 = .ok (.istore_n 2, 1) := by decide +kernel
theorem dX9_stopAt_33 : decode cX9_stopAt 33 = .ok (.aload_n 0, 1) := by decide +kernel
theorem dX9_stopAt_34 : decode cX9_stopAt 34 = .ok (.iload_n 1, 1) := by decide +kernel
theorem dX9_stopAt_35 : decode cX9_stopAt 35 = .ok (.putfield 85, 3) := by decide +kernel
theorem dX9_stopAt_38 : decode cX9_stopAt 38 = .ok (.iload_n 2, 1) := by decide +kernel
theorem dX9_stopAt_39 : decode cX9_stopAt 39 = .ok (.ireturn, 1) := by decide +kernel
theorem dX9_back_0 : decode cX9_back 0 = .ok (.aload_n 0, 1) := by decide +kernel
theorem dX9_back_1 : decode cX9_back 1 = .ok (.getfield 71, 3) := by decide +kernel
theorem dX9_back_4 : decode cX9_back 4 = .ok (.ifCond .ne 6, 3) := by decide +kernel
theorem dX9_back_7 : decode cX9_back 7 = .ok (.bipush (-3), 2) := by decide +kernel
theorem dX9_back_9 : decode cX9_back 9 = .ok (.ireturn, 1) := by decide +kernel
theorem dX9_back_10 : decode cX9_back 10 = .ok (.aload_n 0, 1) := by decide +kernel
theorem dX9_back_11 : decode cX9_back 11 = .ok (.getfield 56, 3) := by decide +kernel
theorem dX9_back_14 : decode cX9_back 14 = .ok (.invokevirtual 132, 3) := by decide +kernel
theorem dX9_back_17 : decode cX9_back 17 = .ok (.iload_n 1, 1) := by decide +kernel
theorem dX9_back_18 : decode cX9_back 18 = .ok (.isub, 1) := by decide +kernel
theorem dX9_back_19 : decode cX9_back 19 = .ok (.istore_n 2, 1) := by decide +kernel
theorem dX9_back_20 : decode cX9_back 20 = .ok (.iload_n 1, 1) := by decide +kernel
theorem dX9_back_21 : decode cX9_back 21 = .ok (.ifCond .lt 7, 3) := by decide +kernel
theorem dX9_back_24 : decode cX9_back 24 = .ok (.iload_n 2, 1) := by decide +kernel
theorem dX9_back_25 : decode cX9_back 25 = .ok (.ifCond .ge 5, 3) := by decide +kernel
theorem dX9_back_28 : decode cX9_back 28 = .ok (.iconst (-1), 1) := by decide +kernel
theorem dX9_back_29 : decode cX9_back 29 = .ok (.ireturn, 1) := by decide +kernel
theorem dX9_back_30 : decode cX9_back 30 = .ok (.aload_n 0, 1) := by decide +kernel
theorem dX9_back_31 : decode cX9_back 31 = .ok (.invokevirtual 115, 3) := by decide +kernel
theorem dX9_back_34 : decode cX9_back 34 = .ok (.iload_n 1, 1) := by decide +kernel
theorem dX9_back_35 : decode cX9_back 35 = .ok (.ifCond .ne 5, 3) := by decide +kernel
theorem dX9_back_38 : decode cX9_back 38 = .ok (.iload_n 2, 1) := by decide +kernel
theorem dX9_back_39 : decode cX9_back 39 = .ok (.ireturn, 1) := by decide +kernel
theorem dX9_back_40 : decode cX9_back 40 = .ok (.aload_n 0, 1) := by decide +kernel
theorem dX9_back_41 : decode cX9_back 41 = .ok (.iload_n 2, 1) := by decide +kernel
theorem dX9_back_42 : decode cX9_back 42 = .ok (.iconst 1, 1) := by decide +kernel
theorem dX9_back_43 : decode cX9_back 43 = .ok (.iadd, 1) := by decide +kernel
theorem dX9_back_44 : decode cX9_back 44 = .ok (.invokevirtual 109, 3) := by decide +kernel
theorem dX9_back_47 : decode cX9_back 47 = .ok (.aload_n 0, 1) := by decide +kernel
theorem dX9_back_48 : decode cX9_back 48 = .ok (.getfield 56, 3) := by decide +kernel
theorem dX9_back_51 : decode cX9_back 51 = .ok (.invokevirtual 112, 3) := by decide +kernel
theorem dX9_back_54 : decode cX9_back 54 = .ok (.iconst 0, 1) := by decide +kernel
theorem dX9_back_55 : decode cX9_back 55 = .ok (.istore_n 3, 1) := by decide +kernel
theorem dX9_back_56 : decode cX9_back 56 = .ok (.iload_n 3, 1) := by decide +kernel
theorem dX9_back_57 : decode cX9_back 57 = .ok (.iload_n 2, 1) := by decide +kernel
theorem dX9_back_58 : decode cX9_back 58 = .ok (.if_icmp .gt 48, 3) := by decide +kernel
theorem dX9_back_61 : decode cX9_back 61 = .ok (.iload_n 3, 1) := by decide +kernel
theorem dX9_back_62 : decode cX9_back 62 = .ok (.aload_n 0, 1) := by decide +kernel
theorem dX9_back_63 : decode cX9_back 63 = .ok (.getfield 67, 3) := by decide +kernel
theorem dX9_back_66 : decode cX9_back 66 = .ok (.arraylength, 1) := by decide +kernel
theorem dX9_back_67 : decode cX9_back 67 = .ok (.if_icmp .ge 39, 3) := by decide +kernel
theorem dX9_back_70 : decode cX9_back 70 = .ok (.aload_n 0, 1) := by decide +kernel
theorem dX9_back_71 : decode cX9_back 71 = .ok (.getfield 67, 3) := by decide +kernel
theorem dX9_back_74 : decode cX9_back 74 = .ok (.iload_n 3, 1) := by decide +kernel
theorem dX9_back_75 : decode cX9_back 75 = .ok (.baload, 1) := by decide +kernel
theorem dX9_back_76 : decode cX9_back 76 = .ok (.ifCond .eq 11, 3) := by decide +kernel
theorem dX9_back_79 : decode cX9_back 79 = .ok (.aload_n 0, 1) := by decide +kernel
theorem dX9_back_80 : decode cX9_back 80 = .ok (.getfield 63, 3) := by decide +kernel
theorem dX9_back_83 : decode cX9_back 83 = .ok (.invokevirtual 135, 3) := by decide +kernel
theorem dX9_back_86 : decode cX9_back 86 = .ok (.pop, 1) := by decide +kernel
theorem dX9_back_87 : decode cX9_back 87 = .ok (.iload_n 3, 1) := by decide +kernel
theorem dX9_back_88 : decode cX9_back 88 = .ok (.iload_n 2, 1) := by decide +kernel
theorem dX9_back_89 : decode cX9_back 89 = .ok (.if_icmp .ge 11, 3) := by decide +kernel
theorem dX9_back_92 : decode cX9_back 92 = .ok (.aload_n 0, 1) := by decide +kernel
theorem dX9_back_93 : decode cX9_back 93 = .ok (.getfield 56, 3) := by decide +kernel
theorem dX9_back_96 : decode cX9_back 96 = .ok (.invokevirtual 123, 3) := by decide +kernel
theorem dX9_back_99 : decode cX9_back 99 = .ok (.pop, 1) := by decide +kernel
theorem dX9_back_100 : decode cX9_back 100 = .ok (.iinc 3 1, 3) := by decide +kernel
theorem dX9_back_103 : decode cX9_back 103 = .ok (.goto (-47), 3) := by decide +kernel
theorem dX9_back_106 : decode cX9_back 106 = .ok (.iload_n 2, 1) := by decide +kernel
theorem dX9_back_107 : decode cX9_back 107 = .ok (.ireturn, 1) := by decide +kernel
theorem dX9_sweep_0 : decode cX9_sweep 0 = .ok (.aload_n 0, 1) := by decide +kernel
theorem dX9_sweep_1 : decode cX9_sweep 1 = .ok (.getfield 71, 3) := by decide +kernel
theorem dX9_sweep_4 : decode cX9_sweep 4 = .ok (.ifCond .ne 6, 3) := by decide +kernel
theorem dX9_sweep_7 : decode cX9_sweep 7 = .ok (.bipush (-3), 2) := by decide +kernel
theorem dX9_sweep_9 : decode cX9_sweep 9 = .ok (.ireturn, 1) := by decide +kernel
theorem dX9_sweep_10 : decode cX9_sweep 10 = .ok (.aload_n 0, 1) := by decide +kernel
theorem dX9_sweep_11 : decode cX9_sweep 11 = .ok (.getfield 63, 3) := by decide +kernel
theorem dX9_sweep_14 : decode cX9_sweep 14 = .ok (.invokevirtual 135, 3) := by decide +kernel
theorem dX9_sweep_17 : decode cX9_sweep 17 = .ok (.istore_n 1, 1) := by decide +kernel
theorem dX9_sweep_18 : decode cX9_sweep 18 = .ok (.aload_n 0, 1) := by decide +kernel
theorem dX9_sweep_19 : decode cX9_sweep 19 = .ok (.getfield 56, 3) := by decide +kernel
theorem dX9_sweep_22 : decode cX9_sweep 22 = .ok (.invokevirtual 132, 3) := by decide +kernel
theorem dX9_sweep_25 : decode cX9_sweep 25 = .ok (.istore_n 2, 1) := by decide +kernel
theorem dX9_sweep_26 : decode cX9_sweep 26 = .ok (.iload_n 1, 1) := by decide +kernel
theorem dX9_sweep_27 : decode cX9_sweep 27 = .ok (.ifCond .le 23, 3) := by decide +kernel
theorem dX9_sweep_30 : decode cX9_sweep 30 = .ok (.iload_n 2, 1) := by decide +kernel
theorem dX9_sweep_31 : decode cX9_sweep 31 = .ok (.ifCond .lt 19, 3) := by decide +kernel
theorem dX9_sweep_34 : decode cX9_sweep 34 = .ok (.iload_n 2, 1) := by decide +kernel
theorem dX9_sweep_35 : decode cX9_sweep 35 = .ok (.aload_n 0, 1) := by decide +kernel
theorem dX9_sweep_36 : decode cX9_sweep 36 = .ok (.getfield 67, 3) := by decide +kernel
theorem dX9_sweep_39 : decode cX9_sweep 39 = .ok (.arraylength, 1) := by decide +kernel
theorem dX9_sweep_40 : decode cX9_sweep 40 = .ok (.if_icmp .ge 10, 3) := by decide +kernel
theorem dX9_sweep_43 : decode cX9_sweep 43 = .ok (.aload_n 0, 1) := by decide +kernel
theorem dX9_sweep_44 : decode cX9_sweep 44 = .ok (.getfield 67, 3) := by decide +kernel
theorem dX9_sweep_47 : decode cX9_sweep 47 = .ok (.iload_n 2, 1) := by decide +kernel
theorem dX9_sweep_48 : decode cX9_sweep 48 = .ok (.iconst 1, 1) := by decide +kernel
theorem dX9_sweep_49 : decode cX9_sweep 49 = .ok (.bastore, 1) := by decide +kernel
theorem dX9_sweep_50 : decode cX9_sweep 50 = .ok (.aload_n 0, 1) := by decide +kernel
theorem dX9_sweep_51 : decode cX9_sweep 51 = .ok (.invokevirtual 115, 3) := by decide +kernel
theorem dX9_sweep_54 : decode cX9_sweep 54 = .ok (.iload_n 1, 1) := by decide +kernel
theorem dX9_sweep_55 : decode cX9_sweep 55 = .ok (.ireturn, 1) := by decide +kernel
theorem dX9_count_0 : decode cX9_count 0 = .ok (.aload_n 0, 1) := by decide +kernel
theorem dX9_count_1 : decode cX9_count 1 = .ok (.getfield 71, 3) := by decide +kernel
theorem dX9_count_4 : decode cX9_count 4 = .ok (.ifCond .ne 6, 3) := by decide +kernel
theorem dX9_count_7 : decode cX9_count 7 = .ok (.bipush (-3), 2) := by decide +kernel
theorem dX9_count_9 : decode cX9_count 9 = .ok (.ireturn, 1) := by decide +kernel
theorem dX9_count_10 : decode cX9_count 10 = .ok (.iload_n 1, 1) := by decide +kernel
theorem dX9_count_11 : decode cX9_count 11 = .ok (.tableswitch 97 0 6 #[41, 49, 57, 65, 73, 81, 89], 41) := by decide +kernel
theorem dX9_count_52 : decode cX9_count 52 = .ok (.aload_n 0, 1) := by decide +kernel
theorem dX9_count_53 : decode cX9_count 53 = .ok (.getfield 40, 3) := by decide +kernel
theorem dX9_count_56 : decode cX9_count 56 = .ok (.invokevirtual 138, 3) := by decide +kernel
theorem dX9_count_59 : decode cX9_count 59 = .ok (.ireturn, 1) := by decide +kernel
theorem dX9_count_60 : decode cX9_count 60 = .ok (.aload_n 0, 1) := by decide +kernel
theorem dX9_count_61 : decode cX9_count 61 = .ok (.getfield 63, 3) := by decide +kernel
theorem dX9_count_64 : decode cX9_count 64 = .ok (.invokevirtual 141, 3) := by decide +kernel
theorem dX9_count_67 : decode cX9_count 67 = .ok (.ireturn, 1) := by decide +kernel
theorem dX9_count_68 : decode cX9_count 68 = .ok (.aload_n 0, 1) := by decide +kernel
theorem dX9_count_69 : decode cX9_count 69 = .ok (.getfield 47, 3) := by decide +kernel
theorem dX9_count_72 : decode cX9_count 72 = .ok (.invokevirtual 144, 3) := by decide +kernel
theorem dX9_count_75 : decode cX9_count 75 = .ok (.ireturn, 1) := by decide +kernel
theorem dX9_count_76 : decode cX9_count 76 = .ok (.aload_n 0, 1) := by decide +kernel
theorem dX9_count_77 : decode cX9_count 77 = .ok (.getfield 47, 3) := by decide +kernel
theorem dX9_count_80 : decode cX9_count 80 = .ok (.invokevirtual 147, 3) := by decide +kernel
theorem dX9_count_83 : decode cX9_count 83 = .ok (.ireturn, 1) := by decide +kernel
theorem dX9_count_84 : decode cX9_count 84 = .ok (.aload_n 0, 1) := by decide +kernel
theorem dX9_count_85 : decode cX9_count 85 = .ok (.getfield 56, 3) := by decide +kernel
theorem dX9_count_88 : decode cX9_count 88 = .ok (.invokevirtual 132, 3) := by decide +kernel
theorem dX9_count_91 : decode cX9_count 91 = .ok (.ireturn, 1) := by decide +kernel
theorem dX9_count_92 : decode cX9_count 92 = .ok (.aload_n 0, 1) := by decide +kernel
theorem dX9_count_93 : decode cX9_count 93 = .ok (.getfield 40, 3) := by decide +kernel
theorem dX9_count_96 : decode cX9_count 96 = .ok (.invokevirtual 150, 3) := by decide +kernel
theorem dX9_count_99 : decode cX9_count 99 = .ok (.ireturn, 1) := by decide +kernel
theorem dX9_count_100 : decode cX9_count 100 = .ok (.aload_n 0, 1) := by decide +kernel
theorem dX9_count_101 : decode cX9_count 101 = .ok (.getfield 40, 3) := by decide +kernel
theorem dX9_count_104 : decode cX9_count 104 = .ok (.invokevirtual 153, 3) := by decide +kernel
theorem dX9_count_107 : decode cX9_count 107 = .ok (.ireturn, 1) := by decide +kernel
theorem dX9_count_108 : decode cX9_count 108 = .ok (.iconst (-1), 1) := by decide +kernel
theorem dX9_count_109 : decode cX9_count 109 = .ok (.ireturn, 1) := by decide +kernel
theorem dX9_node_0 : decode cX9_node 0 = .ok (.aload_n 0, 1) := by decide +kernel
theorem dX9_node_1 : decode cX9_node 1 = .ok (.getfield 71, 3) := by decide +kernel
theorem dX9_node_4 : decode cX9_node 4 = .ok (.ifCond .ne 6, 3) := by decide +kernel
theorem dX9_node_7 : decode cX9_node 7 = .ok (.bipush (-3), 2) := by decide +kernel
theorem dX9_node_9 : decode cX9_node 9 = .ok (.ireturn, 1) := by decide +kernel
theorem dX9_node_10 : decode cX9_node 10 = .ok (.aload_n 0, 1) := by decide +kernel
theorem dX9_node_11 : decode cX9_node 11 = .ok (.getfield 40, 3) := by decide +kernel
theorem dX9_node_14 : decode cX9_node 14 = .ok (.iload_n 1, 1) := by decide +kernel
theorem dX9_node_15 : decode cX9_node 15 = .ok (.invokevirtual 156, 3) := by decide +kernel
theorem dX9_node_18 : decode cX9_node 18 = .ok (.ifCond .eq 5, 3) := by decide +kernel
theorem dX9_node_21 : decode cX9_node 21 = .ok (.iconst (-1), 1) := by decide +kernel
theorem dX9_node_22 : decode cX9_node 22 = .ok (.ireturn, 1) := by decide +kernel
theorem dX9_node_23 : decode cX9_node 23 = .ok (.iload_n 2, 1) := by decide +kernel
theorem dX9_node_24 : decode cX9_node 24 = .ok (.tableswitch 102 0 5 #[40, 49, 58, 67, 76, 85], 40) := by decide +kernel
theorem dX9_node_64 : decode cX9_node 64 = .ok (.aload_n 0, 1) := by decide +kernel
theorem dX9_node_65 : decode cX9_node 65 = .ok (.getfield 40, 3) := by decide +kernel
theorem dX9_node_68 : decode cX9_node 68 = .ok (.iload_n 1, 1) := by decide +kernel
theorem dX9_node_69 : decode cX9_node 69 = .ok (.invokevirtual 159, 3) := by decide +kernel
theorem dX9_node_72 : decode cX9_node 72 = .ok (.ireturn, 1) := by decide +kernel
theorem dX9_node_73 : decode cX9_node 73 = .ok (.aload_n 0, 1) := by decide +kernel
theorem dX9_node_74 : decode cX9_node 74 = .ok (.getfield 40, 3) := by decide +kernel
theorem dX9_node_77 : decode cX9_node 77 = .ok (.iload_n 1, 1) := by decide +kernel
theorem dX9_node_78 : decode cX9_node 78 = .ok (.invokevirtual 162, 3) := by decide +kernel
theorem dX9_node_81 : decode cX9_node 81 = .ok (.ireturn, 1) := by decide +kernel
theorem dX9_node_82 : decode cX9_node 82 = .ok (.aload_n 0, 1) := by decide +kernel
theorem dX9_node_83 : decode cX9_node 83 = .ok (.getfield 40, 3) := by decide +kernel
theorem dX9_node_86 : decode cX9_node 86 = .ok (.iload_n 1, 1) := by decide +kernel
theorem dX9_node_87 : decode cX9_node 87 = .ok (.invokevirtual 165, 3) := by decide +kernel
theorem dX9_node_90 : decode cX9_node 90 = .ok (.ireturn, 1) := by decide +kernel
theorem dX9_node_91 : decode cX9_node 91 = .ok (.aload_n 0, 1) := by decide +kernel
theorem dX9_node_92 : decode cX9_node 92 = .ok (.getfield 40, 3) := by decide +kernel
theorem dX9_node_95 : decode cX9_node 95 = .ok (.iload_n 1, 1) := by decide +kernel
theorem dX9_node_96 : decode cX9_node 96 = .ok (.invokevirtual 168, 3) := by decide +kernel
theorem dX9_node_99 : decode cX9_node 99 = .ok (.ireturn, 1) := by decide +kernel
theorem dX9_node_100 : decode cX9_node 100 = .ok (.aload_n 0, 1) := by decide +kernel
theorem dX9_node_101 : decode cX9_node 101 = .ok (.getfield 63, 3) := by decide +kernel
theorem dX9_node_104 : decode cX9_node 104 = .ok (.iload_n 1, 1) := by decide +kernel
theorem dX9_node_105 : decode cX9_node 105 = .ok (.invokevirtual 171, 3) := by decide +kernel
theorem dX9_node_108 : decode cX9_node 108 = .ok (.ireturn, 1) := by decide +kernel
theorem dX9_node_109 : decode cX9_node 109 = .ok (.aload_n 0, 1) := by decide +kernel
theorem dX9_node_110 : decode cX9_node 110 = .ok (.getfield 63, 3) := by decide +kernel
theorem dX9_node_113 : decode cX9_node 113 = .ok (.iload_n 1, 1) := by decide +kernel
theorem dX9_node_114 : decode cX9_node 114 = .ok (.invokevirtual 174, 3) := by decide +kernel
theorem dX9_node_117 : decode cX9_node 117 = .ok (.ifCond .eq 7, 3) := by decide +kernel
theorem dX9_node_120 : decode cX9_node 120 = .ok (.iconst 1, 1) := by decide +kernel
theorem dX9_node_121 : decode cX9_node 121 = .ok (.goto 4, 3) := by decide +kernel
theorem dX9_node_124 : decode cX9_node 124 = .ok (.iconst 0, 1) := by decide +kernel
theorem dX9_node_125 : decode cX9_node 125 = .ok (.ireturn, 1) := by decide +kernel
theorem dX9_node_126 : decode cX9_node 126 = .ok (.iconst (-1), 1) := by decide +kernel
theorem dX9_node_127 : decode cX9_node 127 = .ok (.ireturn, 1) := by decide +kernel
theorem dX9_top_0 : decode cX9_top 0 = .ok (.aload_n 0, 1) := by decide +kernel
theorem dX9_top_1 : decode cX9_top 1 = .ok (.getfield 71, 3) := by decide +kernel
theorem dX9_top_4 : decode cX9_top 4 = .ok (.ifCond .ne 6, 3) := by decide +kernel
theorem dX9_top_7 : decode cX9_top 7 = .ok (.bipush (-3), 2) := by decide +kernel
theorem dX9_top_9 : decode cX9_top 9 = .ok (.ireturn, 1) := by decide +kernel
theorem dX9_top_10 : decode cX9_top 10 = .ok (.aload_n 0, 1) := by decide +kernel
theorem dX9_top_11 : decode cX9_top 11 = .ok (.getfield 47, 3) := by decide +kernel
theorem dX9_top_14 : decode cX9_top 14 = .ok (.iload_n 1, 1) := by decide +kernel
theorem dX9_top_15 : decode cX9_top 15 = .ok (.invokevirtual 177, 3) := by decide +kernel
theorem dX9_top_18 : decode cX9_top 18 = .ok (.istore_n 2, 1) := by decide +kernel
theorem dX9_top_19 : decode cX9_top 19 = .ok (.iload_n 2, 1) := by decide +kernel
theorem dX9_top_20 : decode cX9_top 20 = .ok (.iconst (-1), 1) := by decide +kernel
theorem dX9_top_21 : decode cX9_top 21 = .ok (.if_icmp .ne 7, 3) := by decide +kernel
theorem dX9_top_24 : decode cX9_top 24 = .ok (.iconst (-1), 1) := by decide +kernel
theorem dX9_top_25 : decode cX9_top 25 = .ok (.goto 4, 3) := by decide +kernel
theorem dX9_top_28 : decode cX9_top 28 = .ok (.iload_n 2, 1) := by decide +kernel
theorem dX9_top_29 : decode cX9_top 29 = .ok (.ireturn, 1) := by decide +kernel
theorem dX9_why_0 : decode cX9_why 0 = .ok (.aload_n 0, 1) := by decide +kernel
theorem dX9_why_1 : decode cX9_why 1 = .ok (.getfield 71, 3) := by decide +kernel
theorem dX9_why_4 : decode cX9_why 4 = .ok (.ifCond .ne 6, 3) := by decide +kernel
theorem dX9_why_7 : decode cX9_why 7 = .ok (.bipush (-3), 2) := by decide +kernel
theorem dX9_why_9 : decode cX9_why 9 = .ok (.ireturn, 1) := by decide +kernel
theorem dX9_why_10 : decode cX9_why 10 = .ok (.aload_n 0, 1) := by decide +kernel
theorem dX9_why_11 : decode cX9_why 11 = .ok (.getfield 47, 3) := by decide +kernel
theorem dX9_why_14 : decode cX9_why 14 = .ok (.iload_n 1, 1) := by decide +kernel
theorem dX9_why_15 : decode cX9_why 15 = .ok (.invokevirtual 180, 3) := by decide +kernel
theorem dX9_why_18 : decode cX9_why 18 = .ok (.istore_n 2, 1) := by decide +kernel
theorem dX9_why_19 : decode cX9_why 19 = .ok (.iload_n 2, 1) := by decide +kernel
theorem dX9_why_20 : decode cX9_why 20 = .ok (.iconst (-1), 1) := by decide +kernel
theorem dX9_why_21 : decode cX9_why 21 = .ok (.if_icmp .ne 7, 3) := by decide +kernel
theorem dX9_why_24 : decode cX9_why 24 = .ok (.iconst (-1), 1) := by decide +kernel
theorem dX9_why_25 : decode cX9_why 25 = .ok (.goto 4, 3) := by decide +kernel
theorem dX9_why_28 : decode cX9_why 28 = .ok (.iload_n 2, 1) := by decide +kernel
theorem dX9_why_29 : decode cX9_why 29 = .ok (.ireturn, 1) := by decide +kernel
theorem dX9_way_0 : decode cX9_way 0 = .ok (.aload_n 0, 1) := by decide +kernel
theorem dX9_way_1 : decode cX9_way 1 = .ok (.getfield 71, 3) := by decide +kernel
theorem dX9_way_4 : decode cX9_way 4 = .ok (.ifCond .ne 6, 3) := by decide +kernel
theorem dX9_way_7 : decode cX9_way 7 = .ok (.bipush (-3), 2) := by decide +kernel
theorem dX9_way_9 : decode cX9_way 9 = .ok (.ireturn, 1) := by decide +kernel
theorem dX9_way_10 : decode cX9_way 10 = .ok (.aload_n 0, 1) := by decide +kernel
theorem dX9_way_11 : decode cX9_way 11 = .ok (.getfield 63, 3) := by decide +kernel
theorem dX9_way_14 : decode cX9_way 14 = .ok (.iload_n 1, 1) := by decide +kernel
theorem dX9_way_15 : decode cX9_way 15 = .ok (.invokevirtual 183, 3) := by decide +kernel
theorem dX9_way_18 : decode cX9_way 18 = .ok (.istore_n 3, 1) := by decide +kernel
theorem dX9_way_19 : decode cX9_way 19 = .ok (.iload_n 3, 1) := by decide +kernel
theorem dX9_way_20 : decode cX9_way 20 = .ok (.ifCond .eq 13, 3) := by decide +kernel
theorem dX9_way_23 : decode cX9_way 23 = .ok (.iload_n 2, 1) := by decide +kernel
theorem dX9_way_24 : decode cX9_way 24 = .ok (.iconst (-1), 1) := by decide +kernel
theorem dX9_way_25 : decode cX9_way 25 = .ok (.if_icmp .lt 8, 3) := by decide +kernel
theorem dX9_way_28 : decode cX9_way 28 = .ok (.iload_n 2, 1) := by decide +kernel
theorem dX9_way_29 : decode cX9_way 29 = .ok (.iload_n 3, 1) := by decide +kernel
theorem dX9_way_30 : decode cX9_way 30 = .ok (.if_icmp .lt 5, 3) := by decide +kernel
theorem dX9_way_33 : decode cX9_way 33 = .ok (.iconst (-1), 1) := by decide +kernel
theorem dX9_way_34 : decode cX9_way 34 = .ok (.ireturn, 1) := by decide +kernel
theorem dX9_way_35 : decode cX9_way 35 = .ok (.iload_n 2, 1) := by decide +kernel
theorem dX9_way_36 : decode cX9_way 36 = .ok (.iconst (-1), 1) := by decide +kernel
theorem dX9_way_37 : decode cX9_way 37 = .ok (.if_icmp .ne 7, 3) := by decide +kernel
theorem dX9_way_40 : decode cX9_way 40 = .ok (.iload_n 3, 1) := by decide +kernel
theorem dX9_way_41 : decode cX9_way 41 = .ok (.goto 12, 3) := by decide +kernel
theorem dX9_way_44 : decode cX9_way 44 = .ok (.aload_n 0, 1) := by decide +kernel
theorem dX9_way_45 : decode cX9_way 45 = .ok (.getfield 63, 3) := by decide +kernel
theorem dX9_way_48 : decode cX9_way 48 = .ok (.iload_n 1, 1) := by decide +kernel
theorem dX9_way_49 : decode cX9_way 49 = .ok (.iload_n 2, 1) := by decide +kernel
theorem dX9_way_50 : decode cX9_way 50 = .ok (.invokevirtual 186, 3) := by decide +kernel
theorem dX9_way_53 : decode cX9_way 53 = .ok (.ireturn, 1) := by decide +kernel
theorem dX9_profile_0 : decode cX9_profile 0 = .ok (.aload_n 0, 1) := by decide +kernel
theorem dX9_profile_1 : decode cX9_profile 1 = .ok (.getfield 71, 3) := by decide +kernel
theorem dX9_profile_4 : decode cX9_profile 4 = .ok (.ifCond .ne 6, 3) := by decide +kernel
theorem dX9_profile_7 : decode cX9_profile 7 = .ok (.bipush (-3), 2) := by decide +kernel
theorem dX9_profile_9 : decode cX9_profile 9 = .ok (.ireturn, 1) := by decide +kernel
theorem dX9_profile_10 : decode cX9_profile 10 = .ok (.iload_n 1, 1) := by decide +kernel
theorem dX9_profile_11 : decode cX9_profile 11 = .ok (.ifCond .lt 23, 3) := by decide +kernel
theorem dX9_profile_14 : decode cX9_profile 14 = .ok (.iload_n 1, 1) := by decide +kernel
theorem dX9_profile_15 : decode cX9_profile 15 = .ok (.aload_n 0, 1) := by decide +kernel
theorem dX9_profile_16 : decode cX9_profile 16 = .ok (.getfield 19, 3) := by decide +kernel
theorem dX9_profile_19 : decode cX9_profile 19 = .ok (.invokevirtual 118, 3) := by decide +kernel
theorem dX9_profile_22 : decode cX9_profile 22 = .ok (.if_icmp .ge 12, 3) := by decide +kernel
theorem dX9_profile_25 : decode cX9_profile 25 = .ok (.iload_n 2, 1) := by decide +kernel
theorem dX9_profile_26 : decode cX9_profile 26 = .ok (.ifCond .lt 8, 3) := by decide +kernel
theorem dX9_profile_29 : decode cX9_profile 29 = .ok (.iload_n 2, 1) := by decide +kernel
theorem dX9_profile_30 : decode cX9_profile 30 = .ok (.iconst 1, 1) := by decide +kernel
theorem dX9_profile_31 : decode cX9_profile 31 = .ok (.if_icmp .le 5, 3) := by decide +kernel
theorem dX9_profile_34 : decode cX9_profile 34 = .ok (.iconst (-1), 1) := by decide +kernel
theorem dX9_profile_35 : decode cX9_profile 35 = .ok (.ireturn, 1) := by decide +kernel
theorem dX9_profile_36 : decode cX9_profile 36 = .ok (.iload_n 2, 1) := by decide +kernel
theorem dX9_profile_37 : decode cX9_profile 37 = .ok (.ifCond .ne 14, 3) := by decide +kernel
theorem dX9_profile_40 : decode cX9_profile 40 = .ok (.aload_n 0, 1) := by decide +kernel
theorem dX9_profile_41 : decode cX9_profile 41 = .ok (.getfield 56, 3) := by decide +kernel
theorem dX9_profile_44 : decode cX9_profile 44 = .ok (.iload_n 1, 1) := by decide +kernel
theorem dX9_profile_45 : decode cX9_profile 45 = .ok (.invokevirtual 190, 3) := by decide +kernel
theorem dX9_profile_48 : decode cX9_profile 48 = .ok (.goto 11, 3) := by decide +kernel
theorem dX9_profile_51 : decode cX9_profile 51 = .ok (.aload_n 0, 1) := by decide +kernel
theorem dX9_profile_52 : decode cX9_profile 52 = .ok (.getfield 56, 3) := by decide +kernel
theorem dX9_profile_55 : decode cX9_profile 55 = .ok (.iload_n 1, 1) := by decide +kernel
theorem dX9_profile_56 : decode cX9_profile 56 = .ok (.invokevirtual 193, 3) := by decide +kernel
theorem dX9_profile_59 : decode cX9_profile 59 = .ok (.ireturn, 1) := by decide +kernel
theorem dX9_rest_0 : decode cX9_rest 0 = .ok (.aload_n 0, 1) := by decide +kernel
theorem dX9_rest_1 : decode cX9_rest 1 = .ok (.getfield 71, 3) := by decide +kernel
theorem dX9_rest_4 : decode cX9_rest 4 = .ok (.ifCond .eq 11, 3) := by decide +kernel
theorem dX9_rest_7 : decode cX9_rest 7 = .ok (.aload_n 0, 1) := by decide +kernel
theorem dX9_rest_8 : decode cX9_rest 8 = .ok (.getfield 79, 3) := by decide +kernel
theorem dX9_rest_11 : decode cX9_rest 11 = .ok (.iconst 1, 1) := by decide +kernel
theorem dX9_rest_12 : decode cX9_rest 12 = .ok (.if_icmp .eq 6, 3) := by decide +kernel
theorem dX9_rest_15 : decode cX9_rest 15 = .ok (.bipush (-3), 2) := by decide +kernel
theorem dX9_rest_17 : decode cX9_rest 17 = .ok (.ireturn, 1) := by decide +kernel
theorem dX9_rest_18 : decode cX9_rest 18 = .ok (.aload_n 0, 1) := by decide +kernel
theorem dX9_rest_19 : decode cX9_rest 19 = .ok (.getfield 40, 3) := by decide +kernel
theorem dX9_rest_22 : decode cX9_rest 22 = .ok (.aload_n 0, 1) := by decide +kernel
theorem dX9_rest_23 : decode cX9_rest 23 = .ok (.getfield 47, 3) := by decide +kernel
theorem dX9_rest_26 : decode cX9_rest 26 = .ok (.iconst 0, 1) := by decide +kernel
theorem dX9_rest_27 : decode cX9_rest 27 = .ok (.invokevirtual 177, 3) := by decide +kernel
theorem dX9_rest_30 : decode cX9_rest 30 = .ok (.invokevirtual 159, 3) := by decide +kernel
theorem dX9_rest_33 : decode cX9_rest 33 = .ok (.lookupswitch 41 #[(0, 35), (4, 37), (5, 39)], 35) := by decide +kernel
theorem dX9_rest_68 : decode cX9_rest 68 = .ok (.iconst 0, 1) := by decide +kernel
theorem dX9_rest_69 : decode cX9_rest 69 = .ok (.ireturn, 1) := by decide +kernel
theorem dX9_rest_70 : decode cX9_rest 70 = .ok (.iconst 1, 1) := by decide +kernel
theorem dX9_rest_71 : decode cX9_rest 71 = .ok (.ireturn, 1) := by decide +kernel
theorem dX9_rest_72 : decode cX9_rest 72 = .ok (.iconst 2, 1) := by decide +kernel
theorem dX9_rest_73 : decode cX9_rest 73 = .ok (.ireturn, 1) := by decide +kernel
theorem dX9_rest_74 : decode cX9_rest 74 = .ok (.iconst 3, 1) := by decide +kernel
theorem dX9_rest_75 : decode cX9_rest 75 = .ok (.ireturn, 1) := by decide +kernel
theorem dX9_share_0 : decode cX9_share 0 = .ok (.aload_n 0, 1) := by decide +kernel
theorem dX9_share_1 : decode cX9_share 1 = .ok (.getfield 40, 3) := by decide +kernel
theorem dX9_share_4 : decode cX9_share 4 = .ok (.invokevirtual 138, 3) := by decide +kernel
theorem dX9_share_7 : decode cX9_share 7 = .ok (.istore_n 1, 1) := by decide +kernel
theorem dX9_share_8 : decode cX9_share 8 = .ok (.aload_n 0, 1) := by decide +kernel
theorem dX9_share_9 : decode cX9_share 9 = .ok (.getfield 71, 3) := by decide +kernel
theorem dX9_share_12 : decode cX9_share 12 = .ok (.ifCond .eq 7, 3) := by decide +kernel
theorem dX9_share_15 : decode cX9_share 15 = .ok (.iload_n 1, 1) := by decide +kernel
theorem dX9_share_16 : decode cX9_share 16 = .ok (.ifCond .ne 13, 3) := by decide +kernel
theorem dX9_share_19 : decode cX9_share 19 = .ok (.new 196, 3) := by decide +kernel
theorem dX9_share_22 : decode cX9_share 22 = .ok (.dup, 1) := by decide +kernel
theorem dX9_share_23 : decode cX9_share 23 = .ok (.ldc 198, 2) := by decide +kernel
theorem dX9_share_25 : decode cX9_share 25 = .ok (.invokespecial 200, 3) := by decide +kernel
theorem dX9_share_28 : decode cX9_share 28 = .ok (.athrow, 1) := by decide +kernel
theorem dX9_share_29 : decode cX9_share 29 = .ok (.sipush 1000, 3) := by decide +kernel
theorem dX9_share_32 : decode cX9_share 32 = .ok (.aload_n 0, 1) := by decide +kernel
theorem dX9_share_33 : decode cX9_share 33 = .ok (.getfield 63, 3) := by decide +kernel
theorem dX9_share_36 : decode cX9_share 36 = .ok (.invokevirtual 141, 3) := by decide +kernel
theorem dX9_share_39 : decode cX9_share 39 = .ok (.imul, 1) := by decide +kernel
theorem dX9_share_40 : decode cX9_share 40 = .ok (.iload_n 1, 1) := by decide +kernel
theorem dX9_share_41 : decode cX9_share 41 = .ok (.idiv, 1) := by decide +kernel
theorem dX9_share_42 : decode cX9_share 42 = .ok (.ireturn, 1) := by decide +kernel
theorem dX9_goOn_0 : decode cX9_goOn 0 = .ok (.aload_n 0, 1) := by decide +kernel
theorem dX9_goOn_1 : decode cX9_goOn 1 = .ok (.iconst 0, 1) := by decide +kernel
theorem dX9_goOn_2 : decode cX9_goOn 2 = .ok (.putfield 79, 3) := by decide +kernel
theorem dX9_goOn_5 : decode cX9_goOn 5 = .ok (.aload_n 0, 1) := by decide +kernel
theorem dX9_goOn_6 : decode cX9_goOn 6 = .ok (.iconst 0, 1) := by decide +kernel
theorem dX9_goOn_7 : decode cX9_goOn 7 = .ok (.putfield 82, 3) := by decide +kernel
theorem dX9_goOn_10 : decode cX9_goOn 10 = .ok (.return_, 1) := by decide +kernel
theorem dX9_forgetSweeps_0 : decode cX9_forgetSweeps 0 = .ok (.iload_n 1, 1) := by decide +kernel
theorem dX9_forgetSweeps_1 : decode cX9_forgetSweeps 1 = .ok (.istore_n 2, 1) := by decide +kernel
theorem dX9_forgetSweeps_2 : decode cX9_forgetSweeps 2 = .ok (.iload_n 2, 1) := by decide +kernel
theorem dX9_forgetSweeps_3 : decode cX9_forgetSweeps 3 = .ok (.ifCond .lt 36, 3) := by decide +kernel
theorem dX9_forgetSweeps_6 : decode cX9_forgetSweeps 6 = .ok (.iload_n 2, 1) := by decide +kernel
theorem dX9_forgetSweeps_7 : decode cX9_forgetSweeps 7 = .ok (.aload_n 0, 1) := by decide +kernel
theorem dX9_forgetSweeps_8 : decode cX9_forgetSweeps 8 = .ok (.getfield 56, 3) := by decide +kernel
theorem dX9_forgetSweeps_11 : decode cX9_forgetSweeps 11 = .ok (.invokevirtual 132, 3) := by decide +kernel
theorem dX9_forgetSweeps_14 : decode cX9_forgetSweeps 14 = .ok (.if_icmp .gt 25, 3) := by decide +kernel
theorem dX9_forgetSweeps_17 : decode cX9_forgetSweeps 17 = .ok (.iload_n 2, 1) := by decide +kernel
theorem dX9_forgetSweeps_18 : decode cX9_forgetSweeps 18 = .ok (.aload_n 0, 1) := by decide +kernel
theorem dX9_forgetSweeps_19 : decode cX9_forgetSweeps 19 = .ok (.getfield 67, 3) := by decide +kernel
theorem dX9_forgetSweeps_22 : decode cX9_forgetSweeps 22 = .ok (.arraylength, 1) := by decide +kernel
theorem dX9_forgetSweeps_23 : decode cX9_forgetSweeps 23 = .ok (.if_icmp .ge 16, 3) := by decide +kernel
theorem dX9_forgetSweeps_26 : decode cX9_forgetSweeps 26 = .ok (.aload_n 0, 1) := by decide +kernel
theorem dX9_forgetSweeps_27 : decode cX9_forgetSweeps 27 = .ok (.getfield 67, 3) := by decide +kernel
theorem dX9_forgetSweeps_30 : decode cX9_forgetSweeps 30 = .ok (.iload_n 2, 1) := by decide +kernel
theorem dX9_forgetSweeps_31 : decode cX9_forgetSweeps 31 = .ok (.iconst 0, 1) := by decide +kernel
theorem dX9_forgetSweeps_32 : decode cX9_forgetSweeps 32 = .ok (.bastore, 1) := by decide +kernel
theorem dX9_forgetSweeps_33 : decode cX9_forgetSweeps 33 = .ok (.iinc 2 1, 3) := by decide +kernel
theorem dX9_forgetSweeps_36 : decode cX9_forgetSweeps 36 = .ok (.goto (-34), 3) := by decide +kernel
theorem dX9_forgetSweeps_39 : decode cX9_forgetSweeps 39 = .ok (.return_, 1) := by decide +kernel
theorem dX10_init_0 : decode cX10_init 0 = .ok (.aload_n 0, 1) := by decide +kernel
theorem dX10_init_1 : decode cX10_init 1 = .ok (.invokespecial 1, 3) := by decide +kernel
theorem dX10_init_4 : decode cX10_init 4 = .ok (.aload_n 0, 1) := by decide +kernel
theorem dX10_init_5 : decode cX10_init 5 = .ok (.sipush 800, 3) := by decide +kernel
theorem dX10_init_8 : decode cX10_init 8 = .ok (.newarray .int, 2) := by decide +kernel
theorem dX10_init_10 : decode cX10_init 10 = .ok (.putfield 7, 3) := by decide +kernel
theorem dX10_init_13 : decode cX10_init 13 = .ok (.aload_n 0, 1) := by decide +kernel
theorem dX10_init_14 : decode cX10_init 14 = .ok (.bipush 15, 2) := by decide +kernel
theorem dX10_init_16 : decode cX10_init 16 = .ok (.newarray .long, 2) := by decide +kernel
theorem dX10_init_18 : decode cX10_init 18 = .ok (.dup, 1) := by decide +kernel
theorem dX10_init_19 : decode cX10_init 19 = .ok (.iconst 0, 1) := by decide +kernel
theorem dX10_init_20 : decode cX10_init 20 = .ok (.ldc2_w 13, 3) := by decide +kernel
theorem dX10_init_23 : decode cX10_init 23 = .ok (.lastore, 1) := by decide +kernel
theorem dX10_init_24 : decode cX10_init 24 = .ok (.dup, 1) := by decide +kernel
theorem dX10_init_25 : decode cX10_init 25 = .ok (.iconst 1, 1) := by decide +kernel
theorem dX10_init_26 : decode cX10_init 26 = .ok (.ldc2_w 15, 3) := by decide +kernel
theorem dX10_init_29 : decode cX10_init 29 = .ok (.lastore, 1) := by decide +kernel
theorem dX10_init_30 : decode cX10_init 30 = .ok (.dup, 1) := by decide +kernel
theorem dX10_init_31 : decode cX10_init 31 = .ok (.iconst 2, 1) := by decide +kernel
theorem dX10_init_32 : decode cX10_init 32 = .ok (.ldc2_w 17, 3) := by decide +kernel
theorem dX10_init_35 : decode cX10_init 35 = .ok (.lastore, 1) := by decide +kernel
theorem dX10_init_36 : decode cX10_init 36 = .ok (.dup, 1) := by decide +kernel
theorem dX10_init_37 : decode cX10_init 37 = .ok (.iconst 3, 1) := by decide +kernel
theorem dX10_init_38 : decode cX10_init 38 = .ok (.ldc2_w 19, 3) := by decide +kernel
theorem dX10_init_41 : decode cX10_init 41 = .ok (.lastore, 1) := by decide +kernel
theorem dX10_init_42 : decode cX10_init 42 = .ok (.dup, 1) := by decide +kernel
theorem dX10_init_43 : decode cX10_init 43 = .ok (.iconst 4, 1) := by decide +kernel
theorem dX10_init_44 : decode cX10_init 44 = .ok (.ldc2_w 21, 3) := by decide +kernel
theorem dX10_init_47 : decode cX10_init 47 = .ok (.lastore, 1) := by decide +kernel
theorem dX10_init_48 : decode cX10_init 48 = .ok (.dup, 1) := by decide +kernel
theorem dX10_init_49 : decode cX10_init 49 = .ok (.iconst 5, 1) := by decide +kernel
theorem dX10_init_50 : decode cX10_init 50 = .ok (.ldc2_w 23, 3) := by decide +kernel
theorem dX10_init_53 : decode cX10_init 53 = .ok (.lastore, 1) := by decide +kernel
theorem dX10_init_54 : decode cX10_init 54 = .ok (.dup, 1) := by decide +kernel
theorem dX10_init_55 : decode cX10_init 55 = .ok (.bipush 6, 2) := by decide +kernel
theorem dX10_init_57 : decode cX10_init 57 = .ok (.ldc2_w 25, 3) := by decide +kernel
theorem dX10_init_60 : decode cX10_init 60 = .ok (.lastore, 1) := by decide +kernel
theorem dX10_init_61 : decode cX10_init 61 = .ok (.dup, 1) := by decide +kernel
theorem dX10_init_62 : decode cX10_init 62 = .ok (.bipush 7, 2) := by decide +kernel
theorem dX10_init_64 : decode cX10_init 64 = .ok (.ldc2_w 27, 3) := by decide +kernel
theorem dX10_init_67 : decode cX10_init 67 = .ok (.lastore, 1) := by decide +kernel
theorem dX10_init_68 : decode cX10_init 68 = .ok (.dup, 1) := by decide +kernel
theorem dX10_init_69 : decode cX10_init 69 = .ok (.bipush 8, 2) := by decide +kernel
theorem dX10_init_71 : decode cX10_init 71 = .ok (.ldc2_w 29, 3) := by decide +kernel
theorem dX10_init_74 : decode cX10_init 74 = .ok (.lastore, 1) := by decide +kernel
theorem dX10_init_75 : decode cX10_init 75 = .ok (.dup, 1) := by decide +kernel
theorem dX10_init_76 : decode cX10_init 76 = .ok (.bipush 9, 2) := by decide +kernel
theorem dX10_init_78 : decode cX10_init 78 = .ok (.ldc2_w 31, 3) := by decide +kernel
theorem dX10_init_81 : decode cX10_init 81 = .ok (.lastore, 1) := by decide +kernel
theorem dX10_init_82 : decode cX10_init 82 = .ok (.dup, 1) := by decide +kernel
theorem dX10_init_83 : decode cX10_init 83 = .ok (.bipush 10, 2) := by decide +kernel
theorem dX10_init_85 : decode cX10_init 85 = .ok (.ldc2_w 33, 3) := by decide +kernel
theorem dX10_init_88 : decode cX10_init 88 = .ok (.lastore, 1) := by decide +kernel
theorem dX10_init_89 : decode cX10_init 89 = .ok (.dup, 1) := by decide +kernel
theorem dX10_init_90 : decode cX10_init 90 = .ok (.bipush 11, 2) := by decide +kernel
theorem dX10_init_92 : decode cX10_init 92 = .ok (.ldc2_w 35, 3) := by decide +kernel
theorem dX10_init_95 : decode cX10_init 95 = .ok (.lastore, 1) := by decide +kernel
theorem dX10_init_96 : decode cX10_init 96 = .ok (.dup, 1) := by decide +kernel
theorem dX10_init_97 : decode cX10_init 97 = .ok (.bipush 12, 2) := by decide +kernel
theorem dX10_init_99 : decode cX10_init 99 = .ok (.ldc2_w 37, 3) := by decide +kernel
theorem dX10_init_102 : decode cX10_init 102 = .ok (.lastore, 1) := by decide +kernel
theorem dX10_init_103 : decode cX10_init 103 = .ok (.dup, 1) := by decide +kernel
theorem dX10_init_104 : decode cX10_init 104 = .ok (.bipush 13, 2) := by decide +kernel
theorem dX10_init_106 : decode cX10_init 106 = .ok (.ldc2_w 39, 3) := by decide +kernel
theorem dX10_init_109 : decode cX10_init 109 = .ok (.lastore, 1) := by decide +kernel
theorem dX10_init_110 : decode cX10_init 110 = .ok (.dup, 1) := by decide +kernel
theorem dX10_init_111 : decode cX10_init 111 = .ok (.bipush 14, 2) := by decide +kernel
theorem dX10_init_113 : decode cX10_init 113 = .ok (.ldc2_w 41, 3) := by decide +kernel
theorem dX10_init_116 : decode cX10_init 116 = .ok (.lastore, 1) := by decide +kernel
theorem dX10_init_117 : decode cX10_init 117 = .ok (.putfield 43, 3) := by decide +kernel
theorem dX10_init_120 : decode cX10_init 120 = .ok (.aload_n 0, 1) := by decide +kernel
theorem dX10_init_121 : decode cX10_init 121 = .ok (.bipush 21, 2) := by decide +kernel
theorem dX10_init_123 : decode cX10_init 123 = .ok (.newarray .long, 2) := by decide +kernel
theorem dX10_init_125 : decode cX10_init 125 = .ok (.putfield 47, 3) := by decide +kernel
theorem dX10_init_128 : decode cX10_init 128 = .ok (.aload_n 0, 1) := by decide +kernel
theorem dX10_init_129 : decode cX10_init 129 = .ok (.bipush 21, 2) := by decide +kernel
theorem dX10_init_131 : decode cX10_init 131 = .ok (.newarray .int, 2) := by decide +kernel
theorem dX10_init_133 : decode cX10_init 133 = .ok (.putfield 50, 3) := by decide +kernel
theorem dX10_init_136 : decode cX10_init 136 = .ok (.aload_n 0, 1) := by decide +kernel
theorem dX10_init_137 : decode cX10_init 137 = .ok (.sipush 168, 3) := by decide +kernel
theorem dX10_init_140 : decode cX10_init 140 = .ok (.newarray .long, 2) := by decide +kernel
theorem dX10_init_142 : decode cX10_init 142 = .ok (.putfield 53, 3) := by decide +kernel
theorem dX10_init_145 : decode cX10_init 145 = .ok (.aload_n 0, 1) := by decide +kernel
theorem dX10_init_146 : decode cX10_init 146 = .ok (.bipush 21, 2) := by decide +kernel
theorem dX10_init_148 : decode cX10_init 148 = .ok (.newarray .int, 2) := by decide +kernel
theorem dX10_init_150 : decode cX10_init 150 = .ok (.putfield 56, 3) := by decide +kernel
theorem dX10_init_153 : decode cX10_init 153 = .ok (.aload_n 0, 1) := by decide +kernel
theorem dX10_init_154 : decode cX10_init 154 = .ok (.bipush 21, 2) := by decide +kernel
theorem dX10_init_156 : decode cX10_init 156 = .ok (.newarray .int, 2) := by decide +kernel
theorem dX10_init_158 : decode cX10_init 158 = .ok (.putfield 59, 3) := by decide +kernel
theorem dX10_init_161 : decode cX10_init 161 = .ok (.aload_n 0, 1) := by decide +kernel
theorem dX10_init_162 : decode cX10_init 162 = .ok (.bipush 21, 2) := by decide +kernel
theorem dX10_init_164 : decode cX10_init 164 = .ok (.newarray .int, 2) := by decide +kernel
theorem dX10_init_166 : decode cX10_init 166 = .ok (.putfield 62, 3) := by decide +kernel
theorem dX10_init_169 : decode cX10_init 169 = .ok (.aload_n 0, 1) := by decide +kernel
theorem dX10_init_170 : decode cX10_init 170 = .ok (.sipush 1700, 3) := by decide +kernel
theorem dX10_init_173 : decode cX10_init 173 = .ok (.newarray .int, 2) := by decide +kernel
theorem dX10_init_175 : decode cX10_init 175 = .ok (.putfield 65, 3) := by decide +kernel
theorem dX10_init_178 : decode cX10_init 178 = .ok (.aload_n 0, 1) := by decide +kernel
theorem dX10_init_179 : decode cX10_init 179 = .ok (.sipush 1700, 3) := by decide +kernel
theorem dX10_init_182 : decode cX10_init 182 = .ok (.newarray .int, 2) := by decide +kernel
theorem dX10_init_184 : decode cX10_init 184 = .ok (.putfield 68, 3) := by decide +kernel
theorem dX10_init_187 : decode cX10_init 187 = .ok (.aload_n 0, 1) := by decide +kernel
theorem dX10_init_188 : decode cX10_init 188 = .ok (.sipush 1700, 3) := by decide +kernel
theorem dX10_init_191 : decode cX10_init 191 = .ok (.newarray .long, 2) := by decide +kernel
theorem dX10_init_193 : decode cX10_init 193 = .ok (.putfield 71, 3) := by decide +kernel
theorem dX10_init_196 : decode cX10_init 196 = .ok (.aload_n 0, 1) := by decide +kernel
theorem dX10_init_197 : decode cX10_init 197 = .ok (.sipush 1700, 3) := by decide +kernel
theorem dX10_init_200 : decode cX10_init 200 = .ok (.newarray .int, 2) := by decide +kernel
theorem dX10_init_202 : decode cX10_init 202 = .ok (.putfield 74, 3) := by decide +kernel
theorem dX10_init_205 : decode cX10_init 205 = .ok (.aload_n 0, 1) := by decide +kernel
theorem dX10_init_206 : decode cX10_init 206 = .ok (.sipush 1700, 3) := by decide +kernel
theorem dX10_init_209 : decode cX10_init 209 = .ok (.newarray .int, 2) := by decide +kernel
theorem dX10_init_211 : decode cX10_init 211 = .ok (.putfield 77, 3) := by decide +kernel
theorem dX10_init_214 : decode cX10_init 214 = .ok (.aload_n 0, 1) := by decide +kernel
theorem dX10_init_215 : decode cX10_init 215 = .ok (.sipush 300, 3) := by decide +kernel
theorem dX10_init_218 : decode cX10_init 218 = .ok (.newarray .int, 2) := by decide +kernel
theorem dX10_init_220 : decode cX10_init 220 = .ok (.putfield 80, 3) := by decide +kernel
theorem dX10_init_223 : decode cX10_init 223 = .ok (.aload_n 0, 1) := by decide +kernel
theorem dX10_init_224 : decode cX10_init 224 = .ok (.sipush 300, 3) := by decide +kernel
theorem dX10_init_227 : decode cX10_init 227 = .ok (.newarray .int, 2) := by decide +kernel
theorem dX10_init_229 : decode cX10_init 229 = .ok (.putfield 83, 3) := by decide +kernel
theorem dX10_init_232 : decode cX10_init 232 = .ok (.aload_n 0, 1) := by decide +kernel
theorem dX10_init_233 : decode cX10_init 233 = .ok (.sipush 300, 3) := by decide +kernel
theorem dX10_init_236 : decode cX10_init 236 = .ok (.newarray .long, 2) := by decide +kernel
theorem dX10_init_238 : decode cX10_init 238 = .ok (.putfield 86, 3) := by decide +kernel
theorem dX10_init_241 : decode cX10_init 241 = .ok (.aload_n 0, 1) := by decide +kernel
theorem dX10_init_242 : decode cX10_init 242 = .ok (.bipush 60, 2) := by decide +kernel
theorem dX10_init_244 : decode cX10_init 244 = .ok (.newarray .int, 2) := by decide +kernel
theorem dX10_init_246 : decode cX10_init 246 = .ok (.putfield 89, 3) := by decide +kernel
theorem dX10_init_249 : decode cX10_init 249 = .ok (.aload_n 0, 1) := by decide +kernel
theorem dX10_init_250 : decode cX10_init 250 = .ok (.bipush 60, 2) := by decide +kernel
theorem dX10_init_252 : decode cX10_init 252 = .ok (.newarray .int, 2) := by decide +kernel
theorem dX10_init_254 : decode cX10_init 254 = .ok (.putfield 92, 3) := by decide +kernel
theorem dX10_init_257 : decode cX10_init 257 = .ok (.aload_n 0, 1) := by decide +kernel
theorem dX10_init_258 : decode cX10_init 258 = .ok (.bipush 60, 2) := by decide +kernel
theorem dX10_init_260 : decode cX10_init 260 = .ok (.newarray .int, 2) := by decide +kernel
theorem dX10_init_262 : decode cX10_init 262 = .ok (.putfield 95, 3) := by decide +kernel
theorem dX10_init_265 : decode cX10_init 265 = .ok (.aload_n 0, 1) := by decide +kernel
theorem dX10_init_266 : decode cX10_init 266 = .ok (.bipush 60, 2) := by decide +kernel
theorem dX10_init_268 : decode cX10_init 268 = .ok (.newarray .int, 2) := by decide +kernel
theorem dX10_init_270 : decode cX10_init 270 = .ok (.putfield 98, 3) := by decide +kernel
theorem dX10_init_273 : decode cX10_init 273 = .ok (.aload_n 0, 1) := by decide +kernel
theorem dX10_init_274 : decode cX10_init 274 = .ok (.bipush 60, 2) := by decide +kernel
theorem dX10_init_276 : decode cX10_init 276 = .ok (.newarray .int, 2) := by decide +kernel
theorem dX10_init_278 : decode cX10_init 278 = .ok (.putfield 101, 3) := by decide +kernel
theorem dX10_init_281 : decode cX10_init 281 = .ok (.aload_n 0, 1) := by decide +kernel
theorem dX10_init_282 : decode cX10_init 282 = .ok (.sipush 300, 3) := by decide +kernel
theorem dX10_init_285 : decode cX10_init 285 = .ok (.newarray .int, 2) := by decide +kernel
theorem dX10_init_287 : decode cX10_init 287 = .ok (.putfield 104, 3) := by decide +kernel
theorem dX10_init_290 : decode cX10_init 290 = .ok (.aload_n 0, 1) := by decide +kernel
theorem dX10_init_291 : decode cX10_init 291 = .ok (.sipush 300, 3) := by decide +kernel
theorem dX10_init_294 : decode cX10_init 294 = .ok (.newarray .int, 2) := by decide +kernel
theorem dX10_init_296 : decode cX10_init 296 = .ok (.putfield 107, 3) := by decide +kernel
theorem dX10_init_299 : decode cX10_init 299 = .ok (.aload_n 0, 1) := by decide +kernel
theorem dX10_init_300 : decode cX10_init 300 = .ok (.sipush 400, 3) := by decide +kernel
theorem dX10_init_303 : decode cX10_init 303 = .ok (.newarray .int, 2) := by decide +kernel
theorem dX10_init_305 : decode cX10_init 305 = .ok (.putfield 110, 3) := by decide +kernel
theorem dX10_init_308 : decode cX10_init 308 = .ok (.aload_n 0, 1) := by decide +kernel
theorem dX10_init_309 : decode cX10_init 309 = .ok (.sipush 400, 3) := by decide +kernel
theorem dX10_init_312 : decode cX10_init 312 = .ok (.newarray .int, 2) := by decide +kernel
theorem dX10_init_314 : decode cX10_init 314 = .ok (.putfield 113, 3) := by decide +kernel
theorem dX10_init_317 : decode cX10_init 317 = .ok (.aload_n 0, 1) := by decide +kernel
theorem dX10_init_318 : decode cX10_init 318 = .ok (.sipush 400, 3) := by decide +kernel
theorem dX10_init_321 : decode cX10_init 321 = .ok (.newarray .int, 2) := by decide +kernel
theorem dX10_init_323 : decode cX10_init 323 = .ok (.putfield 116, 3) := by decide +kernel
theorem dX10_init_326 : decode cX10_init 326 = .ok (.aload_n 0, 1) := by decide +kernel
theorem dX10_init_327 : decode cX10_init 327 = .ok (.sipush 400, 3) := by decide +kernel
theorem dX10_init_330 : decode cX10_init 330 = .ok (.newarray .int, 2) := by decide +kernel
theorem dX10_init_332 : decode cX10_init 332 = .ok (.putfield 119, 3) := by decide +kernel
theorem dX10_init_335 : decode cX10_init 335 = .ok (.aload_n 0, 1) := by decide +kernel
theorem dX10_init_336 : decode cX10_init 336 = .ok (.bipush 20, 2) := by decide +kernel
theorem dX10_init_338 : decode cX10_init 338 = .ok (.newarray .int, 2) := by decide +kernel
theorem dX10_init_340 : decode cX10_init 340 = .ok (.putfield 122, 3) := by decide +kernel
theorem dX10_init_343 : decode cX10_init 343 = .ok (.aload_n 0, 1) := by decide +kernel
theorem dX10_init_344 : decode cX10_init 344 = .ok (.bipush 20, 2) := by decide +kernel
theorem dX10_init_346 : decode cX10_init 346 = .ok (.newarray .int, 2) := by decide +kernel
theorem dX10_init_348 : decode cX10_init 348 = .ok (.putfield 125, 3) := by decide +kernel
theorem dX10_init_351 : decode cX10_init 351 = .ok (.aload_n 0, 1) := by decide +kernel
theorem dX10_init_352 : decode cX10_init 352 = .ok (.sipush 600, 3) := by decide +kernel
theorem dX10_init_355 : decode cX10_init 355 = .ok (.newarray .int, 2) := by decide +kernel
theorem dX10_init_357 : decode cX10_init 357 = .ok (.putfield 128, 3) := by decide +kernel
theorem dX10_init_360 : decode cX10_init 360 = .ok (.aload_n 0, 1) := by decide +kernel
theorem dX10_init_361 : decode cX10_init 361 = .ok (.sipush 601, 3) := by decide +kernel
theorem dX10_init_364 : decode cX10_init 364 = .ok (.newarray .int, 2) := by decide +kernel
theorem dX10_init_366 : decode cX10_init 366 = .ok (.putfield 131, 3) := by decide +kernel
theorem dX10_init_369 : decode cX10_init 369 = .ok (.aload_n 0, 1) := by decide +kernel
theorem dX10_init_370 : decode cX10_init 370 = .ok (.sipush 600, 3) := by decide +kernel
theorem dX10_init_373 : decode cX10_init 373 = .ok (.newarray .int, 2) := by decide +kernel
theorem dX10_init_375 : decode cX10_init 375 = .ok (.putfield 134, 3) := by decide +kernel
theorem dX10_init_378 : decode cX10_init 378 = .ok (.aload_n 0, 1) := by decide +kernel
theorem dX10_init_379 : decode cX10_init 379 = .ok (.sipush 600, 3) := by decide +kernel
theorem dX10_init_382 : decode cX10_init 382 = .ok (.newarray .int, 2) := by decide +kernel
theorem dX10_init_384 : decode cX10_init 384 = .ok (.putfield 137, 3) := by decide +kernel
theorem dX10_init_387 : decode cX10_init 387 = .ok (.aload_n 0, 1) := by decide +kernel
theorem dX10_init_388 : decode cX10_init 388 = .ok (.sipush 300, 3) := by decide +kernel
theorem dX10_init_391 : decode cX10_init 391 = .ok (.newarray .int, 2) := by decide +kernel
theorem dX10_init_393 : decode cX10_init 393 = .ok (.putfield 140, 3) := by decide +kernel
theorem dX10_init_396 : decode cX10_init 396 = .ok (.aload_n 0, 1) := by decide +kernel
theorem dX10_init_397 : decode cX10_init 397 = .ok (.sipush 400, 3) := by decide +kernel
theorem dX10_init_400 : decode cX10_init 400 = .ok (.newarray .boolean, 2) := by decide +kernel
theorem dX10_init_402 : decode cX10_init 402 = .ok (.putfield 143, 3) := by decide +kernel
theorem dX10_init_405 : decode cX10_init 405 = .ok (.aload_n 0, 1) := by decide +kernel
theorem dX10_init_406 : decode cX10_init 406 = .ok (.sipush 400, 3) := by decide +kernel
theorem dX10_init_409 : decode cX10_init 409 = .ok (.newarray .int, 2) := by decide +kernel
theorem dX10_init_411 : decode cX10_init 411 = .ok (.putfield 147, 3) := by decide +kernel
theorem dX10_init_414 : decode cX10_init 414 = .ok (.aload_n 0, 1) := by decide +kernel
theorem dX10_init_415 : decode cX10_init 415 = .ok (.sipush 400, 3) := by decide +kernel
theorem dX10_init_418 : decode cX10_init 418 = .ok (.newarray .int, 2) := by decide +kernel
theorem dX10_init_420 : decode cX10_init 420 = .ok (.putfield 150, 3) := by decide +kernel
theorem dX10_init_423 : decode cX10_init 423 = .ok (.return_, 1) := by decide +kernel
theorem dX10_thrown_0 : decode cX10_thrown 0 = .ok (.aload_n 0, 1) := by decide +kernel
theorem dX10_thrown_1 : decode cX10_thrown 1 = .ok (.getfield 153, 3) := by decide +kernel
theorem dX10_thrown_4 : decode cX10_thrown 4 = .ok (.ireturn, 1) := by decide +kernel
theorem dX10_in_0 : decode cX10_in 0 = .ok (.iload_n 0, 1) := by decide +kernel
theorem dX10_in_1 : decode cX10_in 1 = .ok (.iload_n 1, 1) := by decide +kernel
theorem dX10_in_2 : decode cX10_in 2 = .ok (.if_icmp .lt 12, 3) := by decide +kernel
theorem dX10_in_5 : decode cX10_in 5 = .ok (.iload_n 0, 1) := by decide +kernel
theorem dX10_in_6 : decode cX10_in 6 = .ok (.iload_n 2, 1) := by decide +kernel
theorem dX10_in_7 : decode cX10_in 7 = .ok (.if_icmp .gt 7, 3) := by decide +kernel
theorem dX10_in_10 : decode cX10_in 10 = .ok (.iconst 1, 1) := by decide +kernel
theorem dX10_in_11 : decode cX10_in 11 = .ok (.goto 4, 3) := by decide +kernel
theorem dX10_in_14 : decode cX10_in 14 = .ok (.iconst 0, 1) := by decide +kernel
theorem dX10_in_15 : decode cX10_in 15 = .ok (.ireturn, 1) := by decide +kernel
theorem dX10_feed_0 : decode cX10_feed 0 = .ok (.aload_n 0, 1) := by decide +kernel
theorem dX10_feed_1 : decode cX10_feed 1 = .ok (.iconst 0, 1) := by decide +kernel
theorem dX10_feed_2 : decode cX10_feed 2 = .ok (.putfield 153, 3) := by decide +kernel
theorem dX10_feed_5 : decode cX10_feed 5 = .ok (.aload_n 0, 1) := by decide +kernel
theorem dX10_feed_6 : decode cX10_feed 6 = .ok (.getfield 157, 3) := by decide +kernel
theorem dX10_feed_9 : decode cX10_feed 9 = .ok (.bipush 20, 2) := by decide +kernel
theorem dX10_feed_11 : decode cX10_feed 11 = .ok (.iadd, 1) := by decide +kernel
theorem dX10_feed_12 : decode cX10_feed 12 = .ok (.sipush 800, 3) := by decide +kernel
theorem dX10_feed_15 : decode cX10_feed 15 = .ok (.if_icmp .le 6, 3) := by decide +kernel
theorem dX10_feed_18 : decode cX10_feed 18 = .ok (.bipush (-2), 2) := by decide +kernel
theorem dX10_feed_20 : decode cX10_feed 20 = .ok (.ireturn, 1) := by decide +kernel
theorem dX10_feed_21 : decode cX10_feed 21 = .ok (.iconst 0, 1) := by decide +kernel
theorem dX10_feed_22 : decode cX10_feed 22 = .ok (.istore 6, 2) := by decide +kernel
theorem dX10_feed_24 : decode cX10_feed 24 = .ok (.iload 6, 2) := by decide +kernel
theorem dX10_feed_26 : decode cX10_feed 26 = .ok (.bipush 20, 2) := by decide +kernel
theorem dX10_feed_28 : decode cX10_feed 28 = .ok (.if_icmp .ge 86, 3) := by decide +kernel
theorem dX10_feed_31 : decode cX10_feed 31 = .ok (.iload 6, 2) := by decide +kernel
theorem dX10_feed_33 : decode cX10_feed 33 = .ok (.iconst 4, 1) := by decide +kernel
theorem dX10_feed_34 : decode cX10_feed 34 = .ok (.if_icmp .ge 7, 3) := by decide +kernel
theorem dX10_feed_37 : decode cX10_feed 37 = .ok (.iload_n 1, 1) := by decide +kernel
theorem dX10_feed_38 : decode cX10_feed 38 = .ok (.goto 39, 3) := by decide +kernel
theorem dX10_feed_41 : decode cX10_feed 41 = .ok (.iload 6, 2) := by decide +kernel
theorem dX10_feed_43 : decode cX10_feed 43 = .ok (.bipush 8, 2) := by decide +kernel
theorem dX10_feed_45 : decode cX10_feed 45 = .ok (.if_icmp .ge 7, 3) := by decide +kernel
theorem dX10_feed_48 : decode cX10_feed 48 = .ok (.iload_n 2, 1) := by decide +kernel
theorem dX10_feed_49 : decode cX10_feed 49 = .ok (.goto 28, 3) := by decide +kernel
theorem dX10_feed_52 : decode cX10_feed 52 = .ok (.iload 6, 2) := by decide +kernel
theorem dX10_feed_54 : decode cX10_feed 54 = .ok (.bipush 12, 2) := by decide +kernel
theorem dX10_feed_56 : decode cX10_feed 56 = .ok (.if_icmp .ge 7, 3) := by decide +kernel
theorem dX10_feed_59 : decode cX10_feed 59 = .ok (.iload_n 3, 1) := by decide +kernel
theorem dX10_feed_60 : decode cX10_feed 60 = .ok (.goto 17, 3) := by decide +kernel
theorem dX10_feed_63 : decode cX10_feed 63 = .ok (.iload 6, 2) := by decide +kernel
theorem dX10_feed_65 : decode cX10_feed 65 = .ok (.bipush 16, 2) := by decide +kernel
theorem dX10_feed_67 : decode cX10_feed 67 = .ok (.if_icmp .ge 8, 3) := by decide +kernel
theorem dX10_feed_70 : decode cX10_feed 70 = .ok (.iload 4, 2) := by decide +kernel
theorem dX10_feed_72 : decode cX10_feed 72 = .ok (.goto 5, 3) := by decide +kernel
theorem dX10_feed_75 : decode cX10_feed 75 = .ok (.iload 5, 2) := by decide +kernel
theorem dX10_feed_77 : decode cX10_feed 77 = .ok (.istore 7, 2) := by decide +kernel
theorem dX10_feed_79 : decode cX10_feed 79 = .ok (.aload_n 0, 1) := by decide +kernel
theorem dX10_feed_80 : decode cX10_feed 80 = .ok (.getfield 7, 3) := by decide +kernel
theorem dX10_feed_83 : decode cX10_feed 83 = .ok (.aload_n 0, 1) := by decide +kernel
theorem dX10_feed_84 : decode cX10_feed 84 = .ok (.getfield 157, 3) := by decide +kernel
theorem dX10_feed_87 : decode cX10_feed 87 = .ok (.iload 6, 2) := by decide +kernel
theorem dX10_feed_89 : decode cX10_feed 89 = .ok (.iadd, 1) := by decide +kernel
theorem dX10_feed_90 : decode cX10_feed 90 = .ok (.iload 7, 2) := by decide +kernel
theorem dX10_feed_92 : decode cX10_feed 92 = .ok (.bipush 24, 2) := by decide +kernel
theorem dX10_feed_94 : decode cX10_feed 94 = .ok (.bipush 8, 2) := by decide +kernel
theorem dX10_feed_96 : decode cX10_feed 96 = .ok (.iload 6, 2) := by decide +kernel
theorem dX10_feed_98 : decode cX10_feed 98 = .ok (.iconst 4, 1) := by decide +kernel
theorem dX10_feed_99 : decode cX10_feed 99 = .ok (.irem, 1) := by decide +kernel
theorem dX10_feed_100 : decode cX10_feed 100 = .ok (.imul, 1) := by decide +kernel
theorem dX10_feed_101 : decode cX10_feed 101 = .ok (.isub, 1) := by decide +kernel
theorem dX10_feed_102 : decode cX10_feed 102 = .ok (.ishr, 1) := by decide +kernel
theorem dX10_feed_103 : decode cX10_feed 103 = .ok (.sipush 255, 3) := by decide +kernel
theorem dX10_feed_106 : decode cX10_feed 106 = .ok (.iand, 1) := by decide +kernel
theorem dX10_feed_107 : decode cX10_feed 107 = .ok (.iastore, 1) := by decide +kernel
theorem dX10_feed_108 : decode cX10_feed 108 = .ok (.iinc 6 1, 3) := by decide +kernel
theorem dX10_feed_111 : decode cX10_feed 111 = .ok (.goto (-87), 3) := by decide +kernel
theorem dX10_feed_114 : decode cX10_feed 114 = .ok (.aload_n 0, 1) := by decide +kernel
theorem dX10_feed_115 : decode cX10_feed 115 = .ok (.dup, 1) := by decide +kernel
theorem dX10_feed_116 : decode cX10_feed 116 = .ok (.getfield 157, 3) := by decide +kernel
theorem dX10_feed_119 : decode cX10_feed 119 = .ok (.bipush 20, 2) := by decide +kernel
theorem dX10_feed_121 : decode cX10_feed 121 = .ok (.iadd, 1) := by decide +kernel
theorem dX10_feed_122 : decode cX10_feed 122 = .ok (.putfield 157, 3) := by decide +kernel
theorem dX10_feed_125 : decode cX10_feed 125 = .ok (.aload_n 0, 1) := by decide +kernel
theorem dX10_feed_126 : decode cX10_feed 126 = .ok (.getfield 157, 3) := by decide +kernel
theorem dX10_feed_129 : decode cX10_feed 129 = .ok (.ireturn, 1) := by decide +kernel
theorem dX10_cut_0 : decode cX10_cut 0 = .ok (.aload_n 0, 1) := by decide +kernel
theorem dX10_cut_1 : decode cX10_cut 1 = .ok (.iconst 0, 1) := by decide +kernel
theorem dX10_cut_2 : decode cX10_cut 2 = .ok (.putfield 153, 3) := by decide +kernel
theorem dX10_cut_5 : decode cX10_cut 5 = .ok (.iload_n 1, 1) := by decide +kernel
theorem dX10_cut_6 : decode cX10_cut 6 = .ok (.iconst 0, 1) := by decide +kernel
theorem dX10_cut_7 : decode cX10_cut 7 = .ok (.aload_n 0, 1) := by decide +kernel
theorem dX10_cut_8 : decode cX10_cut 8 = .ok (.getfield 157, 3) := by decide +kernel
theorem dX10_cut_11 : decode cX10_cut 11 = .ok (.invokestatic 160, 3) := by decide +kernel
theorem dX10_cut_14 : decode cX10_cut 14 = .ok (.ifCond .ne 5, 3) := by decide +kernel
theorem dX10_cut_17 : decode cX10_cut 17 = .ok (.iconst (-1), 1) := by decide +kernel
theorem dX10_cut_18 : decode cX10_cut 18 = .ok (.ireturn, 1) := by decide +kernel
theorem dX10_cut_19 : decode cX10_cut 19 = .ok (.aload_n 0, 1) := by decide +kernel
theorem dX10_cut_20 : decode cX10_cut 20 = .ok (.getfield 157, 3) := by decide +kernel
theorem dX10_cut_23 : decode cX10_cut 23 = .ok (.iload_n 1, 1) := by decide +kernel
theorem dX10_cut_24 : decode cX10_cut 24 = .ok (.isub, 1) := by decide +kernel
theorem dX10_cut_25 : decode cX10_cut 25 = .ok (.istore_n 2, 1) := by decide +kernel
theorem dX10_cut_26 : decode cX10_cut 26 = .ok (.aload_n 0, 1) := by decide +kernel
theorem dX10_cut_27 : decode cX10_cut 27 = .ok (.iload_n 1, 1) := by decide +kernel
theorem dX10_cut_28 : decode cX10_cut 28 = .ok (.putfield 157, 3) := by decide +kernel
theorem dX10_cut_31 : decode cX10_cut 31 = .ok (.iload_n 2, 1) := by decide +kernel
theorem dX10_cut_32 : decode cX10_cut 32 = .ok (.ireturn, 1) := by decide +kernel
theorem dX10_at_0 : decode cX10_at 0 = .ok (.iload_n 1, 1) := by decide +kernel
theorem dX10_at_1 : decode cX10_at 1 = .ok (.aload_n 0, 1) := by decide +kernel
theorem dX10_at_2 : decode cX10_at 2 = .ok (.getfield 157, 3) := by decide +kernel
theorem dX10_at_5 : decode cX10_at 5 = .ok (.if_icmp .ge 12, 3) := by decide +kernel
theorem dX10_at_8 : decode cX10_at 8 = .ok (.aload_n 0, 1) := by decide +kernel
theorem dX10_at_9 : decode cX10_at 9 = .ok (.getfield 7, 3) := by decide +kernel
theorem dX10_at_12 : decode cX10_at 12 = .ok (.iload_n 1, 1) := by decide +kernel
theorem dX10_at_13 : decode cX10_at 13 = .ok (.iaload, 1) := by decide +kernel
theorem dX10_at_14 : decode cX10_at 14 = .ok (.goto 4, 3) := by decide +kernel
theorem dX10_at_17 : decode cX10_at 17 = .ok (.iconst 0, 1) := by decide +kernel
theorem dX10_at_18 : decode cX10_at 18 = .ok (.ireturn, 1) := by decide +kernel
theorem dX10_isLetter_0 : decode cX10_isLetter 0 = .ok (.iload_n 0, 1) := by decide +kernel
theorem dX10_isLetter_1 : decode cX10_isLetter 1 = .ok (.bipush 97, 2) := by decide +kernel
theorem dX10_isLetter_3 : decode cX10_isLetter 3 = .ok (.if_icmp .lt 13, 3) := by decide +kernel
theorem dX10_isLetter_6 : decode cX10_isLetter 6 = .ok (.iload_n 0, 1) := by decide +kernel
theorem dX10_isLetter_7 : decode cX10_isLetter 7 = .ok (.bipush 122, 2) := by decide +kernel
theorem dX10_isLetter_9 : decode cX10_isLetter 9 = .ok (.if_icmp .gt 7, 3) := by decide +kernel
theorem dX10_isLetter_12 : decode cX10_isLetter 12 = .ok (.iconst 1, 1) := by decide +kernel
theorem dX10_isLetter_13 : decode cX10_isLetter 13 = .ok (.goto 4, 3) := by decide +kernel
theorem dX10_isLetter_16 : decode cX10_isLetter 16 = .ok (.iconst 0, 1) := by decide +kernel
theorem dX10_isLetter_17 : decode cX10_isLetter 17 = .ok (.ireturn, 1) := by decide +kernel
theorem dX10_isDigit_0 : decode cX10_isDigit 0 = .ok (.iload_n 0, 1) := by decide +kernel
theorem dX10_isDigit_1 : decode cX10_isDigit 1 = .ok (.bipush 48, 2) := by decide +kernel
theorem dX10_isDigit_3 : decode cX10_isDigit 3 = .ok (.if_icmp .lt 13, 3) := by decide +kernel
theorem dX10_isDigit_6 : decode cX10_isDigit 6 = .ok (.iload_n 0, 1) := by decide +kernel
theorem dX10_isDigit_7 : decode cX10_isDigit 7 = .ok (.bipush 57, 2) := by decide +kernel
theorem dX10_isDigit_9 : decode cX10_isDigit 9 = .ok (.if_icmp .gt 7, 3) := by decide +kernel
theorem dX10_isDigit_12 : decode cX10_isDigit 12 = .ok (.iconst 1, 1) := by decide +kernel
theorem dX10_isDigit_13 : decode cX10_isDigit 13 = .ok (.goto 4, 3) := by decide +kernel
theorem dX10_isDigit_16 : decode cX10_isDigit 16 = .ok (.iconst 0, 1) := by decide +kernel
theorem dX10_isDigit_17 : decode cX10_isDigit 17 = .ok (.ireturn, 1) := by decide +kernel
theorem dX10_token_0 : decode cX10_token 0 = .ok (.aload_n 0, 1) := by decide +kernel
theorem dX10_token_1 : decode cX10_token 1 = .ok (.getfield 164, 3) := by decide +kernel
theorem dX10_token_4 : decode cX10_token 4 = .ok (.ifCond .eq 4, 3) := by decide +kernel
theorem dX10_token_7 : decode cX10_token 7 = .ok (.return_, 1) := by decide +kernel
theorem dX10_token_8 : decode cX10_token 8 = .ok (.aload_n 0, 1) := by decide +kernel
theorem dX10_token_9 : decode cX10_token 9 = .ok (.getfield 167, 3) := by decide +kernel
theorem dX10_token_12 : decode cX10_token 12 = .ok (.aload_n 0, 1) := by decide +kernel
theorem dX10_token_13 : decode cX10_token 13 = .ok (.getfield 157, 3) := by decide +kernel
theorem dX10_token_16 : decode cX10_token 16 = .ok (.if_icmp .ge 42, 3) := by decide +kernel
theorem dX10_token_19 : decode cX10_token 19 = .ok (.aload_n 0, 1) := by decide +kernel
theorem dX10_token_20 : decode cX10_token 20 = .ok (.aload_n 0, 1) := by decide +kernel
theorem dX10_token_21 : decode cX10_token 21 = .ok (.getfield 167, 3) := by decide +kernel
theorem dX10_token_24 : decode cX10_token 24 = .ok (.invokevirtual 170, 3) := by decide +kernel
theorem dX10_token_27 : decode cX10_token 27 = .ok (.bipush 32, 2) := by decide +kernel
theorem dX10_token_29 : decode cX10_token 29 = .ok (.if_icmp .eq 16, 3) := by decide +kernel
