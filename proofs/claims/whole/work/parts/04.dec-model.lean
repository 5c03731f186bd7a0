theorem d_Mo_init_0 : decode b_Mo_init 0 = .ok (.aload_n 0, 1) := by decide +kernel
theorem d_Mo_init_1 : decode b_Mo_init 1 = .ok (.invokespecial 1, 3) := by decide +kernel
theorem d_Mo_init_4 : decode b_Mo_init 4 = .ok (.aload_n 0, 1) := by decide +kernel
theorem d_Mo_init_5 : decode b_Mo_init 5 = .ok (.bipush 30, 2) := by decide +kernel
theorem d_Mo_init_7 : decode b_Mo_init 7 = .ok (.newarray .int, 2) := by decide +kernel
theorem d_Mo_init_9 : decode b_Mo_init 9 = .ok (.putfield 7, 3) := by decide +kernel
theorem d_Mo_init_12 : decode b_Mo_init 12 = .ok (.aload_n 0, 1) := by decide +kernel
theorem d_Mo_init_13 : decode b_Mo_init 13 = .ok (.bipush 30, 2) := by decide +kernel
theorem d_Mo_init_15 : decode b_Mo_init 15 = .ok (.newarray .int, 2) := by decide +kernel
theorem d_Mo_init_17 : decode b_Mo_init 17 = .ok (.putfield 13, 3) := by decide +kernel
theorem d_Mo_init_20 : decode b_Mo_init 20 = .ok (.aload_n 0, 1) := by decide +kernel
theorem d_Mo_init_21 : decode b_Mo_init 21 = .ok (.bipush 30, 2) := by decide +kernel
theorem d_Mo_init_23 : decode b_Mo_init 23 = .ok (.newarray .int, 2) := by decide +kernel
theorem d_Mo_init_25 : decode b_Mo_init 25 = .ok (.putfield 16, 3) := by decide +kernel
theorem d_Mo_init_28 : decode b_Mo_init 28 = .ok (.aload_n 0, 1) := by decide +kernel
theorem d_Mo_init_29 : decode b_Mo_init 29 = .ok (.bipush 6, 2) := by decide +kernel
theorem d_Mo_init_31 : decode b_Mo_init 31 = .ok (.newarray .int, 2) := by decide +kernel
theorem d_Mo_init_33 : decode b_Mo_init 33 = .ok (.putfield 19, 3) := by decide +kernel
theorem d_Mo_init_36 : decode b_Mo_init 36 = .ok (.aload_n 0, 1) := by decide +kernel
theorem d_Mo_init_37 : decode b_Mo_init 37 = .ok (.bipush 6, 2) := by decide +kernel
theorem d_Mo_init_39 : decode b_Mo_init 39 = .ok (.newarray .int, 2) := by decide +kernel
theorem d_Mo_init_41 : decode b_Mo_init 41 = .ok (.putfield 22, 3) := by decide +kernel
theorem d_Mo_init_44 : decode b_Mo_init 44 = .ok (.aload_n 0, 1) := by decide +kernel
theorem d_Mo_init_45 : decode b_Mo_init 45 = .ok (.bipush 6, 2) := by decide +kernel
theorem d_Mo_init_47 : decode b_Mo_init 47 = .ok (.newarray .int, 2) := by decide +kernel
theorem d_Mo_init_49 : decode b_Mo_init 49 = .ok (.putfield 25, 3) := by decide +kernel
theorem d_Mo_init_52 : decode b_Mo_init 52 = .ok (.aload_n 0, 1) := by decide +kernel
theorem d_Mo_init_53 : decode b_Mo_init 53 = .ok (.bipush 6, 2) := by decide +kernel
theorem d_Mo_init_55 : decode b_Mo_init 55 = .ok (.newarray .int, 2) := by decide +kernel
theorem d_Mo_init_57 : decode b_Mo_init 57 = .ok (.putfield 28, 3) := by decide +kernel
theorem d_Mo_init_60 : decode b_Mo_init 60 = .ok (.aload_n 0, 1) := by decide +kernel
theorem d_Mo_init_61 : decode b_Mo_init 61 = .ok (.bipush 6, 2) := by decide +kernel
theorem d_Mo_init_63 : decode b_Mo_init 63 = .ok (.newarray .int, 2) := by decide +kernel
theorem d_Mo_init_65 : decode b_Mo_init 65 = .ok (.putfield 31, 3) := by decide +kernel
theorem d_Mo_init_68 : decode b_Mo_init 68 = .ok (.aload_n 0, 1) := by decide +kernel
theorem d_Mo_init_69 : decode b_Mo_init 69 = .ok (.bipush 6, 2) := by decide +kernel
theorem d_Mo_init_71 : decode b_Mo_init 71 = .ok (.newarray .int, 2) := by decide +kernel
theorem d_Mo_init_73 : decode b_Mo_init 73 = .ok (.putfield 34, 3) := by decide +kernel
theorem d_Mo_init_76 : decode b_Mo_init 76 = .ok (.aload_n 0, 1) := by decide +kernel
theorem d_Mo_init_77 : decode b_Mo_init 77 = .ok (.bipush 40, 2) := by decide +kernel
theorem d_Mo_init_79 : decode b_Mo_init 79 = .ok (.newarray .int, 2) := by decide +kernel
theorem d_Mo_init_81 : decode b_Mo_init 81 = .ok (.putfield 37, 3) := by decide +kernel
theorem d_Mo_init_84 : decode b_Mo_init 84 = .ok (.aload_n 0, 1) := by decide +kernel
theorem d_Mo_init_85 : decode b_Mo_init 85 = .ok (.bipush 40, 2) := by decide +kernel
theorem d_Mo_init_87 : decode b_Mo_init 87 = .ok (.newarray .int, 2) := by decide +kernel
theorem d_Mo_init_89 : decode b_Mo_init 89 = .ok (.putfield 40, 3) := by decide +kernel
theorem d_Mo_init_92 : decode b_Mo_init 92 = .ok (.aload_n 0, 1) := by decide +kernel
theorem d_Mo_init_93 : decode b_Mo_init 93 = .ok (.bipush 40, 2) := by decide +kernel
theorem d_Mo_init_95 : decode b_Mo_init 95 = .ok (.newarray .int, 2) := by decide +kernel
theorem d_Mo_init_97 : decode b_Mo_init 97 = .ok (.putfield 43, 3) := by decide +kernel
theorem d_Mo_init_100 : decode b_Mo_init 100 = .ok (.aload_n 0, 1) := by decide +kernel
theorem d_Mo_init_101 : decode b_Mo_init 101 = .ok (.bipush 40, 2) := by decide +kernel
theorem d_Mo_init_103 : decode b_Mo_init 103 = .ok (.newarray .int, 2) := by decide +kernel
theorem d_Mo_init_105 : decode b_Mo_init 105 = .ok (.putfield 46, 3) := by decide +kernel
theorem d_Mo_init_108 : decode b_Mo_init 108 = .ok (.aload_n 0, 1) := by decide +kernel
theorem d_Mo_init_109 : decode b_Mo_init 109 = .ok (.bipush 40, 2) := by decide +kernel
theorem d_Mo_init_111 : decode b_Mo_init 111 = .ok (.newarray .int, 2) := by decide +kernel
theorem d_Mo_init_113 : decode b_Mo_init 113 = .ok (.putfield 49, 3) := by decide +kernel
theorem d_Mo_init_116 : decode b_Mo_init 116 = .ok (.aload_n 0, 1) := by decide +kernel
theorem d_Mo_init_117 : decode b_Mo_init 117 = .ok (.bipush 40, 2) := by decide +kernel
theorem d_Mo_init_119 : decode b_Mo_init 119 = .ok (.newarray .int, 2) := by decide +kernel
theorem d_Mo_init_121 : decode b_Mo_init 121 = .ok (.putfield 52, 3) := by decide +kernel
theorem d_Mo_init_124 : decode b_Mo_init 124 = .ok (.aload_n 0, 1) := by decide +kernel
theorem d_Mo_init_125 : decode b_Mo_init 125 = .ok (.bipush 40, 2) := by decide +kernel
theorem d_Mo_init_127 : decode b_Mo_init 127 = .ok (.newarray .int, 2) := by decide +kernel
theorem d_Mo_init_129 : decode b_Mo_init 129 = .ok (.putfield 55, 3) := by decide +kernel
theorem d_Mo_init_132 : decode b_Mo_init 132 = .ok (.aload_n 0, 1) := by decide +kernel
theorem d_Mo_init_133 : decode b_Mo_init 133 = .ok (.bipush 40, 2) := by decide +kernel
theorem d_Mo_init_135 : decode b_Mo_init 135 = .ok (.newarray .int, 2) := by decide +kernel
theorem d_Mo_init_137 : decode b_Mo_init 137 = .ok (.putfield 58, 3) := by decide +kernel
theorem d_Mo_init_140 : decode b_Mo_init 140 = .ok (.aload_n 0, 1) := by decide +kernel
theorem d_Mo_init_141 : decode b_Mo_init 141 = .ok (.bipush 40, 2) := by decide +kernel
theorem d_Mo_init_143 : decode b_Mo_init 143 = .ok (.newarray .int, 2) := by decide +kernel
theorem d_Mo_init_145 : decode b_Mo_init 145 = .ok (.putfield 61, 3) := by decide +kernel
theorem d_Mo_init_148 : decode b_Mo_init 148 = .ok (.aload_n 0, 1) := by decide +kernel
theorem d_Mo_init_149 : decode b_Mo_init 149 = .ok (.bipush 40, 2) := by decide +kernel
theorem d_Mo_init_151 : decode b_Mo_init 151 = .ok (.newarray .int, 2) := by decide +kernel
theorem d_Mo_init_153 : decode b_Mo_init 153 = .ok (.putfield 64, 3) := by decide +kernel
theorem d_Mo_init_156 : decode b_Mo_init 156 = .ok (.aload_n 0, 1) := by decide +kernel
theorem d_Mo_init_157 : decode b_Mo_init 157 = .ok (.bipush 8, 2) := by decide +kernel
theorem d_Mo_init_159 : decode b_Mo_init 159 = .ok (.newarray .int, 2) := by decide +kernel
theorem d_Mo_init_161 : decode b_Mo_init 161 = .ok (.putfield 67, 3) := by decide +kernel
theorem d_Mo_init_164 : decode b_Mo_init 164 = .ok (.aload_n 0, 1) := by decide +kernel
theorem d_Mo_init_165 : decode b_Mo_init 165 = .ok (.bipush 8, 2) := by decide +kernel
theorem d_Mo_init_167 : decode b_Mo_init 167 = .ok (.newarray .int, 2) := by decide +kernel
theorem d_Mo_init_169 : decode b_Mo_init 169 = .ok (.putfield 70, 3) := by decide +kernel
theorem d_Mo_init_172 : decode b_Mo_init 172 = .ok (.aload_n 0, 1) := by decide +kernel
theorem d_Mo_init_173 : decode b_Mo_init 173 = .ok (.bipush 8, 2) := by decide +kernel
theorem d_Mo_init_175 : decode b_Mo_init 175 = .ok (.newarray .int, 2) := by decide +kernel
theorem d_Mo_init_177 : decode b_Mo_init 177 = .ok (.putfield 73, 3) := by decide +kernel
theorem d_Mo_init_180 : decode b_Mo_init 180 = .ok (.aload_n 0, 1) := by decide +kernel
theorem d_Mo_init_181 : decode b_Mo_init 181 = .ok (.iconst 5, 1) := by decide +kernel
theorem d_Mo_init_182 : decode b_Mo_init 182 = .ok (.newarray .int, 2) := by decide +kernel
theorem d_Mo_init_184 : decode b_Mo_init 184 = .ok (.putfield 76, 3) := by decide +kernel
theorem d_Mo_init_187 : decode b_Mo_init 187 = .ok (.aload_n 0, 1) := by decide +kernel
theorem d_Mo_init_188 : decode b_Mo_init 188 = .ok (.iconst (-1), 1) := by decide +kernel
theorem d_Mo_init_189 : decode b_Mo_init 189 = .ok (.putfield 79, 3) := by decide +kernel
theorem d_Mo_init_192 : decode b_Mo_init 192 = .ok (.aload_n 0, 1) := by decide +kernel
theorem d_Mo_init_193 : decode b_Mo_init 193 = .ok (.bipush 20, 2) := by decide +kernel
theorem d_Mo_init_195 : decode b_Mo_init 195 = .ok (.newarray .int, 2) := by decide +kernel
theorem d_Mo_init_197 : decode b_Mo_init 197 = .ok (.putfield 83, 3) := by decide +kernel
theorem d_Mo_init_200 : decode b_Mo_init 200 = .ok (.aload_n 0, 1) := by decide +kernel
theorem d_Mo_init_201 : decode b_Mo_init 201 = .ok (.bipush 7, 2) := by decide +kernel
theorem d_Mo_init_203 : decode b_Mo_init 203 = .ok (.newarray .int, 2) := by decide +kernel
theorem d_Mo_init_205 : decode b_Mo_init 205 = .ok (.putfield 86, 3) := by decide +kernel
theorem d_Mo_init_208 : decode b_Mo_init 208 = .ok (.aload_n 0, 1) := by decide +kernel
theorem d_Mo_init_209 : decode b_Mo_init 209 = .ok (.bipush 7, 2) := by decide +kernel
theorem d_Mo_init_211 : decode b_Mo_init 211 = .ok (.newarray .int, 2) := by decide +kernel
theorem d_Mo_init_213 : decode b_Mo_init 213 = .ok (.putfield 89, 3) := by decide +kernel
theorem d_Mo_init_216 : decode b_Mo_init 216 = .ok (.aload_n 0, 1) := by decide +kernel
theorem d_Mo_init_217 : decode b_Mo_init 217 = .ok (.bipush 7, 2) := by decide +kernel
theorem d_Mo_init_219 : decode b_Mo_init 219 = .ok (.newarray .int, 2) := by decide +kernel
theorem d_Mo_init_221 : decode b_Mo_init 221 = .ok (.putfield 92, 3) := by decide +kernel
theorem d_Mo_init_224 : decode b_Mo_init 224 = .ok (.aload_n 0, 1) := by decide +kernel
theorem d_Mo_init_225 : decode b_Mo_init 225 = .ok (.iload_n 1, 1) := by decide +kernel
theorem d_Mo_init_226 : decode b_Mo_init 226 = .ok (.ifCond .ge 7, 3) := by decide +kernel
theorem d_Mo_init_229 : decode b_Mo_init 229 = .ok (.iconst 0, 1) := by decide +kernel
theorem d_Mo_init_230 : decode b_Mo_init 230 = .ok (.goto 17, 3) := by decide +kernel
theorem d_Mo_init_233 : decode b_Mo_init 233 = .ok (.iload_n 1, 1) := by decide +kernel
theorem d_Mo_init_234 : decode b_Mo_init 234 = .ok (.sipush 1000, 3) := by decide +kernel
theorem d_Mo_init_237 : decode b_Mo_init 237 = .ok (.if_icmp .le 9, 3) := by decide +kernel
theorem d_Mo_init_240 : decode b_Mo_init 240 = .ok (.sipush 1000, 3) := by decide +kernel
theorem d_Mo_init_243 : decode b_Mo_init 243 = .ok (.goto 4, 3) := by decide +kernel
theorem d_Mo_init_246 : decode b_Mo_init 246 = .ok (.iload_n 1, 1) := by decide +kernel
theorem d_Mo_init_247 : decode b_Mo_init 247 = .ok (.putfield 95, 3) := by decide +kernel
theorem d_Mo_init_250 : decode b_Mo_init 250 = .ok (.return_, 1) := by decide +kernel
theorem d_Mo_thrown_0 : decode b_Mo_thrown 0 = .ok (.aload_n 0, 1) := by decide +kernel
theorem d_Mo_thrown_1 : decode b_Mo_thrown 1 = .ok (.getfield 98, 3) := by decide +kernel
theorem d_Mo_thrown_4 : decode b_Mo_thrown 4 = .ok (.ireturn, 1) := by decide +kernel
theorem d_Mo_in_0 : decode b_Mo_in 0 = .ok (.iload_n 0, 1) := by decide +kernel
theorem d_Mo_in_1 : decode b_Mo_in 1 = .ok (.iload_n 1, 1) := by decide +kernel
theorem d_Mo_in_2 : decode b_Mo_in 2 = .ok (.if_icmp .lt 12, 3) := by decide +kernel
theorem d_Mo_in_5 : decode b_Mo_in 5 = .ok (.iload_n 0, 1) := by decide +kernel
theorem d_Mo_in_6 : decode b_Mo_in 6 = .ok (.iload_n 2, 1) := by decide +kernel
theorem d_Mo_in_7 : decode b_Mo_in 7 = .ok (.if_icmp .gt 7, 3) := by decide +kernel
theorem d_Mo_in_10 : decode b_Mo_in 10 = .ok (.iconst 1, 1) := by decide +kernel
theorem d_Mo_in_11 : decode b_Mo_in 11 = .ok (.goto 4, 3) := by decide +kernel
theorem d_Mo_in_14 : decode b_Mo_in 14 = .ok (.iconst 0, 1) := by decide +kernel
theorem d_Mo_in_15 : decode b_Mo_in 15 = .ok (.ireturn, 1) := by decide +kernel
theorem d_Mo_place_0 : decode b_Mo_place 0 = .ok (.aload_n 0, 1) := by decide +kernel
theorem d_Mo_place_1 : decode b_Mo_place 1 = .ok (.iload_n 1, 1) := by decide +kernel
theorem d_Mo_place_2 : decode b_Mo_place 2 = .ok (.iconst 0, 1) := by decide +kernel
theorem d_Mo_place_3 : decode b_Mo_place 3 = .ok (.bipush 30, 2) := by decide +kernel
theorem d_Mo_place_5 : decode b_Mo_place 5 = .ok (.invokestatic 101, 3) := by decide +kernel
theorem d_Mo_place_8 : decode b_Mo_place 8 = .ok (.ifCond .eq 23, 3) := by decide +kernel
theorem d_Mo_place_11 : decode b_Mo_place 11 = .ok (.iload_n 2, 1) := by decide +kernel
theorem d_Mo_place_12 : decode b_Mo_place 12 = .ok (.iconst 0, 1) := by decide +kernel
theorem d_Mo_place_13 : decode b_Mo_place 13 = .ok (.bipush 100, 2) := by decide +kernel
theorem d_Mo_place_15 : decode b_Mo_place 15 = .ok (.invokestatic 101, 3) := by decide +kernel
theorem d_Mo_place_18 : decode b_Mo_place 18 = .ok (.ifCond .eq 13, 3) := by decide +kernel
theorem d_Mo_place_21 : decode b_Mo_place 21 = .ok (.iload_n 3, 1) := by decide +kernel
theorem d_Mo_place_22 : decode b_Mo_place 22 = .ok (.iconst 0, 1) := by decide +kernel
theorem d_Mo_place_23 : decode b_Mo_place 23 = .ok (.bipush 100, 2) := by decide +kernel
theorem d_Mo_place_25 : decode b_Mo_place 25 = .ok (.invokestatic 101, 3) := by decide +kernel
theorem d_Mo_place_28 : decode b_Mo_place 28 = .ok (.ifCond .ne 7, 3) := by decide +kernel
theorem d_Mo_place_31 : decode b_Mo_place 31 = .ok (.iconst 1, 1) := by decide +kernel
theorem d_Mo_place_32 : decode b_Mo_place 32 = .ok (.goto 17, 3) := by decide +kernel
theorem d_Mo_place_35 : decode b_Mo_place 35 = .ok (.aload_n 0, 1) := by decide +kernel
theorem d_Mo_place_36 : decode b_Mo_place 36 = .ok (.getfield 105, 3) := by decide +kernel
theorem d_Mo_place_39 : decode b_Mo_place 39 = .ok (.bipush 30, 2) := by decide +kernel
theorem d_Mo_place_41 : decode b_Mo_place 41 = .ok (.if_icmp .ne 7, 3) := by decide +kernel
theorem d_Mo_place_44 : decode b_Mo_place 44 = .ok (.iconst 2, 1) := by decide +kernel
theorem d_Mo_place_45 : decode b_Mo_place 45 = .ok (.goto 4, 3) := by decide +kernel
theorem d_Mo_place_48 : decode b_Mo_place 48 = .ok (.iconst 0, 1) := by decide +kernel
theorem d_Mo_place_49 : decode b_Mo_place 49 = .ok (.putfield 98, 3) := by decide +kernel
theorem d_Mo_place_52 : decode b_Mo_place 52 = .ok (.aload_n 0, 1) := by decide +kernel
theorem d_Mo_place_53 : decode b_Mo_place 53 = .ok (.getfield 98, 3) := by decide +kernel
theorem d_Mo_place_56 : decode b_Mo_place 56 = .ok (.ifCond .le 5, 3) := by decide +kernel
theorem d_Mo_place_59 : decode b_Mo_place 59 = .ok (.iconst 0, 1) := by decide +kernel
theorem d_Mo_place_60 : decode b_Mo_place 60 = .ok (.ireturn, 1) := by decide +kernel
theorem d_Mo_place_61 : decode b_Mo_place 61 = .ok (.aload_n 0, 1) := by decide +kernel
theorem d_Mo_place_62 : decode b_Mo_place 62 = .ok (.getfield 7, 3) := by decide +kernel
theorem d_Mo_place_65 : decode b_Mo_place 65 = .ok (.aload_n 0, 1) := by decide +kernel
theorem d_Mo_place_66 : decode b_Mo_place 66 = .ok (.getfield 105, 3) := by decide +kernel
theorem d_Mo_place_69 : decode b_Mo_place 69 = .ok (.iload_n 1, 1) := by decide +kernel
theorem d_Mo_place_70 : decode b_Mo_place 70 = .ok (.iastore, 1) := by decide +kernel
theorem d_Mo_place_71 : decode b_Mo_place 71 = .ok (.aload_n 0, 1) := by decide +kernel
theorem d_Mo_place_72 : decode b_Mo_place 72 = .ok (.getfield 13, 3) := by decide +kernel
theorem d_Mo_place_75 : decode b_Mo_place 75 = .ok (.aload_n 0, 1) := by decide +kernel
theorem d_Mo_place_76 : decode b_Mo_place 76 = .ok (.getfield 105, 3) := by decide +kernel
theorem d_Mo_place_79 : decode b_Mo_place 79 = .ok (.iload_n 2, 1) := by decide +kernel
theorem d_Mo_place_80 : decode b_Mo_place 80 = .ok (.iastore, 1) := by decide +kernel
theorem d_Mo_place_81 : decode b_Mo_place 81 = .ok (.aload_n 0, 1) := by decide +kernel
theorem d_Mo_place_82 : decode b_Mo_place 82 = .ok (.getfield 16, 3) := by decide +kernel
theorem d_Mo_place_85 : decode b_Mo_place 85 = .ok (.aload_n 0, 1) := by decide +kernel
theorem d_Mo_place_86 : decode b_Mo_place 86 = .ok (.getfield 105, 3) := by decide +kernel
theorem d_Mo_place_89 : decode b_Mo_place 89 = .ok (.iload_n 3, 1) := by decide +kernel
theorem d_Mo_place_90 : decode b_Mo_place 90 = .ok (.iastore, 1) := by decide +kernel
theorem d_Mo_place_91 : decode b_Mo_place 91 = .ok (.aload_n 0, 1) := by decide +kernel
theorem d_Mo_place_92 : decode b_Mo_place 92 = .ok (.dup, 1) := by decide +kernel
theorem d_Mo_place_93 : decode b_Mo_place 93 = .ok (.getfield 105, 3) := by decide +kernel
theorem d_Mo_place_96 : decode b_Mo_place 96 = .ok (.iconst 1, 1) := by decide +kernel
theorem d_Mo_place_97 : decode b_Mo_place 97 = .ok (.iadd, 1) := by decide +kernel
theorem d_Mo_place_98 : decode b_Mo_place 98 = .ok (.putfield 105, 3) := by decide +kernel
theorem d_Mo_place_101 : decode b_Mo_place 101 = .ok (.aload_n 0, 1) := by decide +kernel
theorem d_Mo_place_102 : decode b_Mo_place 102 = .ok (.iconst (-1), 1) := by decide +kernel
theorem d_Mo_place_103 : decode b_Mo_place 103 = .ok (.putfield 79, 3) := by decide +kernel
theorem d_Mo_place_106 : decode b_Mo_place 106 = .ok (.aload_n 0, 1) := by decide +kernel
theorem d_Mo_place_107 : decode b_Mo_place 107 = .ok (.getfield 105, 3) := by decide +kernel
theorem d_Mo_place_110 : decode b_Mo_place 110 = .ok (.iconst 1, 1) := by decide +kernel
theorem d_Mo_place_111 : decode b_Mo_place 111 = .ok (.isub, 1) := by decide +kernel
theorem d_Mo_place_112 : decode b_Mo_place 112 = .ok (.ireturn, 1) := by decide +kernel
theorem d_Mo_lift_0 : decode b_Mo_lift 0 = .ok (.aload_n 0, 1) := by decide +kernel
theorem d_Mo_lift_1 : decode b_Mo_lift 1 = .ok (.iload_n 1, 1) := by decide +kernel
theorem d_Mo_lift_2 : decode b_Mo_lift 2 = .ok (.iconst 0, 1) := by decide +kernel
theorem d_Mo_lift_3 : decode b_Mo_lift 3 = .ok (.bipush 100, 2) := by decide +kernel
theorem d_Mo_lift_5 : decode b_Mo_lift 5 = .ok (.invokestatic 101, 3) := by decide +kernel
theorem d_Mo_lift_8 : decode b_Mo_lift 8 = .ok (.ifCond .eq 56, 3) := by decide +kernel
theorem d_Mo_lift_11 : decode b_Mo_lift 11 = .ok (.iload_n 2, 1) := by decide +kernel
theorem d_Mo_lift_12 : decode b_Mo_lift 12 = .ok (.iconst 0, 1) := by decide +kernel
theorem d_Mo_lift_13 : decode b_Mo_lift 13 = .ok (.bipush 100, 2) := by decide +kernel
theorem d_Mo_lift_15 : decode b_Mo_lift 15 = .ok (.invokestatic 101, 3) := by decide +kernel
theorem d_Mo_lift_18 : decode b_Mo_lift 18 = .ok (.ifCond .eq 46, 3) := by decide +kernel
theorem d_Mo_lift_21 : decode b_Mo_lift 21 = .ok (.iload_n 3, 1) := by decide +kernel
theorem d_Mo_lift_22 : decode b_Mo_lift 22 = .ok (.iconst 0, 1) := by decide +kernel
theorem d_Mo_lift_23 : decode b_Mo_lift 23 = .ok (.bipush 30, 2) := by decide +kernel
theorem d_Mo_lift_25 : decode b_Mo_lift 25 = .ok (.invokestatic 101, 3) := by decide +kernel
theorem d_Mo_lift_28 : decode b_Mo_lift 28 = .ok (.ifCond .eq 36, 3) := by decide +kernel
theorem d_Mo_lift_31 : decode b_Mo_lift 31 = .ok (.iload 4, 2) := by decide +kernel
theorem d_Mo_lift_33 : decode b_Mo_lift 33 = .ok (.iload_n 3, 1) := by decide +kernel
theorem d_Mo_lift_34 : decode b_Mo_lift 34 = .ok (.bipush 30, 2) := by decide +kernel
theorem d_Mo_lift_36 : decode b_Mo_lift 36 = .ok (.invokestatic 101, 3) := by decide +kernel
theorem d_Mo_lift_39 : decode b_Mo_lift 39 = .ok (.ifCond .eq 25, 3) := by decide +kernel
theorem d_Mo_lift_42 : decode b_Mo_lift 42 = .ok (.iload 5, 2) := by decide +kernel
theorem d_Mo_lift_44 : decode b_Mo_lift 44 = .ok (.iconst 0, 1) := by decide +kernel
theorem d_Mo_lift_45 : decode b_Mo_lift 45 = .ok (.bipush 100, 2) := by decide +kernel
theorem d_Mo_lift_47 : decode b_Mo_lift 47 = .ok (.invokestatic 101, 3) := by decide +kernel
theorem d_Mo_lift_50 : decode b_Mo_lift 50 = .ok (.ifCond .eq 14, 3) := by decide +kernel
theorem d_Mo_lift_53 : decode b_Mo_lift 53 = .ok (.iload 6, 2) := by decide +kernel
theorem d_Mo_lift_55 : decode b_Mo_lift 55 = .ok (.iconst 0, 1) := by decide +kernel
theorem d_Mo_lift_56 : decode b_Mo_lift 56 = .ok (.bipush 100, 2) := by decide +kernel
theorem d_Mo_lift_58 : decode b_Mo_lift 58 = .ok (.invokestatic 101, 3) := by decide +kernel
theorem d_Mo_lift_61 : decode b_Mo_lift 61 = .ok (.ifCond .ne 7, 3) := by decide +kernel
theorem d_Mo_lift_64 : decode b_Mo_lift 64 = .ok (.iconst 1, 1) := by decide +kernel
theorem d_Mo_lift_65 : decode b_Mo_lift 65 = .ok (.goto 17, 3) := by decide +kernel
theorem d_Mo_lift_68 : decode b_Mo_lift 68 = .ok (.aload_n 0, 1) := by decide +kernel
theorem d_Mo_lift_69 : decode b_Mo_lift 69 = .ok (.getfield 108, 3) := by decide +kernel
theorem d_Mo_lift_72 : decode b_Mo_lift 72 = .ok (.bipush 6, 2) := by decide +kernel
theorem d_Mo_lift_74 : decode b_Mo_lift 74 = .ok (.if_icmp .ne 7, 3) := by decide +kernel
theorem d_Mo_lift_77 : decode b_Mo_lift 77 = .ok (.iconst 2, 1) := by decide +kernel
theorem d_Mo_lift_78 : decode b_Mo_lift 78 = .ok (.goto 4, 3) := by decide +kernel
theorem d_Mo_lift_81 : decode b_Mo_lift 81 = .ok (.iconst 0, 1) := by decide +kernel
theorem d_Mo_lift_82 : decode b_Mo_lift 82 = .ok (.putfield 98, 3) := by decide +kernel
theorem d_Mo_lift_85 : decode b_Mo_lift 85 = .ok (.aload_n 0, 1) := by decide +kernel
theorem d_Mo_lift_86 : decode b_Mo_lift 86 = .ok (.getfield 98, 3) := by decide +kernel
theorem d_Mo_lift_89 : decode b_Mo_lift 89 = .ok (.ifCond .le 5, 3) := by decide +kernel
theorem d_Mo_lift_92 : decode b_Mo_lift 92 = .ok (.iconst 0, 1) := by decide +kernel
theorem d_Mo_lift_93 : decode b_Mo_lift 93 = .ok (.ireturn, 1) := by decide +kernel
theorem d_Mo_lift_94 : decode b_Mo_lift 94 = .ok (.aload_n 0, 1) := by decide +kernel
theorem d_Mo_lift_95 : decode b_Mo_lift 95 = .ok (.getfield 19, 3) := by decide +kernel
theorem d_Mo_lift_98 : decode b_Mo_lift 98 = .ok (.aload_n 0, 1) := by decide +kernel
theorem d_Mo_lift_99 : decode b_Mo_lift 99 = .ok (.getfield 108, 3) := by decide +kernel
theorem d_Mo_lift_102 : decode b_Mo_lift 102 = .ok (.iload_n 1, 1) := by decide +kernel
theorem d_Mo_lift_103 : decode b_Mo_lift 103 = .ok (.iastore, 1) := by decide +kernel
theorem d_Mo_lift_104 : decode b_Mo_lift 104 = .ok (.aload_n 0, 1) := by decide +kernel
theorem d_Mo_lift_105 : decode b_Mo_lift 105 = .ok (.getfield 22, 3) := by decide +kernel
theorem d_Mo_lift_108 : decode b_Mo_lift 108 = .ok (.aload_n 0, 1) := by decide +kernel
theorem d_Mo_lift_109 : decode b_Mo_lift 109 = .ok (.getfield 108, 3) := by decide +kernel
theorem d_Mo_lift_112 : decode b_Mo_lift 112 = .ok (.iload_n 2, 1) := by decide +kernel
theorem d_Mo_lift_113 : decode b_Mo_lift 113 = .ok (.iastore, 1) := by decide +kernel
theorem d_Mo_lift_114 : decode b_Mo_lift 114 = .ok (.aload_n 0, 1) := by decide +kernel
theorem d_Mo_lift_115 : decode b_Mo_lift 115 = .ok (.getfield 25, 3) := by decide +kernel
theorem d_Mo_lift_118 : decode b_Mo_lift 118 = .ok (.aload_n 0, 1) := by decide +kernel
theorem d_Mo_lift_119 : decode b_Mo_lift 119 = .ok (.getfield 108, 3) := by decide +kernel
theorem d_Mo_lift_122 : decode b_Mo_lift 122 = .ok (.iload_n 3, 1) := by decide +kernel
theorem d_Mo_lift_123 : decode b_Mo_lift 123 = .ok (.iastore, 1) := by decide +kernel
theorem d_Mo_lift_124 : decode b_Mo_lift 124 = .ok (.aload_n 0, 1) := by decide +kernel
theorem d_Mo_lift_125 : decode b_Mo_lift 125 = .ok (.getfield 28, 3) := by decide +kernel
theorem d_Mo_lift_128 : decode b_Mo_lift 128 = .ok (.aload_n 0, 1) := by decide +kernel
theorem d_Mo_lift_129 : decode b_Mo_lift 129 = .ok (.getfield 108, 3) := by decide +kernel
theorem d_Mo_lift_132 : decode b_Mo_lift 132 = .ok (.iload 4, 2) := by decide +kernel
theorem d_Mo_lift_134 : decode b_Mo_lift 134 = .ok (.iastore, 1) := by decide +kernel
theorem d_Mo_lift_135 : decode b_Mo_lift 135 = .ok (.aload_n 0, 1) := by decide +kernel
theorem d_Mo_lift_136 : decode b_Mo_lift 136 = .ok (.getfield 31, 3) := by decide +kernel
theorem d_Mo_lift_139 : decode b_Mo_lift 139 = .ok (.aload_n 0, 1) := by decide +kernel
theorem d_Mo_lift_140 : decode b_Mo_lift 140 = .ok (.getfield 108, 3) := by decide +kernel
theorem d_Mo_lift_143 : decode b_Mo_lift 143 = .ok (.iload 5, 2) := by decide +kernel
theorem d_Mo_lift_145 : decode b_Mo_lift 145 = .ok (.iastore, 1) := by decide +kernel
theorem d_Mo_lift_146 : decode b_Mo_lift 146 = .ok (.aload_n 0, 1) := by decide +kernel
theorem d_Mo_lift_147 : decode b_Mo_lift 147 = .ok (.getfield 34, 3) := by decide +kernel
theorem d_Mo_lift_150 : decode b_Mo_lift 150 = .ok (.aload_n 0, 1) := by decide +kernel
theorem d_Mo_lift_151 : decode b_Mo_lift 151 = .ok (.getfield 108, 3) := by decide +kernel
theorem d_Mo_lift_154 : decode b_Mo_lift 154 = .ok (.iload 6, 2) := by decide +kernel
theorem d_Mo_lift_156 : decode b_Mo_lift 156 = .ok (.iastore, 1) := by decide +kernel
theorem d_Mo_lift_157 : decode b_Mo_lift 157 = .ok (.aload_n 0, 1) := by decide +kernel
theorem d_Mo_lift_158 : decode b_Mo_lift 158 = .ok (.dup, 1) := by decide +kernel
theorem d_Mo_lift_159 : decode b_Mo_lift 159 = .ok (.getfield 108, 3) := by decide +kernel
theorem d_Mo_lift_162 : decode b_Mo_lift 162 = .ok (.iconst 1, 1) := by decide +kernel
theorem d_Mo_lift_163 : decode b_Mo_lift 163 = .ok (.iadd, 1) := by decide +kernel
theorem d_Mo_lift_164 : decode b_Mo_lift 164 = .ok (.putfield 108, 3) := by decide +kernel
theorem d_Mo_lift_167 : decode b_Mo_lift 167 = .ok (.aload_n 0, 1) := by decide +kernel
theorem d_Mo_lift_168 : decode b_Mo_lift 168 = .ok (.iconst (-1), 1) := by decide +kernel
theorem d_Mo_lift_169 : decode b_Mo_lift 169 = .ok (.putfield 79, 3) := by decide +kernel
theorem d_Mo_lift_172 : decode b_Mo_lift 172 = .ok (.aload_n 0, 1) := by decide +kernel
theorem d_Mo_lift_173 : decode b_Mo_lift 173 = .ok (.getfield 108, 3) := by decide +kernel
theorem d_Mo_lift_176 : decode b_Mo_lift 176 = .ok (.iconst 1, 1) := by decide +kernel
theorem d_Mo_lift_177 : decode b_Mo_lift 177 = .ok (.isub, 1) := by decide +kernel
theorem d_Mo_lift_178 : decode b_Mo_lift 178 = .ok (.ireturn, 1) := by decide +kernel
theorem d_Mo_part_0 : decode b_Mo_part 0 = .ok (.aload_n 0, 1) := by decide +kernel
theorem d_Mo_part_1 : decode b_Mo_part 1 = .ok (.iload_n 1, 1) := by decide +kernel
theorem d_Mo_part_2 : decode b_Mo_part 2 = .ok (.iconst 0, 1) := by decide +kernel
theorem d_Mo_part_3 : decode b_Mo_part 3 = .ok (.aload_n 0, 1) := by decide +kernel
theorem d_Mo_part_4 : decode b_Mo_part 4 = .ok (.getfield 105, 3) := by decide +kernel
theorem d_Mo_part_7 : decode b_Mo_part 7 = .ok (.iconst 1, 1) := by decide +kernel
theorem d_Mo_part_8 : decode b_Mo_part 8 = .ok (.isub, 1) := by decide +kernel
theorem d_Mo_part_9 : decode b_Mo_part 9 = .ok (.invokestatic 101, 3) := by decide +kernel
theorem d_Mo_part_12 : decode b_Mo_part 12 = .ok (.ifCond .eq 58, 3) := by decide +kernel
theorem d_Mo_part_15 : decode b_Mo_part 15 = .ok (.iload_n 2, 1) := by decide +kernel
theorem d_Mo_part_16 : decode b_Mo_part 16 = .ok (.iconst 0, 1) := by decide +kernel
theorem d_Mo_part_17 : decode b_Mo_part 17 = .ok (.bipush 7, 2) := by decide +kernel
theorem d_Mo_part_19 : decode b_Mo_part 19 = .ok (.invokestatic 101, 3) := by decide +kernel
theorem d_Mo_part_22 : decode b_Mo_part 22 = .ok (.ifCond .eq 48, 3) := by decide +kernel
theorem d_Mo_part_25 : decode b_Mo_part 25 = .ok (.iload_n 3, 1) := by decide +kernel
theorem d_Mo_part_26 : decode b_Mo_part 26 = .ok (.iconst 0, 1) := by decide +kernel
theorem d_Mo_part_27 : decode b_Mo_part 27 = .ok (.iconst 4, 1) := by decide +kernel
theorem d_Mo_part_28 : decode b_Mo_part 28 = .ok (.invokestatic 101, 3) := by decide +kernel
theorem d_Mo_part_31 : decode b_Mo_part 31 = .ok (.ifCond .eq 39, 3) := by decide +kernel
theorem d_Mo_part_34 : decode b_Mo_part 34 = .ok (.iload 4, 2) := by decide +kernel
theorem d_Mo_part_36 : decode b_Mo_part 36 = .ok (.iconst 1, 1) := by decide +kernel
theorem d_Mo_part_37 : decode b_Mo_part 37 = .ok (.sipush 400, 3) := by decide +kernel
theorem d_Mo_part_40 : decode b_Mo_part 40 = .ok (.invokestatic 101, 3) := by decide +kernel
theorem d_Mo_part_43 : decode b_Mo_part 43 = .ok (.ifCond .eq 27, 3) := by decide +kernel
theorem d_Mo_part_46 : decode b_Mo_part 46 = .ok (.iload 5, 2) := by decide +kernel
theorem d_Mo_part_48 : decode b_Mo_part 48 = .ok (.iconst 1, 1) := by decide +kernel
theorem d_Mo_part_49 : decode b_Mo_part 49 = .ok (.sipush 10000, 3) := by decide +kernel
theorem d_Mo_part_52 : decode b_Mo_part 52 = .ok (.invokestatic 101, 3) := by decide +kernel
theorem d_Mo_part_55 : decode b_Mo_part 55 = .ok (.ifCond .eq 15, 3) := by decide +kernel
theorem d_Mo_part_58 : decode b_Mo_part 58 = .ok (.iload 6, 2) := by decide +kernel
theorem d_Mo_part_60 : decode b_Mo_part 60 = .ok (.iconst 1, 1) := by decide +kernel
theorem d_Mo_part_61 : decode b_Mo_part 61 = .ok (.sipush 7200, 3) := by decide +kernel
theorem d_Mo_part_64 : decode b_Mo_part 64 = .ok (.invokestatic 101, 3) := by decide +kernel
theorem d_Mo_part_67 : decode b_Mo_part 67 = .ok (.ifCond .ne 7, 3) := by decide +kernel
theorem d_Mo_part_70 : decode b_Mo_part 70 = .ok (.iconst 1, 1) := by decide +kernel
theorem d_Mo_part_71 : decode b_Mo_part 71 = .ok (.goto 17, 3) := by decide +kernel
theorem d_Mo_part_74 : decode b_Mo_part 74 = .ok (.aload_n 0, 1) := by decide +kernel
theorem d_Mo_part_75 : decode b_Mo_part 75 = .ok (.getfield 111, 3) := by decide +kernel
theorem d_Mo_part_78 : decode b_Mo_part 78 = .ok (.bipush 40, 2) := by decide +kernel
theorem d_Mo_part_80 : decode b_Mo_part 80 = .ok (.if_icmp .ne 7, 3) := by decide +kernel
theorem d_Mo_part_83 : decode b_Mo_part 83 = .ok (.iconst 2, 1) := by decide +kernel
theorem d_Mo_part_84 : decode b_Mo_part 84 = .ok (.goto 4, 3) := by decide +kernel
theorem d_Mo_part_87 : decode b_Mo_part 87 = .ok (.iconst 0, 1) := by decide +kernel
theorem d_Mo_part_88 : decode b_Mo_part 88 = .ok (.putfield 98, 3) := by decide +kernel
theorem d_Mo_part_91 : decode b_Mo_part 91 = .ok (.aload_n 0, 1) := by decide +kernel
theorem d_Mo_part_92 : decode b_Mo_part 92 = .ok (.getfield 98, 3) := by decide +kernel
theorem d_Mo_part_95 : decode b_Mo_part 95 = .ok (.ifCond .le 5, 3) := by decide +kernel
theorem d_Mo_part_98 : decode b_Mo_part 98 = .ok (.iconst 0, 1) := by decide +kernel
theorem d_Mo_part_99 : decode b_Mo_part 99 = .ok (.ireturn, 1) := by decide +kernel
theorem d_Mo_part_100 : decode b_Mo_part 100 = .ok (.aload_n 0, 1) := by decide +kernel
theorem d_Mo_part_101 : decode b_Mo_part 101 = .ok (.getfield 37, 3) := by decide +kernel
theorem d_Mo_part_104 : decode b_Mo_part 104 = .ok (.aload_n 0, 1) := by decide +kernel
theorem d_Mo_part_105 : decode b_Mo_part 105 = .ok (.getfield 111, 3) := by decide +kernel
theorem d_Mo_part_108 : decode b_Mo_part 108 = .ok (.iload_n 1, 1) := by decide +kernel
theorem d_Mo_part_109 : decode b_Mo_part 109 = .ok (.iastore, 1) := by decide +kernel
theorem d_Mo_part_110 : decode b_Mo_part 110 = .ok (.aload_n 0, 1) := by decide +kernel
theorem d_Mo_part_111 : decode b_Mo_part 111 = .ok (.getfield 40, 3) := by decide +kernel
theorem d_Mo_part_114 : decode b_Mo_part 114 = .ok (.aload_n 0, 1) := by decide +kernel
theorem d_Mo_part_115 : decode b_Mo_part 115 = .ok (.getfield 111, 3) := by decide +kernel
theorem d_Mo_part_118 : decode b_Mo_part 118 = .ok (.iload_n 2, 1) := by decide +kernel
theorem d_Mo_part_119 : decode b_Mo_part 119 = .ok (.iastore, 1) := by decide +kernel
theorem d_Mo_part_120 : decode b_Mo_part 120 = .ok (.aload_n 0, 1) := by decide +kernel
theorem d_Mo_part_121 : decode b_Mo_part 121 = .ok (.getfield 43, 3) := by decide +kernel
theorem d_Mo_part_124 : decode b_Mo_part 124 = .ok (.aload_n 0, 1) := by decide +kernel
theorem d_Mo_part_125 : decode b_Mo_part 125 = .ok (.getfield 111, 3) := by decide +kernel
theorem d_Mo_part_128 : decode b_Mo_part 128 = .ok (.iload_n 3, 1) := by decide +kernel
theorem d_Mo_part_129 : decode b_Mo_part 129 = .ok (.iastore, 1) := by decide +kernel
theorem d_Mo_part_130 : decode b_Mo_part 130 = .ok (.aload_n 0, 1) := by decide +kernel
theorem d_Mo_part_131 : decode b_Mo_part 131 = .ok (.getfield 46, 3) := by decide +kernel
theorem d_Mo_part_134 : decode b_Mo_part 134 = .ok (.aload_n 0, 1) := by decide +kernel
theorem d_Mo_part_135 : decode b_Mo_part 135 = .ok (.getfield 111, 3) := by decide +kernel
theorem d_Mo_part_138 : decode b_Mo_part 138 = .ok (.iload 4, 2) := by decide +kernel
theorem d_Mo_part_140 : decode b_Mo_part 140 = .ok (.iastore, 1) := by decide +kernel
theorem d_Mo_part_141 : decode b_Mo_part 141 = .ok (.aload_n 0, 1) := by decide +kernel
theorem d_Mo_part_142 : decode b_Mo_part 142 = .ok (.getfield 49, 3) := by decide +kernel
theorem d_Mo_part_145 : decode b_Mo_part 145 = .ok (.aload_n 0, 1) := by decide +kernel
theorem d_Mo_part_146 : decode b_Mo_part 146 = .ok (.getfield 111, 3) := by decide +kernel
theorem d_Mo_part_149 : decode b_Mo_part 149 = .ok (.iload 5, 2) := by decide +kernel
theorem d_Mo_part_151 : decode b_Mo_part 151 = .ok (.iastore, 1) := by decide +kernel
theorem d_Mo_part_152 : decode b_Mo_part 152 = .ok (.aload_n 0, 1) := by decide +kernel
theorem d_Mo_part_153 : decode b_Mo_part 153 = .ok (.getfield 52, 3) := by decide +kernel
theorem d_Mo_part_156 : decode b_Mo_part 156 = .ok (.aload_n 0, 1) := by decide +kernel
theorem d_Mo_part_157 : decode b_Mo_part 157 = .ok (.getfield 111, 3) := by decide +kernel
theorem d_Mo_part_160 : decode b_Mo_part 160 = .ok (.iload 6, 2) := by decide +kernel
theorem d_Mo_part_162 : decode b_Mo_part 162 = .ok (.iastore, 1) := by decide +kernel
theorem d_Mo_part_163 : decode b_Mo_part 163 = .ok (.aload_n 0, 1) := by decide +kernel
theorem d_Mo_part_164 : decode b_Mo_part 164 = .ok (.getfield 64, 3) := by decide +kernel
theorem d_Mo_part_167 : decode b_Mo_part 167 = .ok (.aload_n 0, 1) := by decide +kernel
theorem d_Mo_part_168 : decode b_Mo_part 168 = .ok (.getfield 111, 3) := by decide +kernel
theorem d_Mo_part_171 : decode b_Mo_part 171 = .ok (.iconst (-1), 1) := by decide +kernel
theorem d_Mo_part_172 : decode b_Mo_part 172 = .ok (.iastore, 1) := by decide +kernel
theorem d_Mo_part_173 : decode b_Mo_part 173 = .ok (.aload_n 0, 1) := by decide +kernel
theorem d_Mo_part_174 : decode b_Mo_part 174 = .ok (.dup, 1) := by decide +kernel
theorem d_Mo_part_175 : decode b_Mo_part 175 = .ok (.getfield 111, 3) := by decide +kernel
theorem d_Mo_part_178 : decode b_Mo_part 178 = .ok (.iconst 1, 1) := by decide +kernel
theorem d_Mo_part_179 : decode b_Mo_part 179 = .ok (.iadd, 1) := by decide +kernel
theorem d_Mo_part_180 : decode b_Mo_part 180 = .ok (.putfield 111, 3) := by decide +kernel
theorem d_Mo_part_183 : decode b_Mo_part 183 = .ok (.aload_n 0, 1) := by decide +kernel
theorem d_Mo_part_184 : decode b_Mo_part 184 = .ok (.getfield 111, 3) := by decide +kernel
theorem d_Mo_part_187 : decode b_Mo_part 187 = .ok (.iconst 1, 1) := by decide +kernel
theorem d_Mo_part_188 : decode b_Mo_part 188 = .ok (.isub, 1) := by decide +kernel
theorem d_Mo_part_189 : decode b_Mo_part 189 = .ok (.ireturn, 1) := by decide +kernel
theorem d_Mo_person_0 : decode b_Mo_person 0 = .ok (.aload_n 0, 1) := by decide +kernel
theorem d_Mo_person_1 : decode b_Mo_person 1 = .ok (.iload_n 1, 1) := by decide +kernel
theorem d_Mo_person_2 : decode b_Mo_person 2 = .ok (.iconst 0, 1) := by decide +kernel
theorem d_Mo_person_3 : decode b_Mo_person 3 = .ok (.sipush 255, 3) := by decide +kernel
theorem d_Mo_person_6 : decode b_Mo_person 6 = .ok (.invokestatic 101, 3) := by decide +kernel
theorem d_Mo_person_9 : decode b_Mo_person 9 = .ok (.ifCond .eq 27, 3) := by decide +kernel
theorem d_Mo_person_12 : decode b_Mo_person 12 = .ok (.iload_n 2, 1) := by decide +kernel
theorem d_Mo_person_13 : decode b_Mo_person 13 = .ok (.iconst 0, 1) := by decide +kernel
theorem d_Mo_person_14 : decode b_Mo_person 14 = .ok (.aload_n 0, 1) := by decide +kernel
theorem d_Mo_person_15 : decode b_Mo_person 15 = .ok (.getfield 105, 3) := by decide +kernel
theorem d_Mo_person_18 : decode b_Mo_person 18 = .ok (.iconst 1, 1) := by decide +kernel
theorem d_Mo_person_19 : decode b_Mo_person 19 = .ok (.isub, 1) := by decide +kernel
theorem d_Mo_person_20 : decode b_Mo_person 20 = .ok (.invokestatic 101, 3) := by decide +kernel
theorem d_Mo_person_23 : decode b_Mo_person 23 = .ok (.ifCond .eq 13, 3) := by decide +kernel
theorem d_Mo_person_26 : decode b_Mo_person 26 = .ok (.iload_n 3, 1) := by decide +kernel
theorem d_Mo_person_27 : decode b_Mo_person 27 = .ok (.iconst 0, 1) := by decide +kernel
theorem d_Mo_person_28 : decode b_Mo_person 28 = .ok (.ldc 114, 2) := by decide +kernel
theorem d_Mo_person_30 : decode b_Mo_person 30 = .ok (.invokestatic 101, 3) := by decide +kernel
theorem d_Mo_person_33 : decode b_Mo_person 33 = .ok (.ifCond .ne 7, 3) := by decide +kernel
theorem d_Mo_person_36 : decode b_Mo_person 36 = .ok (.iconst 1, 1) := by decide +kernel
theorem d_Mo_person_37 : decode b_Mo_person 37 = .ok (.goto 17, 3) := by decide +kernel
theorem d_Mo_person_40 : decode b_Mo_person 40 = .ok (.aload_n 0, 1) := by decide +kernel
theorem d_Mo_person_41 : decode b_Mo_person 41 = .ok (.getfield 115, 3) := by decide +kernel
theorem d_Mo_person_44 : decode b_Mo_person 44 = .ok (.bipush 8, 2) := by decide +kernel
theorem d_Mo_person_46 : decode b_Mo_person 46 = .ok (.if_icmp .ne 7, 3) := by decide +kernel
theorem d_Mo_person_49 : decode b_Mo_person 49 = .ok (.iconst 2, 1) := by decide +kernel
theorem d_Mo_person_50 : decode b_Mo_person 50 = .ok (.goto 4, 3) := by decide +kernel
theorem d_Mo_person_53 : decode b_Mo_person 53 = .ok (.iconst 0, 1) := by decide +kernel
theorem d_Mo_person_54 : decode b_Mo_person 54 = .ok (.putfield 98, 3) := by decide +kernel
theorem d_Mo_person_57 : decode b_Mo_person 57 = .ok (.aload_n 0, 1) := by decide +kernel
theorem d_Mo_person_58 : decode b_Mo_person 58 = .ok (.getfield 98, 3) := by decide +kernel
theorem d_Mo_person_61 : decode b_Mo_person 61 = .ok (.ifCond .le 5, 3) := by decide +kernel
theorem d_Mo_person_64 : decode b_Mo_person 64 = .ok (.iconst 0, 1) := by decide +kernel
theorem d_Mo_person_65 : decode b_Mo_person 65 = .ok (.ireturn, 1) := by decide +kernel
theorem d_Mo_person_66 : decode b_Mo_person 66 = .ok (.aload_n 0, 1) := by decide +kernel
theorem d_Mo_person_67 : decode b_Mo_person 67 = .ok (.getfield 67, 3) := by decide +kernel
theorem d_Mo_person_70 : decode b_Mo_person 70 = .ok (.aload_n 0, 1) := by decide +kernel
theorem d_Mo_person_71 : decode b_Mo_person 71 = .ok (.getfield 115, 3) := by decide +kernel
theorem d_Mo_person_74 : decode b_Mo_person 74 = .ok (.iload_n 1, 1) := by decide +kernel
theorem d_Mo_person_75 : decode b_Mo_person 75 = .ok (.iastore, 1) := by decide +kernel
theorem d_Mo_person_76 : decode b_Mo_person 76 = .ok (.aload_n 0, 1) := by decide +kernel
theorem d_Mo_person_77 : decode b_Mo_person 77 = .ok (.getfield 70, 3) := by decide +kernel
theorem d_Mo_person_80 : decode b_Mo_person 80 = .ok (.aload_n 0, 1) := by decide +kernel
theorem d_Mo_person_81 : decode b_Mo_person 81 = .ok (.getfield 115, 3) := by decide +kernel
theorem d_Mo_person_84 : decode b_Mo_person 84 = .ok (.iload_n 2, 1) := by decide +kernel
theorem d_Mo_person_85 : decode b_Mo_person 85 = .ok (.iastore, 1) := by decide +kernel
theorem d_Mo_person_86 : decode b_Mo_person 86 = .ok (.aload_n 0, 1) := by decide +kernel
theorem d_Mo_person_87 : decode b_Mo_person 87 = .ok (.getfield 73, 3) := by decide +kernel
theorem d_Mo_person_90 : decode b_Mo_person 90 = .ok (.aload_n 0, 1) := by decide +kernel
theorem d_Mo_person_91 : decode b_Mo_person 91 = .ok (.getfield 115, 3) := by decide +kernel
theorem d_Mo_person_94 : decode b_Mo_person 94 = .ok (.iload_n 3, 1) := by decide +kernel
theorem d_Mo_person_95 : decode b_Mo_person 95 = .ok (.iastore, 1) := by decide +kernel
theorem d_Mo_person_96 : decode b_Mo_person 96 = .ok (.aload_n 0, 1) := by decide +kernel
theorem d_Mo_person_97 : decode b_Mo_person 97 = .ok (.dup, 1) := by decide +kernel
theorem d_Mo_person_98 : decode b_Mo_person 98 = .ok (.getfield 115, 3) := by decide +kernel
theorem d_Mo_person_101 : decode b_Mo_person 101 = .ok (.iconst 1, 1) := by decide +kernel
theorem d_Mo_person_102 : decode b_Mo_person 102 = .ok (.iadd, 1) := by decide +kernel
theorem d_Mo_person_103 : decode b_Mo_person 103 = .ok (.putfield 115, 3) := by decide +kernel
theorem d_Mo_person_106 : decode b_Mo_person 106 = .ok (.aload_n 0, 1) := by decide +kernel
theorem d_Mo_person_107 : decode b_Mo_person 107 = .ok (.iconst (-1), 1) := by decide +kernel
theorem d_Mo_person_108 : decode b_Mo_person 108 = .ok (.putfield 79, 3) := by decide +kernel
theorem d_Mo_person_111 : decode b_Mo_person 111 = .ok (.aload_n 0, 1) := by decide +kernel
theorem d_Mo_person_112 : decode b_Mo_person 112 = .ok (.getfield 115, 3) := by decide +kernel
theorem d_Mo_person_115 : decode b_Mo_person 115 = .ok (.iconst 1, 1) := by decide +kernel
theorem d_Mo_person_116 : decode b_Mo_person 116 = .ok (.isub, 1) := by decide +kernel
theorem d_Mo_person_117 : decode b_Mo_person 117 = .ok (.ireturn, 1) := by decide +kernel
theorem d_Mo_isPart_0 : decode b_Mo_isPart 0 = .ok (.iload_n 1, 1) := by decide +kernel
theorem d_Mo_isPart_1 : decode b_Mo_isPart 1 = .ok (.iconst 0, 1) := by decide +kernel
theorem d_Mo_isPart_2 : decode b_Mo_isPart 2 = .ok (.aload_n 0, 1) := by decide +kernel
theorem d_Mo_isPart_3 : decode b_Mo_isPart 3 = .ok (.getfield 111, 3) := by decide +kernel
theorem d_Mo_isPart_6 : decode b_Mo_isPart 6 = .ok (.iconst 1, 1) := by decide +kernel
theorem d_Mo_isPart_7 : decode b_Mo_isPart 7 = .ok (.isub, 1) := by decide +kernel
theorem d_Mo_isPart_8 : decode b_Mo_isPart 8 = .ok (.invokestatic 101, 3) := by decide +kernel
theorem d_Mo_isPart_11 : decode b_Mo_isPart 11 = .ok (.ireturn, 1) := by decide +kernel
theorem d_Mo_used_0 : decode b_Mo_used 0 = .ok (.aload_n 0, 1) := by decide +kernel
theorem d_Mo_used_1 : decode b_Mo_used 1 = .ok (.aload_n 0, 1) := by decide +kernel
theorem d_Mo_used_2 : decode b_Mo_used 2 = .ok (.iload_n 1, 1) := by decide +kernel
theorem d_Mo_used_3 : decode b_Mo_used 3 = .ok (.invokevirtual 118, 3) := by decide +kernel
theorem d_Mo_used_6 : decode b_Mo_used 6 = .ok (.ifCond .eq 44, 3) := by decide +kernel
theorem d_Mo_used_9 : decode b_Mo_used 9 = .ok (.iload_n 2, 1) := by decide +kernel
theorem d_Mo_used_10 : decode b_Mo_used 10 = .ok (.iconst 0, 1) := by decide +kernel
theorem d_Mo_used_11 : decode b_Mo_used 11 = .ok (.ldc 114, 2) := by decide +kernel
theorem d_Mo_used_13 : decode b_Mo_used 13 = .ok (.invokestatic 101, 3) := by decide +kernel
theorem d_Mo_used_16 : decode b_Mo_used 16 = .ok (.ifCond .eq 34, 3) := by decide +kernel
theorem d_Mo_used_19 : decode b_Mo_used 19 = .ok (.iload_n 3, 1) := by decide +kernel
theorem d_Mo_used_20 : decode b_Mo_used 20 = .ok (.iconst 1, 1) := by decide +kernel
theorem d_Mo_used_21 : decode b_Mo_used 21 = .ok (.sipush 1000, 3) := by decide +kernel
theorem d_Mo_used_24 : decode b_Mo_used 24 = .ok (.invokestatic 101, 3) := by decide +kernel
theorem d_Mo_used_27 : decode b_Mo_used 27 = .ok (.ifCond .eq 23, 3) := by decide +kernel
theorem d_Mo_used_30 : decode b_Mo_used 30 = .ok (.iload_n 2, 1) := by decide +kernel
theorem d_Mo_used_31 : decode b_Mo_used 31 = .ok (.aload_n 0, 1) := by decide +kernel
theorem d_Mo_used_32 : decode b_Mo_used 32 = .ok (.getfield 61, 3) := by decide +kernel
theorem d_Mo_used_35 : decode b_Mo_used 35 = .ok (.iload_n 1, 1) := by decide +kernel
theorem d_Mo_used_36 : decode b_Mo_used 36 = .ok (.iaload, 1) := by decide +kernel
theorem d_Mo_used_37 : decode b_Mo_used 37 = .ok (.if_icmp .lt 13, 3) := by decide +kernel
theorem d_Mo_used_40 : decode b_Mo_used 40 = .ok (.iload_n 2, 1) := by decide +kernel
theorem d_Mo_used_41 : decode b_Mo_used 41 = .ok (.aload_n 0, 1) := by decide +kernel
theorem d_Mo_used_42 : decode b_Mo_used 42 = .ok (.getfield 55, 3) := by decide +kernel
theorem d_Mo_used_45 : decode b_Mo_used 45 = .ok (.iload_n 1, 1) := by decide +kernel
theorem d_Mo_used_46 : decode b_Mo_used 46 = .ok (.iaload, 1) := by decide +kernel
theorem d_Mo_used_47 : decode b_Mo_used 47 = .ok (.if_icmp .ge 7, 3) := by decide +kernel
theorem d_Mo_used_50 : decode b_Mo_used 50 = .ok (.iconst 1, 1) := by decide +kernel
theorem d_Mo_used_51 : decode b_Mo_used 51 = .ok (.goto 4, 3) := by decide +kernel
theorem d_Mo_used_54 : decode b_Mo_used 54 = .ok (.iconst 0, 1) := by decide +kernel
theorem d_Mo_used_55 : decode b_Mo_used 55 = .ok (.putfield 98, 3) := by decide +kernel
theorem d_Mo_used_58 : decode b_Mo_used 58 = .ok (.aload_n 0, 1) := by decide +kernel
theorem d_Mo_used_59 : decode b_Mo_used 59 = .ok (.getfield 98, 3) := by decide +kernel
theorem d_Mo_used_62 : decode b_Mo_used 62 = .ok (.ifCond .le 5, 3) := by decide +kernel
theorem d_Mo_used_65 : decode b_Mo_used 65 = .ok (.iconst 0, 1) := by decide +kernel
theorem d_Mo_used_66 : decode b_Mo_used 66 = .ok (.ireturn, 1) := by decide +kernel
theorem d_Mo_used_67 : decode b_Mo_used 67 = .ok (.aload_n 0, 1) := by decide +kernel
theorem d_Mo_used_68 : decode b_Mo_used 68 = .ok (.getfield 58, 3) := by decide +kernel
theorem d_Mo_used_71 : decode b_Mo_used 71 = .ok (.iload_n 1, 1) := by decide +kernel
theorem d_Mo_used_72 : decode b_Mo_used 72 = .ok (.dup2, 1) := by decide +kernel
theorem d_Mo_used_73 : decode b_Mo_used 73 = .ok (.iaload, 1) := by decide +kernel
theorem d_Mo_used_74 : decode b_Mo_used 74 = .ok (.iload_n 3, 1) := by decide +kernel
theorem d_Mo_used_75 : decode b_Mo_used 75 = .ok (.iadd, 1) := by decide +kernel
theorem d_Mo_used_76 : decode b_Mo_used 76 = .ok (.iastore, 1) := by decide +kernel
theorem d_Mo_used_77 : decode b_Mo_used 77 = .ok (.aload_n 0, 1) := by decide +kernel
theorem d_Mo_used_78 : decode b_Mo_used 78 = .ok (.getfield 61, 3) := by decide +kernel
theorem d_Mo_used_81 : decode b_Mo_used 81 = .ok (.iload_n 1, 1) := by decide +kernel
theorem d_Mo_used_82 : decode b_Mo_used 82 = .ok (.iload_n 2, 1) := by decide +kernel
theorem d_Mo_used_83 : decode b_Mo_used 83 = .ok (.iastore, 1) := by decide +kernel
theorem d_Mo_used_84 : decode b_Mo_used 84 = .ok (.aload_n 0, 1) := by decide +kernel
theorem d_Mo_used_85 : decode b_Mo_used 85 = .ok (.getfield 58, 3) := by decide +kernel
theorem d_Mo_used_88 : decode b_Mo_used 88 = .ok (.iload_n 1, 1) := by decide +kernel
theorem d_Mo_used_89 : decode b_Mo_used 89 = .ok (.iaload, 1) := by decide +kernel
theorem d_Mo_used_90 : decode b_Mo_used 90 = .ok (.aload_n 0, 1) := by decide +kernel
theorem d_Mo_used_91 : decode b_Mo_used 91 = .ok (.getfield 49, 3) := by decide +kernel
theorem d_Mo_used_94 : decode b_Mo_used 94 = .ok (.iload_n 1, 1) := by decide +kernel
theorem d_Mo_used_95 : decode b_Mo_used 95 = .ok (.iaload, 1) := by decide +kernel
theorem d_Mo_used_96 : decode b_Mo_used 96 = .ok (.if_icmp .lt 19, 3) := by decide +kernel
theorem d_Mo_used_99 : decode b_Mo_used 99 = .ok (.aload_n 0, 1) := by decide +kernel
theorem d_Mo_used_100 : decode b_Mo_used 100 = .ok (.getfield 64, 3) := by decide +kernel
theorem d_Mo_used_103 : decode b_Mo_used 103 = .ok (.iload_n 1, 1) := by decide +kernel
theorem d_Mo_used_104 : decode b_Mo_used 104 = .ok (.iaload, 1) := by decide +kernel
theorem d_Mo_used_105 : decode b_Mo_used 105 = .ok (.ifCond .ge 10, 3) := by decide +kernel
theorem d_Mo_used_108 : decode b_Mo_used 108 = .ok (.aload_n 0, 1) := by decide +kernel
theorem d_Mo_used_109 : decode b_Mo_used 109 = .ok (.getfield 64, 3) := by decide +kernel
theorem d_Mo_used_112 : decode b_Mo_used 112 = .ok (.iload_n 1, 1) := by decide +kernel
theorem d_Mo_used_113 : decode b_Mo_used 113 = .ok (.iload_n 2, 1) := by decide +kernel
theorem d_Mo_used_114 : decode b_Mo_used 114 = .ok (.iastore, 1) := by decide +kernel
theorem d_Mo_used_115 : decode b_Mo_used 115 = .ok (.aload_n 0, 1) := by decide +kernel
theorem d_Mo_used_116 : decode b_Mo_used 116 = .ok (.getfield 58, 3) := by decide +kernel
theorem d_Mo_used_119 : decode b_Mo_used 119 = .ok (.iload_n 1, 1) := by decide +kernel
theorem d_Mo_used_120 : decode b_Mo_used 120 = .ok (.iaload, 1) := by decide +kernel
theorem d_Mo_used_121 : decode b_Mo_used 121 = .ok (.ireturn, 1) := by decide +kernel
theorem d_Mo_stock_0 : decode b_Mo_stock 0 = .ok (.aload_n 0, 1) := by decide +kernel
theorem d_Mo_stock_1 : decode b_Mo_stock 1 = .ok (.iload_n 1, 1) := by decide +kernel
theorem d_Mo_stock_2 : decode b_Mo_stock 2 = .ok (.iconst 0, 1) := by decide +kernel
theorem d_Mo_stock_3 : decode b_Mo_stock 3 = .ok (.iconst 4, 1) := by decide +kernel
theorem d_Mo_stock_4 : decode b_Mo_stock 4 = .ok (.invokestatic 101, 3) := by decide +kernel
theorem d_Mo_stock_7 : decode b_Mo_stock 7 = .ok (.ifCond .eq 14, 3) := by decide +kernel
theorem d_Mo_stock_10 : decode b_Mo_stock 10 = .ok (.iload_n 2, 1) := by decide +kernel
theorem d_Mo_stock_11 : decode b_Mo_stock 11 = .ok (.iconst 1, 1) := by decide +kernel
theorem d_Mo_stock_12 : decode b_Mo_stock 12 = .ok (.sipush 1000, 3) := by decide +kernel
theorem d_Mo_stock_15 : decode b_Mo_stock 15 = .ok (.invokestatic 101, 3) := by decide +kernel
theorem d_Mo_stock_18 : decode b_Mo_stock 18 = .ok (.ifCond .ne 7, 3) := by decide +kernel
theorem d_Mo_stock_21 : decode b_Mo_stock 21 = .ok (.iconst 1, 1) := by decide +kernel
theorem d_Mo_stock_22 : decode b_Mo_stock 22 = .ok (.goto 4, 3) := by decide +kernel
theorem d_Mo_stock_25 : decode b_Mo_stock 25 = .ok (.iconst 0, 1) := by decide +kernel
theorem d_Mo_stock_26 : decode b_Mo_stock 26 = .ok (.putfield 98, 3) := by decide +kernel
theorem d_Mo_stock_29 : decode b_Mo_stock 29 = .ok (.aload_n 0, 1) := by decide +kernel
theorem d_Mo_stock_30 : decode b_Mo_stock 30 = .ok (.getfield 98, 3) := by decide +kernel
theorem d_Mo_stock_33 : decode b_Mo_stock 33 = .ok (.ifCond .le 5, 3) := by decide +kernel
theorem d_Mo_stock_36 : decode b_Mo_stock 36 = .ok (.iconst 0, 1) := by decide +kernel
theorem d_Mo_stock_37 : decode b_Mo_stock 37 = .ok (.ireturn, 1) := by decide +kernel
theorem d_Mo_stock_38 : decode b_Mo_stock 38 = .ok (.aload_n 0, 1) := by decide +kernel
theorem d_Mo_stock_39 : decode b_Mo_stock 39 = .ok (.getfield 76, 3) := by decide +kernel
theorem d_Mo_stock_42 : decode b_Mo_stock 42 = .ok (.iload_n 1, 1) := by decide +kernel
theorem d_Mo_stock_43 : decode b_Mo_stock 43 = .ok (.dup2, 1) := by decide +kernel
theorem d_Mo_stock_44 : decode b_Mo_stock 44 = .ok (.iaload, 1) := by decide +kernel
theorem d_Mo_stock_45 : decode b_Mo_stock 45 = .ok (.iload_n 2, 1) := by decide +kernel
theorem d_Mo_stock_46 : decode b_Mo_stock 46 = .ok (.iadd, 1) := by decide +kernel
theorem d_Mo_stock_47 : decode b_Mo_stock 47 = .ok (.iastore, 1) := by decide +kernel
theorem d_Mo_stock_48 : decode b_Mo_stock 48 = .ok (.aload_n 0, 1) := by decide +kernel
theorem d_Mo_stock_49 : decode b_Mo_stock 49 = .ok (.getfield 76, 3) := by decide +kernel
theorem d_Mo_stock_52 : decode b_Mo_stock 52 = .ok (.iload_n 1, 1) := by decide +kernel
theorem d_Mo_stock_53 : decode b_Mo_stock 53 = .ok (.iaload, 1) := by decide +kernel
theorem d_Mo_stock_54 : decode b_Mo_stock 54 = .ok (.ireturn, 1) := by decide +kernel
theorem d_Mo_apart_0 : decode b_Mo_apart 0 = .ok (.iload_n 0, 1) := by decide +kernel
theorem d_Mo_apart_1 : decode b_Mo_apart 1 = .ok (.iload_n 1, 1) := by decide +kernel
theorem d_Mo_apart_2 : decode b_Mo_apart 2 = .ok (.if_icmp .ge 9, 3) := by decide +kernel
theorem d_Mo_apart_5 : decode b_Mo_apart 5 = .ok (.iload_n 1, 1) := by decide +kernel
theorem d_Mo_apart_6 : decode b_Mo_apart 6 = .ok (.iload_n 0, 1) := by decide +kernel
theorem d_Mo_apart_7 : decode b_Mo_apart 7 = .ok (.isub, 1) := by decide +kernel
theorem d_Mo_apart_8 : decode b_Mo_apart 8 = .ok (.goto 6, 3) := by decide +kernel
theorem d_Mo_apart_11 : decode b_Mo_apart 11 = .ok (.iload_n 0, 1) := by decide +kernel
theorem d_Mo_apart_12 : decode b_Mo_apart 12 = .ok (.iload_n 1, 1) := by decide +kernel
theorem d_Mo_apart_13 : decode b_Mo_apart 13 = .ok (.isub, 1) := by decide +kernel
theorem d_Mo_apart_14 : decode b_Mo_apart 14 = .ok (.ireturn, 1) := by decide +kernel
theorem d_Mo_way_0 : decode b_Mo_way 0 = .ok (.aload_n 0, 1) := by decide +kernel
theorem d_Mo_way_1 : decode b_Mo_way 1 = .ok (.getfield 7, 3) := by decide +kernel
theorem d_Mo_way_4 : decode b_Mo_way 4 = .ok (.iload_n 1, 1) := by decide +kernel
theorem d_Mo_way_5 : decode b_Mo_way 5 = .ok (.iaload, 1) := by decide +kernel
theorem d_Mo_way_6 : decode b_Mo_way 6 = .ok (.aload_n 0, 1) := by decide +kernel
theorem d_Mo_way_7 : decode b_Mo_way 7 = .ok (.getfield 7, 3) := by decide +kernel
theorem d_Mo_way_10 : decode b_Mo_way 10 = .ok (.iload_n 2, 1) := by decide +kernel
theorem d_Mo_way_11 : decode b_Mo_way 11 = .ok (.iaload, 1) := by decide +kernel
theorem d_Mo_way_12 : decode b_Mo_way 12 = .ok (.if_icmp .ne 35, 3) := by decide +kernel
theorem d_Mo_way_15 : decode b_Mo_way 15 = .ok (.aload_n 0, 1) := by decide +kernel
theorem d_Mo_way_16 : decode b_Mo_way 16 = .ok (.getfield 13, 3) := by decide +kernel
theorem d_Mo_way_19 : decode b_Mo_way 19 = .ok (.iload_n 1, 1) := by decide +kernel
theorem d_Mo_way_20 : decode b_Mo_way 20 = .ok (.iaload, 1) := by decide +kernel
theorem d_Mo_way_21 : decode b_Mo_way 21 = .ok (.aload_n 0, 1) := by decide +kernel
theorem d_Mo_way_22 : decode b_Mo_way 22 = .ok (.getfield 13, 3) := by decide +kernel
theorem d_Mo_way_25 : decode b_Mo_way 25 = .ok (.iload_n 2, 1) := by decide +kernel
theorem d_Mo_way_26 : decode b_Mo_way 26 = .ok (.iaload, 1) := by decide +kernel
theorem d_Mo_way_27 : decode b_Mo_way 27 = .ok (.invokestatic 122, 3) := by decide +kernel
theorem d_Mo_way_30 : decode b_Mo_way 30 = .ok (.aload_n 0, 1) := by decide +kernel
theorem d_Mo_way_31 : decode b_Mo_way 31 = .ok (.getfield 16, 3) := by decide +kernel
theorem d_Mo_way_34 : decode b_Mo_way 34 = .ok (.iload_n 1, 1) := by decide +kernel
theorem d_Mo_way_35 : decode b_Mo_way 35 = .ok (.iaload, 1) := by decide +kernel
theorem d_Mo_way_36 : decode b_Mo_way 36 = .ok (.aload_n 0, 1) := by decide +kernel
theorem d_Mo_way_37 : decode b_Mo_way 37 = .ok (.getfield 16, 3) := by decide +kernel
theorem d_Mo_way_40 : decode b_Mo_way 40 = .ok (.iload_n 2, 1) := by decide +kernel
theorem d_Mo_way_41 : decode b_Mo_way 41 = .ok (.iaload, 1) := by decide +kernel
theorem d_Mo_way_42 : decode b_Mo_way 42 = .ok (.invokestatic 122, 3) := by decide +kernel
theorem d_Mo_way_45 : decode b_Mo_way 45 = .ok (.iadd, 1) := by decide +kernel
theorem d_Mo_way_46 : decode b_Mo_way 46 = .ok (.ireturn, 1) := by decide +kernel
theorem d_Mo_way_47 : decode b_Mo_way 47 = .ok (.iconst (-1), 1) := by decide +kernel
theorem d_Mo_way_48 : decode b_Mo_way 48 = .ok (.istore_n 3, 1) := by decide +kernel
theorem d_Mo_way_49 : decode b_Mo_way 49 = .ok (.iconst 0, 1) := by decide +kernel
theorem d_Mo_way_50 : decode b_Mo_way 50 = .ok (.istore 4, 2) := by decide +kernel
theorem d_Mo_way_52 : decode b_Mo_way 52 = .ok (.iload 4, 2) := by decide +kernel
theorem d_Mo_way_54 : decode b_Mo_way 54 = .ok (.aload_n 0, 1) := by decide +kernel
theorem d_Mo_way_55 : decode b_Mo_way 55 = .ok (.getfield 108, 3) := by decide +kernel
theorem d_Mo_way_58 : decode b_Mo_way 58 = .ok (.if_icmp .ge 190, 3) := by decide +kernel
theorem d_Mo_way_61 : decode b_Mo_way 61 = .ok (.aload_n 0, 1) := by decide +kernel
theorem d_Mo_way_62 : decode b_Mo_way 62 = .ok (.getfield 7, 3) := by decide +kernel
theorem d_Mo_way_65 : decode b_Mo_way 65 = .ok (.iload_n 1, 1) := by decide +kernel
theorem d_Mo_way_66 : decode b_Mo_way 66 = .ok (.iaload, 1) := by decide +kernel
theorem d_Mo_way_67 : decode b_Mo_way 67 = .ok (.aload_n 0, 1) := by decide +kernel
theorem d_Mo_way_68 : decode b_Mo_way 68 = .ok (.getfield 25, 3) := by decide +kernel
theorem d_Mo_way_71 : decode b_Mo_way 71 = .ok (.iload 4, 2) := by decide +kernel
theorem d_Mo_way_73 : decode b_Mo_way 73 = .ok (.iaload, 1) := by decide +kernel
theorem d_Mo_way_74 : decode b_Mo_way 74 = .ok (.aload_n 0, 1) := by decide +kernel
theorem d_Mo_way_75 : decode b_Mo_way 75 = .ok (.getfield 28, 3) := by decide +kernel
theorem d_Mo_way_78 : decode b_Mo_way 78 = .ok (.iload 4, 2) := by decide +kernel
theorem d_Mo_way_80 : decode b_Mo_way 80 = .ok (.iaload, 1) := by decide +kernel
theorem d_Mo_way_81 : decode b_Mo_way 81 = .ok (.invokestatic 101, 3) := by decide +kernel
theorem d_Mo_way_84 : decode b_Mo_way 84 = .ok (.ifCond .eq 158, 3) := by decide +kernel
theorem d_Mo_way_87 : decode b_Mo_way 87 = .ok (.aload_n 0, 1) := by decide +kernel
theorem d_Mo_way_88 : decode b_Mo_way 88 = .ok (.getfield 7, 3) := by decide +kernel
theorem d_Mo_way_91 : decode b_Mo_way 91 = .ok (.iload_n 2, 1) := by decide +kernel
theorem d_Mo_way_92 : decode b_Mo_way 92 = .ok (.iaload, 1) := by decide +kernel
theorem d_Mo_way_93 : decode b_Mo_way 93 = .ok (.aload_n 0, 1) := by decide +kernel
theorem d_Mo_way_94 : decode b_Mo_way 94 = .ok (.getfield 25, 3) := by decide +kernel
theorem d_Mo_way_97 : decode b_Mo_way 97 = .ok (.iload 4, 2) := by decide +kernel
theorem d_Mo_way_99 : decode b_Mo_way 99 = .ok (.iaload, 1) := by decide +kernel
theorem d_Mo_way_100 : decode b_Mo_way 100 = .ok (.aload_n 0, 1) := by decide +kernel
theorem d_Mo_way_101 : decode b_Mo_way 101 = .ok (.getfield 28, 3) := by decide +kernel
theorem d_Mo_way_104 : decode b_Mo_way 104 = .ok (.iload 4, 2) := by decide +kernel
theorem d_Mo_way_106 : decode b_Mo_way 106 = .ok (.iaload, 1) := by decide +kernel
theorem d_Mo_way_107 : decode b_Mo_way 107 = .ok (.invokestatic 101, 3) := by decide +kernel
theorem d_Mo_way_110 : decode b_Mo_way 110 = .ok (.ifCond .ne 6, 3) := by decide +kernel
theorem d_Mo_way_113 : decode b_Mo_way 113 = .ok (.goto 129, 3) := by decide +kernel
theorem d_Mo_way_116 : decode b_Mo_way 116 = .ok (.aload_n 0, 1) := by decide +kernel
theorem d_Mo_way_117 : decode b_Mo_way 117 = .ok (.getfield 13, 3) := by decide +kernel
theorem d_Mo_way_120 : decode b_Mo_way 120 = .ok (.iload_n 1, 1) := by decide +kernel
theorem d_Mo_way_121 : decode b_Mo_way 121 = .ok (.iaload, 1) := by decide +kernel
theorem d_Mo_way_122 : decode b_Mo_way 122 = .ok (.aload_n 0, 1) := by decide +kernel
theorem d_Mo_way_123 : decode b_Mo_way 123 = .ok (.getfield 19, 3) := by decide +kernel
theorem d_Mo_way_126 : decode b_Mo_way 126 = .ok (.iload 4, 2) := by decide +kernel
theorem d_Mo_way_128 : decode b_Mo_way 128 = .ok (.iaload, 1) := by decide +kernel
theorem d_Mo_way_129 : decode b_Mo_way 129 = .ok (.invokestatic 122, 3) := by decide +kernel
theorem d_Mo_way_132 : decode b_Mo_way 132 = .ok (.aload_n 0, 1) := by decide +kernel
theorem d_Mo_way_133 : decode b_Mo_way 133 = .ok (.getfield 16, 3) := by decide +kernel
theorem d_Mo_way_136 : decode b_Mo_way 136 = .ok (.iload_n 1, 1) := by decide +kernel
theorem d_Mo_way_137 : decode b_Mo_way 137 = .ok (.iaload, 1) := by decide +kernel
theorem d_Mo_way_138 : decode b_Mo_way 138 = .ok (.aload_n 0, 1) := by decide +kernel
theorem d_Mo_way_139 : decode b_Mo_way 139 = .ok (.getfield 22, 3) := by decide +kernel
theorem d_Mo_way_142 : decode b_Mo_way 142 = .ok (.iload 4, 2) := by decide +kernel
theorem d_Mo_way_144 : decode b_Mo_way 144 = .ok (.iaload, 1) := by decide +kernel
theorem d_Mo_way_145 : decode b_Mo_way 145 = .ok (.invokestatic 122, 3) := by decide +kernel
theorem d_Mo_way_148 : decode b_Mo_way 148 = .ok (.iadd, 1) := by decide +kernel
theorem d_Mo_way_149 : decode b_Mo_way 149 = .ok (.istore 5, 2) := by decide +kernel
theorem d_Mo_way_151 : decode b_Mo_way 151 = .ok (.aload_n 0, 1) := by decide +kernel
theorem d_Mo_way_152 : decode b_Mo_way 152 = .ok (.getfield 13, 3) := by decide +kernel
theorem d_Mo_way_155 : decode b_Mo_way 155 = .ok (.iload_n 2, 1) := by decide +kernel
theorem d_Mo_way_156 : decode b_Mo_way 156 = .ok (.iaload, 1) := by decide +kernel
theorem d_Mo_way_157 : decode b_Mo_way 157 = .ok (.aload_n 0, 1) := by decide +kernel
theorem d_Mo_way_158 : decode b_Mo_way 158 = .ok (.getfield 19, 3) := by decide +kernel
theorem d_Mo_way_161 : decode b_Mo_way 161 = .ok (.iload 4, 2) := by decide +kernel
theorem d_Mo_way_163 : decode b_Mo_way 163 = .ok (.iaload, 1) := by decide +kernel
theorem d_Mo_way_164 : decode b_Mo_way 164 = .ok (.invokestatic 122, 3) := by decide +kernel
theorem d_Mo_way_167 : decode b_Mo_way 167 = .ok (.aload_n 0, 1) := by decide +kernel
theorem d_Mo_way_168 : decode b_Mo_way 168 = .ok (.getfield 16, 3) := by decide +kernel
theorem d_Mo_way_171 : decode b_Mo_way 171 = .ok (.iload_n 2, 1) := by decide +kernel
theorem d_Mo_way_172 : decode b_Mo_way 172 = .ok (.iaload, 1) := by decide +kernel
theorem d_Mo_way_173 : decode b_Mo_way 173 = .ok (.aload_n 0, 1) := by decide +kernel
theorem d_Mo_way_174 : decode b_Mo_way 174 = .ok (.getfield 22, 3) := by decide +kernel
theorem d_Mo_way_177 : decode b_Mo_way 177 = .ok (.iload 4, 2) := by decide +kernel
theorem d_Mo_way_179 : decode b_Mo_way 179 = .ok (.iaload, 1) := by decide +kernel
theorem d_Mo_way_180 : decode b_Mo_way 180 = .ok (.invokestatic 122, 3) := by decide +kernel
theorem d_Mo_way_183 : decode b_Mo_way 183 = .ok (.iadd, 1) := by decide +kernel
theorem d_Mo_way_184 : decode b_Mo_way 184 = .ok (.istore 6, 2) := by decide +kernel
theorem d_Mo_way_186 : decode b_Mo_way 186 = .ok (.iload 5, 2) := by decide +kernel
theorem d_Mo_way_188 : decode b_Mo_way 188 = .ok (.aload_n 0, 1) := by decide +kernel
theorem d_Mo_way_189 : decode b_Mo_way 189 = .ok (.getfield 31, 3) := by decide +kernel
theorem d_Mo_way_192 : decode b_Mo_way 192 = .ok (.iload 4, 2) := by decide +kernel
theorem d_Mo_way_194 : decode b_Mo_way 194 = .ok (.iaload, 1) := by decide +kernel
theorem d_Mo_way_195 : decode b_Mo_way 195 = .ok (.iadd, 1) := by decide +kernel
theorem d_Mo_way_196 : decode b_Mo_way 196 = .ok (.aload_n 0, 1) := by decide +kernel
theorem d_Mo_way_197 : decode b_Mo_way 197 = .ok (.getfield 34, 3) := by decide +kernel
theorem d_Mo_way_200 : decode b_Mo_way 200 = .ok (.iload 4, 2) := by decide +kernel
theorem d_Mo_way_202 : decode b_Mo_way 202 = .ok (.iaload, 1) := by decide +kernel
theorem d_Mo_way_203 : decode b_Mo_way 203 = .ok (.aload_n 0, 1) := by decide +kernel
theorem d_Mo_way_204 : decode b_Mo_way 204 = .ok (.getfield 7, 3) := by decide +kernel
theorem d_Mo_way_207 : decode b_Mo_way 207 = .ok (.iload_n 1, 1) := by decide +kernel
theorem d_Mo_way_208 : decode b_Mo_way 208 = .ok (.iaload, 1) := by decide +kernel
theorem d_Mo_way_209 : decode b_Mo_way 209 = .ok (.aload_n 0, 1) := by decide +kernel
theorem d_Mo_way_210 : decode b_Mo_way 210 = .ok (.getfield 7, 3) := by decide +kernel
theorem d_Mo_way_213 : decode b_Mo_way 213 = .ok (.iload_n 2, 1) := by decide +kernel
theorem d_Mo_way_214 : decode b_Mo_way 214 = .ok (.iaload, 1) := by decide +kernel
theorem d_Mo_way_215 : decode b_Mo_way 215 = .ok (.invokestatic 122, 3) := by decide +kernel
theorem d_Mo_way_218 : decode b_Mo_way 218 = .ok (.imul, 1) := by decide +kernel
theorem d_Mo_way_219 : decode b_Mo_way 219 = .ok (.iadd, 1) := by decide +kernel
theorem d_Mo_way_220 : decode b_Mo_way 220 = .ok (.iload 6, 2) := by decide +kernel
theorem d_Mo_way_222 : decode b_Mo_way 222 = .ok (.iadd, 1) := by decide +kernel
theorem d_Mo_way_223 : decode b_Mo_way 223 = .ok (.istore 7, 2) := by decide +kernel
theorem d_Mo_way_225 : decode b_Mo_way 225 = .ok (.iload_n 3, 1) := by decide +kernel
theorem d_Mo_way_226 : decode b_Mo_way 226 = .ok (.ifCond .lt 9, 3) := by decide +kernel
theorem d_Mo_way_229 : decode b_Mo_way 229 = .ok (.iload 7, 2) := by decide +kernel
theorem d_Mo_way_231 : decode b_Mo_way 231 = .ok (.iload_n 3, 1) := by decide +kernel
theorem d_Mo_way_232 : decode b_Mo_way 232 = .ok (.if_icmp .ge 8, 3) := by decide +kernel
theorem d_Mo_way_235 : decode b_Mo_way 235 = .ok (.iload 7, 2) := by decide +kernel
theorem d_Mo_way_237 : decode b_Mo_way 237 = .ok (.goto 4, 3) := by decide +kernel
theorem d_Mo_way_240 : decode b_Mo_way 240 = .ok (.iload_n 3, 1) := by decide +kernel
theorem d_Mo_way_241 : decode b_Mo_way 241 = .ok (.istore_n 3, 1) := by decide +kernel
theorem d_Mo_way_242 : decode b_Mo_way 242 = .ok (.iinc 4 1, 3) := by decide +kernel
theorem d_Mo_way_245 : decode b_Mo_way 245 = .ok (.goto (-193), 3) := by decide +kernel
theorem d_Mo_way_248 : decode b_Mo_way 248 = .ok (.iload_n 3, 1) := by decide +kernel
theorem d_Mo_way_249 : decode b_Mo_way 249 = .ok (.ireturn, 1) := by decide +kernel
theorem d_Mo_walk_0 : decode b_Mo_walk 0 = .ok (.aload_n 0, 1) := by decide +kernel
theorem d_Mo_walk_1 : decode b_Mo_walk 1 = .ok (.iload_n 1, 1) := by decide +kernel
theorem d_Mo_walk_2 : decode b_Mo_walk 2 = .ok (.iconst 0, 1) := by decide +kernel
theorem d_Mo_walk_3 : decode b_Mo_walk 3 = .ok (.aload_n 0, 1) := by decide +kernel
theorem d_Mo_walk_4 : decode b_Mo_walk 4 = .ok (.getfield 105, 3) := by decide +kernel
theorem d_Mo_walk_7 : decode b_Mo_walk 7 = .ok (.iconst 1, 1) := by decide +kernel
theorem d_Mo_walk_8 : decode b_Mo_walk 8 = .ok (.isub, 1) := by decide +kernel
theorem d_Mo_walk_9 : decode b_Mo_walk 9 = .ok (.invokestatic 101, 3) := by decide +kernel
theorem d_Mo_walk_12 : decode b_Mo_walk 12 = .ok (.ifCond .eq 17, 3) := by decide +kernel
theorem d_Mo_walk_15 : decode b_Mo_walk 15 = .ok (.iload_n 2, 1) := by decide +kernel
theorem d_Mo_walk_16 : decode b_Mo_walk 16 = .ok (.iconst 0, 1) := by decide +kernel
theorem d_Mo_walk_17 : decode b_Mo_walk 17 = .ok (.aload_n 0, 1) := by decide +kernel
theorem d_Mo_walk_18 : decode b_Mo_walk 18 = .ok (.getfield 105, 3) := by decide +kernel
theorem d_Mo_walk_21 : decode b_Mo_walk 21 = .ok (.iconst 1, 1) := by decide +kernel
theorem d_Mo_walk_22 : decode b_Mo_walk 22 = .ok (.isub, 1) := by decide +kernel
theorem d_Mo_walk_23 : decode b_Mo_walk 23 = .ok (.invokestatic 101, 3) := by decide +kernel
theorem d_Mo_walk_26 : decode b_Mo_walk 26 = .ok (.ifCond .ne 7, 3) := by decide +kernel
theorem d_Mo_walk_29 : decode b_Mo_walk 29 = .ok (.iconst 1, 1) := by decide +kernel
theorem d_Mo_walk_30 : decode b_Mo_walk 30 = .ok (.goto 4, 3) := by decide +kernel
theorem d_Mo_walk_33 : decode b_Mo_walk 33 = .ok (.iconst 0, 1) := by decide +kernel
theorem d_Mo_walk_34 : decode b_Mo_walk 34 = .ok (.putfield 98, 3) := by decide +kernel
theorem d_Mo_walk_37 : decode b_Mo_walk 37 = .ok (.aload_n 0, 1) := by decide +kernel
theorem d_Mo_walk_38 : decode b_Mo_walk 38 = .ok (.getfield 98, 3) := by decide +kernel
theorem d_Mo_walk_41 : decode b_Mo_walk 41 = .ok (.ifCond .le 7, 3) := by decide +kernel
theorem d_Mo_walk_44 : decode b_Mo_walk 44 = .ok (.iconst 0, 1) := by decide +kernel
theorem d_Mo_walk_45 : decode b_Mo_walk 45 = .ok (.goto 9, 3) := by decide +kernel
theorem d_Mo_walk_48 : decode b_Mo_walk 48 = .ok (.aload_n 0, 1) := by decide +kernel
theorem d_Mo_walk_49 : decode b_Mo_walk 49 = .ok (.iload_n 1, 1) := by decide +kernel
theorem d_Mo_walk_50 : decode b_Mo_walk 50 = .ok (.iload_n 2, 1) := by decide +kernel
theorem d_Mo_walk_51 : decode b_Mo_walk 51 = .ok (.invokevirtual 126, 3) := by decide +kernel
theorem d_Mo_walk_54 : decode b_Mo_walk 54 = .ok (.ireturn, 1) := by decide +kernel
theorem d_Mo_dueDay_0 : decode b_Mo_dueDay 0 = .ok (.aload_n 0, 1) := by decide +kernel
theorem d_Mo_dueDay_1 : decode b_Mo_dueDay 1 = .ok (.getfield 64, 3) := by decide +kernel
theorem d_Mo_dueDay_4 : decode b_Mo_dueDay 4 = .ok (.iload_n 1, 1) := by decide +kernel
theorem d_Mo_dueDay_5 : decode b_Mo_dueDay 5 = .ok (.iaload, 1) := by decide +kernel
theorem d_Mo_dueDay_6 : decode b_Mo_dueDay 6 = .ok (.ifCond .lt 34, 3) := by decide +kernel
theorem d_Mo_dueDay_9 : decode b_Mo_dueDay 9 = .ok (.aload_n 0, 1) := by decide +kernel
theorem d_Mo_dueDay_10 : decode b_Mo_dueDay 10 = .ok (.getfield 64, 3) := by decide +kernel
theorem d_Mo_dueDay_13 : decode b_Mo_dueDay 13 = .ok (.iload_n 1, 1) := by decide +kernel
theorem d_Mo_dueDay_14 : decode b_Mo_dueDay 14 = .ok (.iaload, 1) := by decide +kernel
theorem d_Mo_dueDay_15 : decode b_Mo_dueDay 15 = .ok (.aload_n 0, 1) := by decide +kernel
theorem d_Mo_dueDay_16 : decode b_Mo_dueDay 16 = .ok (.getfield 55, 3) := by decide +kernel
theorem d_Mo_dueDay_19 : decode b_Mo_dueDay 19 = .ok (.iload_n 1, 1) := by decide +kernel
theorem d_Mo_dueDay_20 : decode b_Mo_dueDay 20 = .ok (.iaload, 1) := by decide +kernel
theorem d_Mo_dueDay_21 : decode b_Mo_dueDay 21 = .ok (.aload_n 0, 1) := by decide +kernel
theorem d_Mo_dueDay_22 : decode b_Mo_dueDay 22 = .ok (.getfield 46, 3) := by decide +kernel
theorem d_Mo_dueDay_25 : decode b_Mo_dueDay 25 = .ok (.iload_n 1, 1) := by decide +kernel
theorem d_Mo_dueDay_26 : decode b_Mo_dueDay 26 = .ok (.iaload, 1) := by decide +kernel
theorem d_Mo_dueDay_27 : decode b_Mo_dueDay 27 = .ok (.iadd, 1) := by decide +kernel
theorem d_Mo_dueDay_28 : decode b_Mo_dueDay 28 = .ok (.if_icmp .ge 12, 3) := by decide +kernel
theorem d_Mo_dueDay_31 : decode b_Mo_dueDay 31 = .ok (.aload_n 0, 1) := by decide +kernel
theorem d_Mo_dueDay_32 : decode b_Mo_dueDay 32 = .ok (.getfield 64, 3) := by decide +kernel
theorem d_Mo_dueDay_35 : decode b_Mo_dueDay 35 = .ok (.iload_n 1, 1) := by decide +kernel
theorem d_Mo_dueDay_36 : decode b_Mo_dueDay 36 = .ok (.iaload, 1) := by decide +kernel
theorem d_Mo_dueDay_37 : decode b_Mo_dueDay 37 = .ok (.goto 16, 3) := by decide +kernel
theorem d_Mo_dueDay_40 : decode b_Mo_dueDay 40 = .ok (.aload_n 0, 1) := by decide +kernel
theorem d_Mo_dueDay_41 : decode b_Mo_dueDay 41 = .ok (.getfield 55, 3) := by decide +kernel
theorem d_Mo_dueDay_44 : decode b_Mo_dueDay 44 = .ok (.iload_n 1, 1) := by decide +kernel
theorem d_Mo_dueDay_45 : decode b_Mo_dueDay 45 = .ok (.iaload, 1) := by decide +kernel
theorem d_Mo_dueDay_46 : decode b_Mo_dueDay 46 = .ok (.aload_n 0, 1) := by decide +kernel
theorem d_Mo_dueDay_47 : decode b_Mo_dueDay 47 = .ok (.getfield 46, 3) := by decide +kernel
theorem d_Mo_dueDay_50 : decode b_Mo_dueDay 50 = .ok (.iload_n 1, 1) := by decide +kernel
theorem d_Mo_dueDay_51 : decode b_Mo_dueDay 51 = .ok (.iaload, 1) := by decide +kernel
theorem d_Mo_dueDay_52 : decode b_Mo_dueDay 52 = .ok (.iadd, 1) := by decide +kernel
theorem d_Mo_dueDay_53 : decode b_Mo_dueDay 53 = .ok (.ireturn, 1) := by decide +kernel
theorem d_Mo_isBefore_0 : decode b_Mo_isBefore 0 = .ok (.aload_n 0, 1) := by decide +kernel
theorem d_Mo_isBefore_1 : decode b_Mo_isBefore 1 = .ok (.iload_n 1, 1) := by decide +kernel
theorem d_Mo_isBefore_2 : decode b_Mo_isBefore 2 = .ok (.invokevirtual 129, 3) := by decide +kernel
theorem d_Mo_isBefore_5 : decode b_Mo_isBefore 5 = .ok (.aload_n 0, 1) := by decide +kernel
theorem d_Mo_isBefore_6 : decode b_Mo_isBefore 6 = .ok (.iload_n 2, 1) := by decide +kernel
theorem d_Mo_isBefore_7 : decode b_Mo_isBefore 7 = .ok (.invokevirtual 129, 3) := by decide +kernel
theorem d_Mo_isBefore_10 : decode b_Mo_isBefore 10 = .ok (.if_icmp .lt 21, 3) := by decide +kernel
theorem d_Mo_isBefore_13 : decode b_Mo_isBefore 13 = .ok (.aload_n 0, 1) := by decide +kernel
theorem d_Mo_isBefore_14 : decode b_Mo_isBefore 14 = .ok (.iload_n 1, 1) := by decide +kernel
theorem d_Mo_isBefore_15 : decode b_Mo_isBefore 15 = .ok (.invokevirtual 129, 3) := by decide +kernel
theorem d_Mo_isBefore_18 : decode b_Mo_isBefore 18 = .ok (.aload_n 0, 1) := by decide +kernel
theorem d_Mo_isBefore_19 : decode b_Mo_isBefore 19 = .ok (.iload_n 2, 1) := by decide +kernel
theorem d_Mo_isBefore_20 : decode b_Mo_isBefore 20 = .ok (.invokevirtual 129, 3) := by decide +kernel
theorem d_Mo_isBefore_23 : decode b_Mo_isBefore 23 = .ok (.if_icmp .ne 12, 3) := by decide +kernel
theorem d_Mo_isBefore_26 : decode b_Mo_isBefore 26 = .ok (.iload_n 1, 1) := by decide +kernel
theorem d_Mo_isBefore_27 : decode b_Mo_isBefore 27 = .ok (.iload_n 2, 1) := by decide +kernel
theorem d_Mo_isBefore_28 : decode b_Mo_isBefore 28 = .ok (.if_icmp .ge 7, 3) := by decide +kernel
theorem d_Mo_isBefore_31 : decode b_Mo_isBefore 31 = .ok (.iconst 1, 1) := by decide +kernel
theorem d_Mo_isBefore_32 : decode b_Mo_isBefore 32 = .ok (.goto 4, 3) := by decide +kernel
theorem d_Mo_isBefore_35 : decode b_Mo_isBefore 35 = .ok (.iconst 0, 1) := by decide +kernel
theorem d_Mo_isBefore_36 : decode b_Mo_isBefore 36 = .ok (.ireturn, 1) := by decide +kernel
theorem d_Mo_walksOf_0 : decode b_Mo_walksOf 0 = .ok (.iconst 0, 1) := by decide +kernel
theorem d_Mo_walksOf_1 : decode b_Mo_walksOf 1 = .ok (.istore 4, 2) := by decide +kernel
theorem d_Mo_walksOf_3 : decode b_Mo_walksOf 3 = .ok (.iload_n 3, 1) := by decide +kernel
theorem d_Mo_walksOf_4 : decode b_Mo_walksOf 4 = .ok (.istore 5, 2) := by decide +kernel
theorem d_Mo_walksOf_6 : decode b_Mo_walksOf 6 = .ok (.iconst 0, 1) := by decide +kernel
theorem d_Mo_walksOf_7 : decode b_Mo_walksOf 7 = .ok (.istore 6, 2) := by decide +kernel
theorem d_Mo_walksOf_9 : decode b_Mo_walksOf 9 = .ok (.iload 6, 2) := by decide +kernel
theorem d_Mo_walksOf_11 : decode b_Mo_walksOf 11 = .ok (.iload_n 2, 1) := by decide +kernel
theorem d_Mo_walksOf_12 : decode b_Mo_walksOf 12 = .ok (.if_icmp .gt 58, 3) := by decide +kernel
theorem d_Mo_walksOf_15 : decode b_Mo_walksOf 15 = .ok (.iload 6, 2) := by decide +kernel
theorem d_Mo_walksOf_17 : decode b_Mo_walksOf 17 = .ok (.iload_n 2, 1) := by decide +kernel
theorem d_Mo_walksOf_18 : decode b_Mo_walksOf 18 = .ok (.if_icmp .ge 15, 3) := by decide +kernel
theorem d_Mo_walksOf_21 : decode b_Mo_walksOf 21 = .ok (.aload_n 0, 1) := by decide +kernel
theorem d_Mo_walksOf_22 : decode b_Mo_walksOf 22 = .ok (.getfield 37, 3) := by decide +kernel
theorem d_Mo_walksOf_25 : decode b_Mo_walksOf 25 = .ok (.aload_n 1, 1) := by decide +kernel
theorem d_Mo_walksOf_26 : decode b_Mo_walksOf 26 = .ok (.iload 6, 2) := by decide +kernel
theorem d_Mo_walksOf_28 : decode b_Mo_walksOf 28 = .ok (.iaload, 1) := by decide +kernel
theorem d_Mo_walksOf_29 : decode b_Mo_walksOf 29 = .ok (.iaload, 1) := by decide +kernel
theorem d_Mo_walksOf_30 : decode b_Mo_walksOf 30 = .ok (.goto 4, 3) := by decide +kernel
theorem d_Mo_walksOf_33 : decode b_Mo_walksOf 33 = .ok (.iload_n 3, 1) := by decide +kernel
theorem d_Mo_walksOf_34 : decode b_Mo_walksOf 34 = .ok (.istore 7, 2) := by decide +kernel
theorem d_Mo_walksOf_36 : decode b_Mo_walksOf 36 = .ok (.aload_n 0, 1) := by decide +kernel
theorem d_Mo_walksOf_37 : decode b_Mo_walksOf 37 = .ok (.iload 5, 2) := by decide +kernel
theorem d_Mo_walksOf_39 : decode b_Mo_walksOf 39 = .ok (.iload 7, 2) := by decide +kernel
theorem d_Mo_walksOf_41 : decode b_Mo_walksOf 41 = .ok (.invokevirtual 126, 3) := by decide +kernel
theorem d_Mo_walksOf_44 : decode b_Mo_walksOf 44 = .ok (.istore 8, 2) := by decide +kernel
theorem d_Mo_walksOf_46 : decode b_Mo_walksOf 46 = .ok (.iload 8, 2) := by decide +kernel
theorem d_Mo_walksOf_48 : decode b_Mo_walksOf 48 = .ok (.ifCond .ge 5, 3) := by decide +kernel
theorem d_Mo_walksOf_51 : decode b_Mo_walksOf 51 = .ok (.iconst (-1), 1) := by decide +kernel
theorem d_Mo_walksOf_52 : decode b_Mo_walksOf 52 = .ok (.ireturn, 1) := by decide +kernel
theorem d_Mo_walksOf_53 : decode b_Mo_walksOf 53 = .ok (.iload 4, 2) := by decide +kernel
theorem d_Mo_walksOf_55 : decode b_Mo_walksOf 55 = .ok (.iload 8, 2) := by decide +kernel
theorem d_Mo_walksOf_57 : decode b_Mo_walksOf 57 = .ok (.iadd, 1) := by decide +kernel
theorem d_Mo_walksOf_58 : decode b_Mo_walksOf 58 = .ok (.istore 4, 2) := by decide +kernel
theorem d_Mo_walksOf_60 : decode b_Mo_walksOf 60 = .ok (.iload 7, 2) := by decide +kernel
theorem d_Mo_walksOf_62 : decode b_Mo_walksOf 62 = .ok (.istore 5, 2) := by decide +kernel
theorem d_Mo_walksOf_64 : decode b_Mo_walksOf 64 = .ok (.iinc 6 1, 3) := by decide +kernel
theorem d_Mo_walksOf_67 : decode b_Mo_walksOf 67 = .ok (.goto (-58), 3) := by decide +kernel
theorem d_Mo_walksOf_70 : decode b_Mo_walksOf 70 = .ok (.iload 4, 2) := by decide +kernel
theorem d_Mo_walksOf_72 : decode b_Mo_walksOf 72 = .ok (.ireturn, 1) := by decide +kernel
theorem d_Mo_next_0 : decode b_Mo_next 0 = .ok (.iload_n 1, 1) := by decide +kernel
theorem d_Mo_next_1 : decode b_Mo_next 1 = .ok (.iconst 2, 1) := by decide +kernel
theorem d_Mo_next_2 : decode b_Mo_next 2 = .ok (.isub, 1) := by decide +kernel
theorem d_Mo_next_3 : decode b_Mo_next 3 = .ok (.istore_n 2, 1) := by decide +kernel
theorem d_Mo_next_4 : decode b_Mo_next 4 = .ok (.iload_n 2, 1) := by decide +kernel
theorem d_Mo_next_5 : decode b_Mo_next 5 = .ok (.ifCond .lt 26, 3) := by decide +kernel
theorem d_Mo_next_8 : decode b_Mo_next 8 = .ok (.aload_n 0, 1) := by decide +kernel
theorem d_Mo_next_9 : decode b_Mo_next 9 = .ok (.getfield 89, 3) := by decide +kernel
theorem d_Mo_next_12 : decode b_Mo_next 12 = .ok (.iload_n 2, 1) := by decide +kernel
theorem d_Mo_next_13 : decode b_Mo_next 13 = .ok (.iaload, 1) := by decide +kernel
theorem d_Mo_next_14 : decode b_Mo_next 14 = .ok (.aload_n 0, 1) := by decide +kernel
theorem d_Mo_next_15 : decode b_Mo_next 15 = .ok (.getfield 89, 3) := by decide +kernel
theorem d_Mo_next_18 : decode b_Mo_next 18 = .ok (.iload_n 2, 1) := by decide +kernel
theorem d_Mo_next_19 : decode b_Mo_next 19 = .ok (.iconst 1, 1) := by decide +kernel
theorem d_Mo_next_20 : decode b_Mo_next 20 = .ok (.iadd, 1) := by decide +kernel
theorem d_Mo_next_21 : decode b_Mo_next 21 = .ok (.iaload, 1) := by decide +kernel
theorem d_Mo_next_22 : decode b_Mo_next 22 = .ok (.if_icmp .le 9, 3) := by decide +kernel
theorem d_Mo_next_25 : decode b_Mo_next 25 = .ok (.iinc 2 (-1), 3) := by decide +kernel
theorem d_Mo_next_28 : decode b_Mo_next 28 = .ok (.goto (-24), 3) := by decide +kernel
theorem d_Mo_next_31 : decode b_Mo_next 31 = .ok (.iload_n 2, 1) := by decide +kernel
theorem d_Mo_next_32 : decode b_Mo_next 32 = .ok (.ifCond .ge 5, 3) := by decide +kernel
theorem d_Mo_next_35 : decode b_Mo_next 35 = .ok (.iconst 0, 1) := by decide +kernel
theorem d_Mo_next_36 : decode b_Mo_next 36 = .ok (.ireturn, 1) := by decide +kernel
theorem d_Mo_next_37 : decode b_Mo_next 37 = .ok (.iload_n 1, 1) := by decide +kernel
theorem d_Mo_next_38 : decode b_Mo_next 38 = .ok (.iconst 1, 1) := by decide +kernel
theorem d_Mo_next_39 : decode b_Mo_next 39 = .ok (.isub, 1) := by decide +kernel
theorem d_Mo_next_40 : decode b_Mo_next 40 = .ok (.istore_n 3, 1) := by decide +kernel
theorem d_Mo_next_41 : decode b_Mo_next 41 = .ok (.aload_n 0, 1) := by decide +kernel
theorem d_Mo_next_42 : decode b_Mo_next 42 = .ok (.getfield 89, 3) := by decide +kernel
theorem d_Mo_next_45 : decode b_Mo_next 45 = .ok (.iload_n 3, 1) := by decide +kernel
theorem d_Mo_next_46 : decode b_Mo_next 46 = .ok (.iaload, 1) := by decide +kernel
theorem d_Mo_next_47 : decode b_Mo_next 47 = .ok (.aload_n 0, 1) := by decide +kernel
theorem d_Mo_next_48 : decode b_Mo_next 48 = .ok (.getfield 89, 3) := by decide +kernel
theorem d_Mo_next_51 : decode b_Mo_next 51 = .ok (.iload_n 2, 1) := by decide +kernel
theorem d_Mo_next_52 : decode b_Mo_next 52 = .ok (.iaload, 1) := by decide +kernel
theorem d_Mo_next_53 : decode b_Mo_next 53 = .ok (.if_icmp .ge 9, 3) := by decide +kernel
theorem d_Mo_next_56 : decode b_Mo_next 56 = .ok (.iinc 3 (-1), 3) := by decide +kernel
theorem d_Mo_next_59 : decode b_Mo_next 59 = .ok (.goto (-18), 3) := by decide +kernel
theorem d_Mo_next_62 : decode b_Mo_next 62 = .ok (.aload_n 0, 1) := by decide +kernel
theorem d_Mo_next_63 : decode b_Mo_next 63 = .ok (.iload_n 2, 1) := by decide +kernel
theorem d_Mo_next_64 : decode b_Mo_next 64 = .ok (.iload_n 3, 1) := by decide +kernel
theorem d_Mo_next_65 : decode b_Mo_next 65 = .ok (.invokevirtual 133, 3) := by decide +kernel
theorem d_Mo_next_68 : decode b_Mo_next 68 = .ok (.iload_n 2, 1) := by decide +kernel
theorem d_Mo_next_69 : decode b_Mo_next 69 = .ok (.iconst 1, 1) := by decide +kernel
theorem d_Mo_next_70 : decode b_Mo_next 70 = .ok (.iadd, 1) := by decide +kernel
theorem d_Mo_next_71 : decode b_Mo_next 71 = .ok (.istore 4, 2) := by decide +kernel
theorem d_Mo_next_73 : decode b_Mo_next 73 = .ok (.iload_n 1, 1) := by decide +kernel
theorem d_Mo_next_74 : decode b_Mo_next 74 = .ok (.iconst 1, 1) := by decide +kernel
theorem d_Mo_next_75 : decode b_Mo_next 75 = .ok (.isub, 1) := by decide +kernel
theorem d_Mo_next_76 : decode b_Mo_next 76 = .ok (.istore 5, 2) := by decide +kernel
theorem d_Mo_next_78 : decode b_Mo_next 78 = .ok (.iload 4, 2) := by decide +kernel
theorem d_Mo_next_80 : decode b_Mo_next 80 = .ok (.iload 5, 2) := by decide +kernel
theorem d_Mo_next_82 : decode b_Mo_next 82 = .ok (.if_icmp .ge 20, 3) := by decide +kernel
theorem d_Mo_next_85 : decode b_Mo_next 85 = .ok (.aload_n 0, 1) := by decide +kernel
theorem d_Mo_next_86 : decode b_Mo_next 86 = .ok (.iload 4, 2) := by decide +kernel
theorem d_Mo_next_88 : decode b_Mo_next 88 = .ok (.iload 5, 2) := by decide +kernel
theorem d_Mo_next_90 : decode b_Mo_next 90 = .ok (.invokevirtual 133, 3) := by decide +kernel
theorem d_Mo_next_93 : decode b_Mo_next 93 = .ok (.iinc 4 1, 3) := by decide +kernel
theorem d_Mo_next_96 : decode b_Mo_next 96 = .ok (.iinc 5 (-1), 3) := by decide +kernel
theorem d_Mo_next_99 : decode b_Mo_next 99 = .ok (.goto (-21), 3) := by decide +kernel
theorem d_Mo_next_102 : decode b_Mo_next 102 = .ok (.iconst 1, 1) := by decide +kernel
theorem d_Mo_next_103 : decode b_Mo_next 103 = .ok (.ireturn, 1) := by decide +kernel
theorem d_Mo_swap_0 : decode b_Mo_swap 0 = .ok (.aload_n 0, 1) := by decide +kernel
theorem d_Mo_swap_1 : decode b_Mo_swap 1 = .ok (.getfield 89, 3) := by decide +kernel
theorem d_Mo_swap_4 : decode b_Mo_swap 4 = .ok (.iload_n 1, 1) := by decide +kernel
theorem d_Mo_swap_5 : decode b_Mo_swap 5 = .ok (.iaload, 1) := by decide +kernel
theorem d_Mo_swap_6 : decode b_Mo_swap 6 = .ok (.istore_n 3, 1) := by decide +kernel
theorem d_Mo_swap_7 : decode b_Mo_swap 7 = .ok (.aload_n 0, 1) := by decide +kernel
theorem d_Mo_swap_8 : decode b_Mo_swap 8 = .ok (.getfield 89, 3) := by decide +kernel
theorem d_Mo_swap_11 : decode b_Mo_swap 11 = .ok (.iload_n 1, 1) := by decide +kernel
theorem d_Mo_swap_12 : decode b_Mo_swap 12 = .ok (.aload_n 0, 1) := by decide +kernel
theorem d_Mo_swap_13 : decode b_Mo_swap 13 = .ok (.getfield 89, 3) := by decide +kernel
theorem d_Mo_swap_16 : decode b_Mo_swap 16 = .ok (.iload_n 2, 1) := by decide +kernel
theorem d_Mo_swap_17 : decode b_Mo_swap 17 = .ok (.iaload, 1) := by decide +kernel
theorem d_Mo_swap_18 : decode b_Mo_swap 18 = .ok (.iastore, 1) := by decide +kernel
theorem d_Mo_swap_19 : decode b_Mo_swap 19 = .ok (.aload_n 0, 1) := by decide +kernel
theorem d_Mo_swap_20 : decode b_Mo_swap 20 = .ok (.getfield 89, 3) := by decide +kernel
theorem d_Mo_swap_23 : decode b_Mo_swap 23 = .ok (.iload_n 2, 1) := by decide +kernel
theorem d_Mo_swap_24 : decode b_Mo_swap 24 = .ok (.iload_n 3, 1) := by decide +kernel
theorem d_Mo_swap_25 : decode b_Mo_swap 25 = .ok (.iastore, 1) := by decide +kernel
theorem d_Mo_swap_26 : decode b_Mo_swap 26 = .ok (.return_, 1) := by decide +kernel
theorem d_Mo_tour_0 : decode b_Mo_tour 0 = .ok (.aload_n 0, 1) := by decide +kernel
theorem d_Mo_tour_1 : decode b_Mo_tour 1 = .ok (.iload_n 1, 1) := by decide +kernel
theorem d_Mo_tour_2 : decode b_Mo_tour 2 = .ok (.iconst 0, 1) := by decide +kernel
theorem d_Mo_tour_3 : decode b_Mo_tour 3 = .ok (.aload_n 0, 1) := by decide +kernel
theorem d_Mo_tour_4 : decode b_Mo_tour 4 = .ok (.getfield 115, 3) := by decide +kernel
theorem d_Mo_tour_7 : decode b_Mo_tour 7 = .ok (.iconst 1, 1) := by decide +kernel
theorem d_Mo_tour_8 : decode b_Mo_tour 8 = .ok (.isub, 1) := by decide +kernel
theorem d_Mo_tour_9 : decode b_Mo_tour 9 = .ok (.invokestatic 101, 3) := by decide +kernel
theorem d_Mo_tour_12 : decode b_Mo_tour 12 = .ok (.ifCond .eq 13, 3) := by decide +kernel
theorem d_Mo_tour_15 : decode b_Mo_tour 15 = .ok (.iload_n 2, 1) := by decide +kernel
theorem d_Mo_tour_16 : decode b_Mo_tour 16 = .ok (.iconst 0, 1) := by decide +kernel
theorem d_Mo_tour_17 : decode b_Mo_tour 17 = .ok (.ldc 114, 2) := by decide +kernel
theorem d_Mo_tour_19 : decode b_Mo_tour 19 = .ok (.invokestatic 101, 3) := by decide +kernel
theorem d_Mo_tour_22 : decode b_Mo_tour 22 = .ok (.ifCond .ne 7, 3) := by decide +kernel
theorem d_Mo_tour_25 : decode b_Mo_tour 25 = .ok (.iconst 1, 1) := by decide +kernel
theorem d_Mo_tour_26 : decode b_Mo_tour 26 = .ok (.goto 4, 3) := by decide +kernel
theorem d_Mo_tour_29 : decode b_Mo_tour 29 = .ok (.iconst 0, 1) := by decide +kernel
theorem d_Mo_tour_30 : decode b_Mo_tour 30 = .ok (.putfield 98, 3) := by decide +kernel
theorem d_Mo_tour_33 : decode b_Mo_tour 33 = .ok (.aload_n 0, 1) := by decide +kernel
theorem d_Mo_tour_34 : decode b_Mo_tour 34 = .ok (.getfield 98, 3) := by decide +kernel
theorem d_Mo_tour_37 : decode b_Mo_tour 37 = .ok (.ifCond .le 5, 3) := by decide +kernel
theorem d_Mo_tour_40 : decode b_Mo_tour 40 = .ok (.iconst 0, 1) := by decide +kernel
theorem d_Mo_tour_41 : decode b_Mo_tour 41 = .ok (.ireturn, 1) := by decide +kernel
theorem d_Mo_tour_42 : decode b_Mo_tour 42 = .ok (.iconst 0, 1) := by decide +kernel
theorem d_Mo_tour_43 : decode b_Mo_tour 43 = .ok (.istore_n 3, 1) := by decide +kernel
theorem d_Mo_tour_44 : decode b_Mo_tour 44 = .ok (.iconst 0, 1) := by decide +kernel
theorem d_Mo_tour_45 : decode b_Mo_tour 45 = .ok (.istore 4, 2) := by decide +kernel
theorem d_Mo_tour_47 : decode b_Mo_tour 47 = .ok (.iload 4, 2) := by decide +kernel
theorem d_Mo_tour_49 : decode b_Mo_tour 49 = .ok (.aload_n 0, 1) := by decide +kernel
theorem d_Mo_tour_50 : decode b_Mo_tour 50 = .ok (.getfield 111, 3) := by decide +kernel
theorem d_Mo_tour_53 : decode b_Mo_tour 53 = .ok (.if_icmp .ge 158, 3) := by decide +kernel
theorem d_Mo_tour_56 : decode b_Mo_tour 56 = .ok (.aload_n 0, 1) := by decide +kernel
theorem d_Mo_tour_57 : decode b_Mo_tour 57 = .ok (.iload 4, 2) := by decide +kernel
theorem d_Mo_tour_59 : decode b_Mo_tour 59 = .ok (.invokevirtual 129, 3) := by decide +kernel
theorem d_Mo_tour_62 : decode b_Mo_tour 62 = .ok (.iload_n 2, 1) := by decide +kernel
theorem d_Mo_tour_63 : decode b_Mo_tour 63 = .ok (.if_icmp .gt 142, 3) := by decide +kernel
theorem d_Mo_tour_66 : decode b_Mo_tour 66 = .ok (.aload_n 0, 1) := by decide +kernel
theorem d_Mo_tour_67 : decode b_Mo_tour 67 = .ok (.getfield 67, 3) := by decide +kernel
theorem d_Mo_tour_70 : decode b_Mo_tour 70 = .ok (.iload_n 1, 1) := by decide +kernel
theorem d_Mo_tour_71 : decode b_Mo_tour 71 = .ok (.iaload, 1) := by decide +kernel
theorem d_Mo_tour_72 : decode b_Mo_tour 72 = .ok (.aload_n 0, 1) := by decide +kernel
theorem d_Mo_tour_73 : decode b_Mo_tour 73 = .ok (.getfield 40, 3) := by decide +kernel
theorem d_Mo_tour_76 : decode b_Mo_tour 76 = .ok (.iload 4, 2) := by decide +kernel
theorem d_Mo_tour_78 : decode b_Mo_tour 78 = .ok (.iaload, 1) := by decide +kernel
theorem d_Mo_tour_79 : decode b_Mo_tour 79 = .ok (.ishr, 1) := by decide +kernel
theorem d_Mo_tour_80 : decode b_Mo_tour 80 = .ok (.iconst 1, 1) := by decide +kernel
theorem d_Mo_tour_81 : decode b_Mo_tour 81 = .ok (.iand, 1) := by decide +kernel
theorem d_Mo_tour_82 : decode b_Mo_tour 82 = .ok (.ifCond .eq 123, 3) := by decide +kernel
theorem d_Mo_tour_85 : decode b_Mo_tour 85 = .ok (.aload_n 0, 1) := by decide +kernel
theorem d_Mo_tour_86 : decode b_Mo_tour 86 = .ok (.aload_n 0, 1) := by decide +kernel
theorem d_Mo_tour_87 : decode b_Mo_tour 87 = .ok (.getfield 70, 3) := by decide +kernel
theorem d_Mo_tour_90 : decode b_Mo_tour 90 = .ok (.iload_n 1, 1) := by decide +kernel
theorem d_Mo_tour_91 : decode b_Mo_tour 91 = .ok (.iaload, 1) := by decide +kernel
theorem d_Mo_tour_92 : decode b_Mo_tour 92 = .ok (.aload_n 0, 1) := by decide +kernel
theorem d_Mo_tour_93 : decode b_Mo_tour 93 = .ok (.getfield 37, 3) := by decide +kernel
theorem d_Mo_tour_96 : decode b_Mo_tour 96 = .ok (.iload 4, 2) := by decide +kernel
theorem d_Mo_tour_98 : decode b_Mo_tour 98 = .ok (.iaload, 1) := by decide +kernel
theorem d_Mo_tour_99 : decode b_Mo_tour 99 = .ok (.invokevirtual 126, 3) := by decide +kernel
theorem d_Mo_tour_102 : decode b_Mo_tour 102 = .ok (.ifCond .ge 6, 3) := by decide +kernel
theorem d_Mo_tour_105 : decode b_Mo_tour 105 = .ok (.goto 100, 3) := by decide +kernel
theorem d_Mo_tour_108 : decode b_Mo_tour 108 = .ok (.iload_n 3, 1) := by decide +kernel
theorem d_Mo_tour_109 : decode b_Mo_tour 109 = .ok (.bipush 7, 2) := by decide +kernel
theorem d_Mo_tour_111 : decode b_Mo_tour 111 = .ok (.if_icmp .ge 7, 3) := by decide +kernel
theorem d_Mo_tour_114 : decode b_Mo_tour 114 = .ok (.iload_n 3, 1) := by decide +kernel
theorem d_Mo_tour_115 : decode b_Mo_tour 115 = .ok (.goto 5, 3) := by decide +kernel
theorem d_Mo_tour_118 : decode b_Mo_tour 118 = .ok (.bipush 7, 2) := by decide +kernel
theorem d_Mo_tour_120 : decode b_Mo_tour 120 = .ok (.istore 5, 2) := by decide +kernel
theorem d_Mo_tour_122 : decode b_Mo_tour 122 = .ok (.iload 5, 2) := by decide +kernel
theorem d_Mo_tour_124 : decode b_Mo_tour 124 = .ok (.ifCond .le 50, 3) := by decide +kernel
theorem d_Mo_tour_127 : decode b_Mo_tour 127 = .ok (.aload_n 0, 1) := by decide +kernel
theorem d_Mo_tour_128 : decode b_Mo_tour 128 = .ok (.iload 4, 2) := by decide +kernel
theorem d_Mo_tour_130 : decode b_Mo_tour 130 = .ok (.aload_n 0, 1) := by decide +kernel
theorem d_Mo_tour_131 : decode b_Mo_tour 131 = .ok (.getfield 86, 3) := by decide +kernel
theorem d_Mo_tour_134 : decode b_Mo_tour 134 = .ok (.iload 5, 2) := by decide +kernel
theorem d_Mo_tour_136 : decode b_Mo_tour 136 = .ok (.iconst 1, 1) := by decide +kernel
theorem d_Mo_tour_137 : decode b_Mo_tour 137 = .ok (.isub, 1) := by decide +kernel
theorem d_Mo_tour_138 : decode b_Mo_tour 138 = .ok (.iaload, 1) := by decide +kernel
theorem d_Mo_tour_139 : decode b_Mo_tour 139 = .ok (.invokevirtual 137, 3) := by decide +kernel
theorem d_Mo_tour_142 : decode b_Mo_tour 142 = .ok (.ifCond .eq 32, 3) := by decide +kernel
theorem d_Mo_tour_145 : decode b_Mo_tour 145 = .ok (.iload 5, 2) := by decide +kernel
theorem d_Mo_tour_147 : decode b_Mo_tour 147 = .ok (.bipush 7, 2) := by decide +kernel
theorem d_Mo_tour_149 : decode b_Mo_tour 149 = .ok (.if_icmp .ge 19, 3) := by decide +kernel
theorem d_Mo_tour_152 : decode b_Mo_tour 152 = .ok (.aload_n 0, 1) := by decide +kernel
theorem d_Mo_tour_153 : decode b_Mo_tour 153 = .ok (.getfield 86, 3) := by decide +kernel
theorem d_Mo_tour_156 : decode b_Mo_tour 156 = .ok (.iload 5, 2) := by decide +kernel
theorem d_Mo_tour_158 : decode b_Mo_tour 158 = .ok (.aload_n 0, 1) := by decide +kernel
theorem d_Mo_tour_159 : decode b_Mo_tour 159 = .ok (.getfield 86, 3) := by decide +kernel
theorem d_Mo_tour_162 : decode b_Mo_tour 162 = .ok (.iload 5, 2) := by decide +kernel
theorem d_Mo_tour_164 : decode b_Mo_tour 164 = .ok (.iconst 1, 1) := by decide +kernel
theorem d_Mo_tour_165 : decode b_Mo_tour 165 = .ok (.isub, 1) := by decide +kernel
theorem d_Mo_tour_166 : decode b_Mo_tour 166 = .ok (.iaload, 1) := by decide +kernel
theorem d_Mo_tour_167 : decode b_Mo_tour 167 = .ok (.iastore, 1) := by decide +kernel
theorem d_Mo_tour_168 : decode b_Mo_tour 168 = .ok (.iinc 5 (-1), 3) := by decide +kernel
theorem d_Mo_tour_171 : decode b_Mo_tour 171 = .ok (.goto (-49), 3) := by decide +kernel
theorem d_Mo_tour_174 : decode b_Mo_tour 174 = .ok (.iload 5, 2) := by decide +kernel
theorem d_Mo_tour_176 : decode b_Mo_tour 176 = .ok (.bipush 7, 2) := by decide +kernel
theorem d_Mo_tour_178 : decode b_Mo_tour 178 = .ok (.if_icmp .ge 12, 3) := by decide +kernel
theorem d_Mo_tour_181 : decode b_Mo_tour 181 = .ok (.aload_n 0, 1) := by decide +kernel
theorem d_Mo_tour_182 : decode b_Mo_tour 182 = .ok (.getfield 86, 3) := by decide +kernel
theorem d_Mo_tour_185 : decode b_Mo_tour 185 = .ok (.iload 5, 2) := by decide +kernel
theorem d_Mo_tour_187 : decode b_Mo_tour 187 = .ok (.iload 4, 2) := by decide +kernel
theorem d_Mo_tour_189 : decode b_Mo_tour 189 = .ok (.iastore, 1) := by decide +kernel
theorem d_Mo_tour_190 : decode b_Mo_tour 190 = .ok (.iload_n 3, 1) := by decide +kernel
theorem d_Mo_tour_191 : decode b_Mo_tour 191 = .ok (.bipush 7, 2) := by decide +kernel
theorem d_Mo_tour_193 : decode b_Mo_tour 193 = .ok (.if_icmp .ge 9, 3) := by decide +kernel
theorem d_Mo_tour_196 : decode b_Mo_tour 196 = .ok (.iload_n 3, 1) := by decide +kernel
theorem d_Mo_tour_197 : decode b_Mo_tour 197 = .ok (.iconst 1, 1) := by decide +kernel
theorem d_Mo_tour_198 : decode b_Mo_tour 198 = .ok (.iadd, 1) := by decide +kernel
theorem d_Mo_tour_199 : decode b_Mo_tour 199 = .ok (.goto 5, 3) := by decide +kernel
theorem d_Mo_tour_202 : decode b_Mo_tour 202 = .ok (.bipush 7, 2) := by decide +kernel
theorem d_Mo_tour_204 : decode b_Mo_tour 204 = .ok (.istore_n 3, 1) := by decide +kernel
theorem d_Mo_tour_205 : decode b_Mo_tour 205 = .ok (.iinc 4 1, 3) := by decide +kernel
theorem d_Mo_tour_208 : decode b_Mo_tour 208 = .ok (.goto (-161), 3) := by decide +kernel
theorem d_Mo_tour_211 : decode b_Mo_tour 211 = .ok (.iload_n 3, 1) := by decide +kernel
theorem d_Mo_tour_212 : decode b_Mo_tour 212 = .ok (.ifCond .le 18, 3) := by decide +kernel
theorem d_Mo_tour_215 : decode b_Mo_tour 215 = .ok (.aload_n 0, 1) := by decide +kernel
theorem d_Mo_tour_216 : decode b_Mo_tour 216 = .ok (.iload_n 1, 1) := by decide +kernel
theorem d_Mo_tour_217 : decode b_Mo_tour 217 = .ok (.iload_n 3, 1) := by decide +kernel
theorem d_Mo_tour_218 : decode b_Mo_tour 218 = .ok (.invokevirtual 141, 3) := by decide +kernel
theorem d_Mo_tour_221 : decode b_Mo_tour 221 = .ok (.ifCond .ne 9, 3) := by decide +kernel
theorem d_Mo_tour_224 : decode b_Mo_tour 224 = .ok (.iinc 3 (-1), 3) := by decide +kernel
theorem d_Mo_tour_227 : decode b_Mo_tour 227 = .ok (.goto (-16), 3) := by decide +kernel
theorem d_Mo_tour_230 : decode b_Mo_tour 230 = .ok (.aload_n 0, 1) := by decide +kernel
theorem d_Mo_tour_231 : decode b_Mo_tour 231 = .ok (.iload_n 1, 1) := by decide +kernel
theorem d_Mo_tour_232 : decode b_Mo_tour 232 = .ok (.putfield 79, 3) := by decide +kernel
theorem d_Mo_tour_235 : decode b_Mo_tour 235 = .ok (.aload_n 0, 1) := by decide +kernel
theorem d_Mo_tour_236 : decode b_Mo_tour 236 = .ok (.iload_n 2, 1) := by decide +kernel
theorem d_Mo_tour_237 : decode b_Mo_tour 237 = .ok (.putfield 144, 3) := by decide +kernel
theorem d_Mo_tour_240 : decode b_Mo_tour 240 = .ok (.aload_n 0, 1) := by decide +kernel
theorem d_Mo_tour_241 : decode b_Mo_tour 241 = .ok (.iload_n 3, 1) := by decide +kernel
theorem d_Mo_tour_242 : decode b_Mo_tour 242 = .ok (.putfield 147, 3) := by decide +kernel
theorem d_Mo_tour_245 : decode b_Mo_tour 245 = .ok (.aload_n 0, 1) := by decide +kernel
theorem d_Mo_tour_246 : decode b_Mo_tour 246 = .ok (.iconst 0, 1) := by decide +kernel
theorem d_Mo_tour_247 : decode b_Mo_tour 247 = .ok (.putfield 150, 3) := by decide +kernel
theorem d_Mo_tour_250 : decode b_Mo_tour 250 = .ok (.iconst 0, 1) := by decide +kernel
theorem d_Mo_tour_251 : decode b_Mo_tour 251 = .ok (.istore 4, 2) := by decide +kernel
theorem d_Mo_tour_253 : decode b_Mo_tour 253 = .ok (.iload 4, 2) := by decide +kernel
theorem d_Mo_tour_255 : decode b_Mo_tour 255 = .ok (.iload_n 3, 1) := by decide +kernel
theorem d_Mo_tour_256 : decode b_Mo_tour 256 = .ok (.if_icmp .ge 23, 3) := by decide +kernel
theorem d_Mo_tour_259 : decode b_Mo_tour 259 = .ok (.aload_n 0, 1) := by decide +kernel
theorem d_Mo_tour_260 : decode b_Mo_tour 260 = .ok (.getfield 83, 3) := by decide +kernel
theorem d_Mo_tour_263 : decode b_Mo_tour 263 = .ok (.iload 4, 2) := by decide +kernel
theorem d_Mo_tour_265 : decode b_Mo_tour 265 = .ok (.aload_n 0, 1) := by decide +kernel
theorem d_Mo_tour_266 : decode b_Mo_tour 266 = .ok (.getfield 92, 3) := by decide +kernel
theorem d_Mo_tour_269 : decode b_Mo_tour 269 = .ok (.iload 4, 2) := by decide +kernel
theorem d_Mo_tour_271 : decode b_Mo_tour 271 = .ok (.iaload, 1) := by decide +kernel
theorem d_Mo_tour_272 : decode b_Mo_tour 272 = .ok (.iastore, 1) := by decide +kernel
theorem d_Mo_tour_273 : decode b_Mo_tour 273 = .ok (.iinc 4 1, 3) := by decide +kernel
theorem d_Mo_tour_276 : decode b_Mo_tour 276 = .ok (.goto (-23), 3) := by decide +kernel
theorem d_Mo_tour_279 : decode b_Mo_tour 279 = .ok (.iload_n 3, 1) := by decide +kernel
theorem d_Mo_tour_280 : decode b_Mo_tour 280 = .ok (.ireturn, 1) := by decide +kernel
theorem d_Mo_isTour_0 : decode b_Mo_isTour 0 = .ok (.iconst 0, 1) := by decide +kernel
theorem d_Mo_isTour_1 : decode b_Mo_isTour 1 = .ok (.istore_n 3, 1) := by decide +kernel
theorem d_Mo_isTour_2 : decode b_Mo_isTour 2 = .ok (.iload_n 3, 1) := by decide +kernel
theorem d_Mo_isTour_3 : decode b_Mo_isTour 3 = .ok (.iload_n 2, 1) := by decide +kernel
theorem d_Mo_isTour_4 : decode b_Mo_isTour 4 = .ok (.if_icmp .ge 70, 3) := by decide +kernel
theorem d_Mo_isTour_7 : decode b_Mo_isTour 7 = .ok (.iload_n 3, 1) := by decide +kernel
theorem d_Mo_isTour_8 : decode b_Mo_isTour 8 = .ok (.istore 4, 2) := by decide +kernel
theorem d_Mo_isTour_10 : decode b_Mo_isTour 10 = .ok (.iload 4, 2) := by decide +kernel
theorem d_Mo_isTour_12 : decode b_Mo_isTour 12 = .ok (.ifCond .le 43, 3) := by decide +kernel
theorem d_Mo_isTour_15 : decode b_Mo_isTour 15 = .ok (.aload_n 0, 1) := by decide +kernel
theorem d_Mo_isTour_16 : decode b_Mo_isTour 16 = .ok (.getfield 89, 3) := by decide +kernel
theorem d_Mo_isTour_19 : decode b_Mo_isTour 19 = .ok (.iload 4, 2) := by decide +kernel
theorem d_Mo_isTour_21 : decode b_Mo_isTour 21 = .ok (.iconst 1, 1) := by decide +kernel
theorem d_Mo_isTour_22 : decode b_Mo_isTour 22 = .ok (.isub, 1) := by decide +kernel
theorem d_Mo_isTour_23 : decode b_Mo_isTour 23 = .ok (.iaload, 1) := by decide +kernel
theorem d_Mo_isTour_24 : decode b_Mo_isTour 24 = .ok (.aload_n 0, 1) := by decide +kernel
theorem d_Mo_isTour_25 : decode b_Mo_isTour 25 = .ok (.getfield 86, 3) := by decide +kernel
theorem d_Mo_isTour_28 : decode b_Mo_isTour 28 = .ok (.iload_n 3, 1) := by decide +kernel
theorem d_Mo_isTour_29 : decode b_Mo_isTour 29 = .ok (.iaload, 1) := by decide +kernel
theorem d_Mo_isTour_30 : decode b_Mo_isTour 30 = .ok (.if_icmp .le 25, 3) := by decide +kernel
theorem d_Mo_isTour_33 : decode b_Mo_isTour 33 = .ok (.aload_n 0, 1) := by decide +kernel
theorem d_Mo_isTour_34 : decode b_Mo_isTour 34 = .ok (.getfield 89, 3) := by decide +kernel
theorem d_Mo_isTour_37 : decode b_Mo_isTour 37 = .ok (.iload 4, 2) := by decide +kernel
theorem d_Mo_isTour_39 : decode b_Mo_isTour 39 = .ok (.aload_n 0, 1) := by decide +kernel
theorem d_Mo_isTour_40 : decode b_Mo_isTour 40 = .ok (.getfield 89, 3) := by decide +kernel
theorem d_Mo_isTour_43 : decode b_Mo_isTour 43 = .ok (.iload 4, 2) := by decide +kernel
theorem d_Mo_isTour_45 : decode b_Mo_isTour 45 = .ok (.iconst 1, 1) := by decide +kernel
theorem d_Mo_isTour_46 : decode b_Mo_isTour 46 = .ok (.isub, 1) := by decide +kernel
theorem d_Mo_isTour_47 : decode b_Mo_isTour 47 = .ok (.iaload, 1) := by decide +kernel
theorem d_Mo_isTour_48 : decode b_Mo_isTour 48 = .ok (.iastore, 1) := by decide +kernel
theorem d_Mo_isTour_49 : decode b_Mo_isTour 49 = .ok (.iinc 4 (-1), 3) := by decide +kernel
theorem d_Mo_isTour_52 : decode b_Mo_isTour 52 = .ok (.goto (-42), 3) := by decide +kernel
theorem d_Mo_isTour_55 : decode b_Mo_isTour 55 = .ok (.aload_n 0, 1) := by decide +kernel
theorem d_Mo_isTour_56 : decode b_Mo_isTour 56 = .ok (.getfield 89, 3) := by decide +kernel
theorem d_Mo_isTour_59 : decode b_Mo_isTour 59 = .ok (.iload 4, 2) := by decide +kernel
theorem d_Mo_isTour_61 : decode b_Mo_isTour 61 = .ok (.aload_n 0, 1) := by decide +kernel
theorem d_Mo_isTour_62 : decode b_Mo_isTour 62 = .ok (.getfield 86, 3) := by decide +kernel
theorem d_Mo_isTour_65 : decode b_Mo_isTour 65 = .ok (.iload_n 3, 1) := by decide +kernel
theorem d_Mo_isTour_66 : decode b_Mo_isTour 66 = .ok (.iaload, 1) := by decide +kernel
theorem d_Mo_isTour_67 : decode b_Mo_isTour 67 = .ok (.iastore, 1) := by decide +kernel
theorem d_Mo_isTour_68 : decode b_Mo_isTour 68 = .ok (.iinc 3 1, 3) := by decide +kernel
theorem d_Mo_isTour_71 : decode b_Mo_isTour 71 = .ok (.goto (-69), 3) := by decide +kernel
theorem d_Mo_isTour_74 : decode b_Mo_isTour 74 = .ok (.iconst (-1), 1) := by decide +kernel
theorem d_Mo_isTour_75 : decode b_Mo_isTour 75 = .ok (.istore_n 3, 1) := by decide +kernel
theorem d_Mo_isTour_76 : decode b_Mo_isTour 76 = .ok (.iconst 1, 1) := by decide +kernel
theorem d_Mo_isTour_77 : decode b_Mo_isTour 77 = .ok (.istore 4, 2) := by decide +kernel
theorem d_Mo_isTour_79 : decode b_Mo_isTour 79 = .ok (.iload 4, 2) := by decide +kernel
theorem d_Mo_isTour_81 : decode b_Mo_isTour 81 = .ok (.ifCond .eq 77, 3) := by decide +kernel
theorem d_Mo_isTour_84 : decode b_Mo_isTour 84 = .ok (.aload_n 0, 1) := by decide +kernel
theorem d_Mo_isTour_85 : decode b_Mo_isTour 85 = .ok (.aload_n 0, 1) := by decide +kernel
theorem d_Mo_isTour_86 : decode b_Mo_isTour 86 = .ok (.getfield 89, 3) := by decide +kernel
theorem d_Mo_isTour_89 : decode b_Mo_isTour 89 = .ok (.iload_n 2, 1) := by decide +kernel
theorem d_Mo_isTour_90 : decode b_Mo_isTour 90 = .ok (.aload_n 0, 1) := by decide +kernel
theorem d_Mo_isTour_91 : decode b_Mo_isTour 91 = .ok (.getfield 70, 3) := by decide +kernel
theorem d_Mo_isTour_94 : decode b_Mo_isTour 94 = .ok (.iload_n 1, 1) := by decide +kernel
theorem d_Mo_isTour_95 : decode b_Mo_isTour 95 = .ok (.iaload, 1) := by decide +kernel
theorem d_Mo_isTour_96 : decode b_Mo_isTour 96 = .ok (.invokevirtual 153, 3) := by decide +kernel
theorem d_Mo_isTour_99 : decode b_Mo_isTour 99 = .ok (.istore 5, 2) := by decide +kernel
theorem d_Mo_isTour_101 : decode b_Mo_isTour 101 = .ok (.iload 5, 2) := by decide +kernel
theorem d_Mo_isTour_103 : decode b_Mo_isTour 103 = .ok (.ifCond .lt 45, 3) := by decide +kernel
theorem d_Mo_isTour_106 : decode b_Mo_isTour 106 = .ok (.iload_n 3, 1) := by decide +kernel
theorem d_Mo_isTour_107 : decode b_Mo_isTour 107 = .ok (.ifCond .lt 9, 3) := by decide +kernel
theorem d_Mo_isTour_110 : decode b_Mo_isTour 110 = .ok (.iload 5, 2) := by decide +kernel
theorem d_Mo_isTour_112 : decode b_Mo_isTour 112 = .ok (.iload_n 3, 1) := by decide +kernel
theorem d_Mo_isTour_113 : decode b_Mo_isTour 113 = .ok (.if_icmp .ge 35, 3) := by decide +kernel
theorem d_Mo_isTour_116 : decode b_Mo_isTour 116 = .ok (.iload 5, 2) := by decide +kernel
theorem d_Mo_isTour_118 : decode b_Mo_isTour 118 = .ok (.istore_n 3, 1) := by decide +kernel
theorem d_Mo_isTour_119 : decode b_Mo_isTour 119 = .ok (.iconst 0, 1) := by decide +kernel
theorem d_Mo_isTour_120 : decode b_Mo_isTour 120 = .ok (.istore 6, 2) := by decide +kernel
theorem d_Mo_isTour_122 : decode b_Mo_isTour 122 = .ok (.iload 6, 2) := by decide +kernel
theorem d_Mo_isTour_124 : decode b_Mo_isTour 124 = .ok (.iload_n 2, 1) := by decide +kernel
theorem d_Mo_isTour_125 : decode b_Mo_isTour 125 = .ok (.if_icmp .ge 23, 3) := by decide +kernel
theorem d_Mo_isTour_128 : decode b_Mo_isTour 128 = .ok (.aload_n 0, 1) := by decide +kernel
theorem d_Mo_isTour_129 : decode b_Mo_isTour 129 = .ok (.getfield 92, 3) := by decide +kernel
theorem d_Mo_isTour_132 : decode b_Mo_isTour 132 = .ok (.iload 6, 2) := by decide +kernel
theorem d_Mo_isTour_134 : decode b_Mo_isTour 134 = .ok (.aload_n 0, 1) := by decide +kernel
theorem d_Mo_isTour_135 : decode b_Mo_isTour 135 = .ok (.getfield 89, 3) := by decide +kernel
theorem d_Mo_isTour_138 : decode b_Mo_isTour 138 = .ok (.iload 6, 2) := by decide +kernel
theorem d_Mo_isTour_140 : decode b_Mo_isTour 140 = .ok (.iaload, 1) := by decide +kernel
theorem d_Mo_isTour_141 : decode b_Mo_isTour 141 = .ok (.iastore, 1) := by decide +kernel
theorem d_Mo_isTour_142 : decode b_Mo_isTour 142 = .ok (.iinc 6 1, 3) := by decide +kernel
theorem d_Mo_isTour_145 : decode b_Mo_isTour 145 = .ok (.goto (-23), 3) := by decide +kernel
theorem d_Mo_isTour_148 : decode b_Mo_isTour 148 = .ok (.aload_n 0, 1) := by decide +kernel
theorem d_Mo_isTour_149 : decode b_Mo_isTour 149 = .ok (.iload_n 2, 1) := by decide +kernel
theorem d_Mo_isTour_150 : decode b_Mo_isTour 150 = .ok (.invokevirtual 157, 3) := by decide +kernel
theorem d_Mo_isTour_153 : decode b_Mo_isTour 153 = .ok (.istore 4, 2) := by decide +kernel
theorem d_Mo_isTour_155 : decode b_Mo_isTour 155 = .ok (.goto (-76), 3) := by decide +kernel
theorem d_Mo_isTour_158 : decode b_Mo_isTour 158 = .ok (.iload_n 3, 1) := by decide +kernel
theorem d_Mo_isTour_159 : decode b_Mo_isTour 159 = .ok (.istore 5, 2) := by decide +kernel
theorem d_Mo_isTour_161 : decode b_Mo_isTour 161 = .ok (.iconst 0, 1) := by decide +kernel
theorem d_Mo_isTour_162 : decode b_Mo_isTour 162 = .ok (.istore 6, 2) := by decide +kernel
theorem d_Mo_isTour_164 : decode b_Mo_isTour 164 = .ok (.iload 6, 2) := by decide +kernel
theorem d_Mo_isTour_166 : decode b_Mo_isTour 166 = .ok (.iload_n 2, 1) := by decide +kernel
theorem d_Mo_isTour_167 : decode b_Mo_isTour 167 = .ok (.if_icmp .ge 26, 3) := by decide +kernel
theorem d_Mo_isTour_170 : decode b_Mo_isTour 170 = .ok (.iload 5, 2) := by decide +kernel
theorem d_Mo_isTour_172 : decode b_Mo_isTour 172 = .ok (.aload_n 0, 1) := by decide +kernel
theorem d_Mo_isTour_173 : decode b_Mo_isTour 173 = .ok (.getfield 52, 3) := by decide +kernel
theorem d_Mo_isTour_176 : decode b_Mo_isTour 176 = .ok (.aload_n 0, 1) := by decide +kernel
theorem d_Mo_isTour_177 : decode b_Mo_isTour 177 = .ok (.getfield 86, 3) := by decide +kernel
theorem d_Mo_isTour_180 : decode b_Mo_isTour 180 = .ok (.iload 6, 2) := by decide +kernel
theorem d_Mo_isTour_182 : decode b_Mo_isTour 182 = .ok (.iaload, 1) := by decide +kernel
theorem d_Mo_isTour_183 : decode b_Mo_isTour 183 = .ok (.iaload, 1) := by decide +kernel
theorem d_Mo_isTour_184 : decode b_Mo_isTour 184 = .ok (.iadd, 1) := by decide +kernel
theorem d_Mo_isTour_185 : decode b_Mo_isTour 185 = .ok (.istore 5, 2) := by decide +kernel
theorem d_Mo_isTour_187 : decode b_Mo_isTour 187 = .ok (.iinc 6 1, 3) := by decide +kernel
theorem d_Mo_isTour_190 : decode b_Mo_isTour 190 = .ok (.goto (-26), 3) := by decide +kernel
theorem d_Mo_isTour_193 : decode b_Mo_isTour 193 = .ok (.iload_n 3, 1) := by decide +kernel
theorem d_Mo_isTour_194 : decode b_Mo_isTour 194 = .ok (.ifCond .lt 18, 3) := by decide +kernel
theorem d_Mo_isTour_197 : decode b_Mo_isTour 197 = .ok (.iload 5, 2) := by decide +kernel
theorem d_Mo_isTour_199 : decode b_Mo_isTour 199 = .ok (.aload_n 0, 1) := by decide +kernel
theorem d_Mo_isTour_200 : decode b_Mo_isTour 200 = .ok (.getfield 73, 3) := by decide +kernel
theorem d_Mo_isTour_203 : decode b_Mo_isTour 203 = .ok (.iload_n 1, 1) := by decide +kernel
theorem d_Mo_isTour_204 : decode b_Mo_isTour 204 = .ok (.iaload, 1) := by decide +kernel
theorem d_Mo_isTour_205 : decode b_Mo_isTour 205 = .ok (.if_icmp .gt 7, 3) := by decide +kernel
theorem d_Mo_isTour_208 : decode b_Mo_isTour 208 = .ok (.iconst 1, 1) := by decide +kernel
theorem d_Mo_isTour_209 : decode b_Mo_isTour 209 = .ok (.goto 4, 3) := by decide +kernel
theorem d_Mo_isTour_212 : decode b_Mo_isTour 212 = .ok (.iconst 0, 1) := by decide +kernel
theorem d_Mo_isTour_213 : decode b_Mo_isTour 213 = .ok (.ireturn, 1) := by decide +kernel
theorem d_Mo_stop_0 : decode b_Mo_stop 0 = .ok (.aload_n 0, 1) := by decide +kernel
theorem d_Mo_stop_1 : decode b_Mo_stop 1 = .ok (.aload_n 0, 1) := by decide +kernel
theorem d_Mo_stop_2 : decode b_Mo_stop 2 = .ok (.getfield 79, 3) := by decide +kernel
theorem d_Mo_stop_5 : decode b_Mo_stop 5 = .ok (.ifCond .lt 17, 3) := by decide +kernel
theorem d_Mo_stop_8 : decode b_Mo_stop 8 = .ok (.iload_n 1, 1) := by decide +kernel
theorem d_Mo_stop_9 : decode b_Mo_stop 9 = .ok (.iconst 0, 1) := by decide +kernel
theorem d_Mo_stop_10 : decode b_Mo_stop 10 = .ok (.aload_n 0, 1) := by decide +kernel
theorem d_Mo_stop_11 : decode b_Mo_stop 11 = .ok (.getfield 147, 3) := by decide +kernel
theorem d_Mo_stop_14 : decode b_Mo_stop 14 = .ok (.iconst 1, 1) := by decide +kernel
theorem d_Mo_stop_15 : decode b_Mo_stop 15 = .ok (.isub, 1) := by decide +kernel
theorem d_Mo_stop_16 : decode b_Mo_stop 16 = .ok (.invokestatic 101, 3) := by decide +kernel
theorem d_Mo_stop_19 : decode b_Mo_stop 19 = .ok (.ifCond .ne 7, 3) := by decide +kernel
theorem d_Mo_stop_22 : decode b_Mo_stop 22 = .ok (.iconst 1, 1) := by decide +kernel
theorem d_Mo_stop_23 : decode b_Mo_stop 23 = .ok (.goto 4, 3) := by decide +kernel
theorem d_Mo_stop_26 : decode b_Mo_stop 26 = .ok (.iconst 0, 1) := by decide +kernel
theorem d_Mo_stop_27 : decode b_Mo_stop 27 = .ok (.putfield 98, 3) := by decide +kernel
theorem d_Mo_stop_30 : decode b_Mo_stop 30 = .ok (.aload_n 0, 1) := by decide +kernel
theorem d_Mo_stop_31 : decode b_Mo_stop 31 = .ok (.getfield 98, 3) := by decide +kernel
theorem d_Mo_stop_34 : decode b_Mo_stop 34 = .ok (.ifCond .le 7, 3) := by decide +kernel
theorem d_Mo_stop_37 : decode b_Mo_stop 37 = .ok (.iconst 0, 1) := by decide +kernel
theorem d_Mo_stop_38 : decode b_Mo_stop 38 = .ok (.goto 9, 3) := by decide +kernel
theorem d_Mo_stop_41 : decode b_Mo_stop 41 = .ok (.aload_n 0, 1) := by decide +kernel
theorem d_Mo_stop_42 : decode b_Mo_stop 42 = .ok (.getfield 83, 3) := by decide +kernel
theorem d_Mo_stop_45 : decode b_Mo_stop 45 = .ok (.iload_n 1, 1) := by decide +kernel
theorem d_Mo_stop_46 : decode b_Mo_stop 46 = .ok (.iaload, 1) := by decide +kernel
theorem d_Mo_stop_47 : decode b_Mo_stop 47 = .ok (.ireturn, 1) := by decide +kernel
theorem d_Mo_told_0 : decode b_Mo_told 0 = .ok (.aload_n 0, 1) := by decide +kernel
theorem d_Mo_told_1 : decode b_Mo_told 1 = .ok (.iload_n 1, 1) := by decide +kernel
theorem d_Mo_told_2 : decode b_Mo_told 2 = .ok (.iconst 0, 1) := by decide +kernel
theorem d_Mo_told_3 : decode b_Mo_told 3 = .ok (.iconst 4, 1) := by decide +kernel
theorem d_Mo_told_4 : decode b_Mo_told 4 = .ok (.invokestatic 101, 3) := by decide +kernel
theorem d_Mo_told_7 : decode b_Mo_told 7 = .ok (.ifCond .eq 7, 3) := by decide +kernel
theorem d_Mo_told_10 : decode b_Mo_told 10 = .ok (.iconst 0, 1) := by decide +kernel
theorem d_Mo_told_11 : decode b_Mo_told 11 = .ok (.goto 4, 3) := by decide +kernel
theorem d_Mo_told_14 : decode b_Mo_told 14 = .ok (.iconst 1, 1) := by decide +kernel
theorem d_Mo_told_15 : decode b_Mo_told 15 = .ok (.putfield 98, 3) := by decide +kernel
theorem d_Mo_told_18 : decode b_Mo_told 18 = .ok (.aload_n 0, 1) := by decide +kernel
theorem d_Mo_told_19 : decode b_Mo_told 19 = .ok (.getfield 98, 3) := by decide +kernel
theorem d_Mo_told_22 : decode b_Mo_told 22 = .ok (.ifCond .gt 8, 3) := by decide +kernel
theorem d_Mo_told_25 : decode b_Mo_told 25 = .ok (.iload_n 1, 1) := by decide +kernel
theorem d_Mo_told_26 : decode b_Mo_told 26 = .ok (.iconst 4, 1) := by decide +kernel
theorem d_Mo_told_27 : decode b_Mo_told 27 = .ok (.if_icmp .ne 19, 3) := by decide +kernel
theorem d_Mo_told_30 : decode b_Mo_told 30 = .ok (.aload_n 0, 1) := by decide +kernel
theorem d_Mo_told_31 : decode b_Mo_told 31 = .ok (.getfield 98, 3) := by decide +kernel
theorem d_Mo_told_34 : decode b_Mo_told 34 = .ok (.ifCond .le 7, 3) := by decide +kernel
theorem d_Mo_told_37 : decode b_Mo_told 37 = .ok (.iconst 0, 1) := by decide +kernel
theorem d_Mo_told_38 : decode b_Mo_told 38 = .ok (.goto 7, 3) := by decide +kernel
theorem d_Mo_told_41 : decode b_Mo_told 41 = .ok (.aload_n 0, 1) := by decide +kernel
theorem d_Mo_told_42 : decode b_Mo_told 42 = .ok (.getfield 79, 3) := by decide +kernel
theorem d_Mo_told_45 : decode b_Mo_told 45 = .ok (.ireturn, 1) := by decide +kernel
theorem d_Mo_told_46 : decode b_Mo_told 46 = .ok (.aload_n 0, 1) := by decide +kernel
theorem d_Mo_told_47 : decode b_Mo_told 47 = .ok (.getfield 79, 3) := by decide +kernel
theorem d_Mo_told_50 : decode b_Mo_told 50 = .ok (.ifCond .ge 5, 3) := by decide +kernel
theorem d_Mo_told_53 : decode b_Mo_told 53 = .ok (.iconst 0, 1) := by decide +kernel
theorem d_Mo_told_54 : decode b_Mo_told 54 = .ok (.ireturn, 1) := by decide +kernel
theorem d_Mo_told_55 : decode b_Mo_told 55 = .ok (.iconst 0, 1) := by decide +kernel
theorem d_Mo_told_56 : decode b_Mo_told 56 = .ok (.istore_n 2, 1) := by decide +kernel
theorem d_Mo_told_57 : decode b_Mo_told 57 = .ok (.iconst 0, 1) := by decide +kernel
theorem d_Mo_told_58 : decode b_Mo_told 58 = .ok (.istore_n 3, 1) := by decide +kernel
theorem d_Mo_told_59 : decode b_Mo_told 59 = .ok (.iload_n 3, 1) := by decide +kernel
theorem d_Mo_told_60 : decode b_Mo_told 60 = .ok (.aload_n 0, 1) := by decide +kernel
theorem d_Mo_told_61 : decode b_Mo_told 61 = .ok (.getfield 147, 3) := by decide +kernel
theorem d_Mo_told_64 : decode b_Mo_told 64 = .ok (.if_icmp .ge 23, 3) := by decide +kernel
theorem d_Mo_told_67 : decode b_Mo_told 67 = .ok (.iload_n 2, 1) := by decide +kernel
theorem d_Mo_told_68 : decode b_Mo_told 68 = .ok (.aload_n 0, 1) := by decide +kernel
theorem d_Mo_told_69 : decode b_Mo_told 69 = .ok (.getfield 52, 3) := by decide +kernel
theorem d_Mo_told_72 : decode b_Mo_told 72 = .ok (.aload_n 0, 1) := by decide +kernel
theorem d_Mo_told_73 : decode b_Mo_told 73 = .ok (.getfield 83, 3) := by decide +kernel
theorem d_Mo_told_76 : decode b_Mo_told 76 = .ok (.iload_n 3, 1) := by decide +kernel
theorem d_Mo_told_77 : decode b_Mo_told 77 = .ok (.iaload, 1) := by decide +kernel
theorem d_Mo_told_78 : decode b_Mo_told 78 = .ok (.iaload, 1) := by decide +kernel
theorem d_Mo_told_79 : decode b_Mo_told 79 = .ok (.iadd, 1) := by decide +kernel
theorem d_Mo_told_80 : decode b_Mo_told 80 = .ok (.istore_n 2, 1) := by decide +kernel
theorem d_Mo_told_81 : decode b_Mo_told 81 = .ok (.iinc 3 1, 3) := by decide +kernel
theorem d_Mo_told_84 : decode b_Mo_told 84 = .ok (.goto (-25), 3) := by decide +kernel
theorem d_Mo_told_87 : decode b_Mo_told 87 = .ok (.iload_n 1, 1) := by decide +kernel
theorem d_Mo_told_88 : decode b_Mo_told 88 = .ok (.ifCond .ne 10, 3) := by decide +kernel
theorem d_Mo_told_91 : decode b_Mo_told 91 = .ok (.aload_n 0, 1) := by decide +kernel
theorem d_Mo_told_92 : decode b_Mo_told 92 = .ok (.getfield 147, 3) := by decide +kernel
theorem d_Mo_told_95 : decode b_Mo_told 95 = .ok (.goto 45, 3) := by decide +kernel
theorem d_Mo_told_98 : decode b_Mo_told 98 = .ok (.iload_n 1, 1) := by decide +kernel
theorem d_Mo_told_99 : decode b_Mo_told 99 = .ok (.iconst 1, 1) := by decide +kernel
theorem d_Mo_told_100 : decode b_Mo_told 100 = .ok (.if_icmp .ne 27, 3) := by decide +kernel
theorem d_Mo_told_103 : decode b_Mo_told 103 = .ok (.aload_n 0, 1) := by decide +kernel
theorem d_Mo_told_104 : decode b_Mo_told 104 = .ok (.aload_n 0, 1) := by decide +kernel
theorem d_Mo_told_105 : decode b_Mo_told 105 = .ok (.getfield 83, 3) := by decide +kernel
theorem d_Mo_told_108 : decode b_Mo_told 108 = .ok (.aload_n 0, 1) := by decide +kernel
theorem d_Mo_told_109 : decode b_Mo_told 109 = .ok (.getfield 147, 3) := by decide +kernel
theorem d_Mo_told_112 : decode b_Mo_told 112 = .ok (.aload_n 0, 1) := by decide +kernel
theorem d_Mo_told_113 : decode b_Mo_told 113 = .ok (.getfield 70, 3) := by decide +kernel
theorem d_Mo_told_116 : decode b_Mo_told 116 = .ok (.aload_n 0, 1) := by decide +kernel
theorem d_Mo_told_117 : decode b_Mo_told 117 = .ok (.getfield 79, 3) := by decide +kernel
theorem d_Mo_told_120 : decode b_Mo_told 120 = .ok (.iaload, 1) := by decide +kernel
theorem d_Mo_told_121 : decode b_Mo_told 121 = .ok (.invokevirtual 153, 3) := by decide +kernel
theorem d_Mo_told_124 : decode b_Mo_told 124 = .ok (.goto 16, 3) := by decide +kernel
theorem d_Mo_told_127 : decode b_Mo_told 127 = .ok (.iload_n 1, 1) := by decide +kernel
theorem d_Mo_told_128 : decode b_Mo_told 128 = .ok (.iconst 2, 1) := by decide +kernel
theorem d_Mo_told_129 : decode b_Mo_told 129 = .ok (.if_icmp .ne 7, 3) := by decide +kernel
theorem d_Mo_told_132 : decode b_Mo_told 132 = .ok (.iload_n 2, 1) := by decide +kernel
theorem d_Mo_told_133 : decode b_Mo_told 133 = .ok (.goto 7, 3) := by decide +kernel
theorem d_Mo_told_136 : decode b_Mo_told 136 = .ok (.aload_n 0, 1) := by decide +kernel
theorem d_Mo_told_137 : decode b_Mo_told 137 = .ok (.getfield 150, 3) := by decide +kernel
theorem d_Mo_told_140 : decode b_Mo_told 140 = .ok (.ireturn, 1) := by decide +kernel
theorem d_Mo_put_0 : decode b_Mo_put 0 = .ok (.aload_n 0, 1) := by decide +kernel
theorem d_Mo_put_1 : decode b_Mo_put 1 = .ok (.aload_n 0, 1) := by decide +kernel
theorem d_Mo_put_2 : decode b_Mo_put 2 = .ok (.iload_n 1, 1) := by decide +kernel
theorem d_Mo_put_3 : decode b_Mo_put 3 = .ok (.invokevirtual 118, 3) := by decide +kernel
theorem d_Mo_put_6 : decode b_Mo_put 6 = .ok (.ifCond .ne 7, 3) := by decide +kernel
theorem d_Mo_put_9 : decode b_Mo_put 9 = .ok (.iconst 1, 1) := by decide +kernel
theorem d_Mo_put_10 : decode b_Mo_put 10 = .ok (.goto 45, 3) := by decide +kernel
theorem d_Mo_put_13 : decode b_Mo_put 13 = .ok (.aload_n 0, 1) := by decide +kernel
theorem d_Mo_put_14 : decode b_Mo_put 14 = .ok (.getfield 79, 3) := by decide +kernel
theorem d_Mo_put_17 : decode b_Mo_put 17 = .ok (.ifCond .lt 33, 3) := by decide +kernel
theorem d_Mo_put_20 : decode b_Mo_put 20 = .ok (.aload_n 0, 1) := by decide +kernel
theorem d_Mo_put_21 : decode b_Mo_put 21 = .ok (.getfield 147, 3) := by decide +kernel
theorem d_Mo_put_24 : decode b_Mo_put 24 = .ok (.bipush 20, 2) := by decide +kernel
theorem d_Mo_put_26 : decode b_Mo_put 26 = .ok (.if_icmp .eq 24, 3) := by decide +kernel
theorem d_Mo_put_29 : decode b_Mo_put 29 = .ok (.aload_n 0, 1) := by decide +kernel
theorem d_Mo_put_30 : decode b_Mo_put 30 = .ok (.getfield 67, 3) := by decide +kernel
theorem d_Mo_put_33 : decode b_Mo_put 33 = .ok (.aload_n 0, 1) := by decide +kernel
theorem d_Mo_put_34 : decode b_Mo_put 34 = .ok (.getfield 79, 3) := by decide +kernel
theorem d_Mo_put_37 : decode b_Mo_put 37 = .ok (.iaload, 1) := by decide +kernel
theorem d_Mo_put_38 : decode b_Mo_put 38 = .ok (.aload_n 0, 1) := by decide +kernel
theorem d_Mo_put_39 : decode b_Mo_put 39 = .ok (.getfield 40, 3) := by decide +kernel
theorem d_Mo_put_42 : decode b_Mo_put 42 = .ok (.iload_n 1, 1) := by decide +kernel
theorem d_Mo_put_43 : decode b_Mo_put 43 = .ok (.iaload, 1) := by decide +kernel
theorem d_Mo_put_44 : decode b_Mo_put 44 = .ok (.ishr, 1) := by decide +kernel
theorem d_Mo_put_45 : decode b_Mo_put 45 = .ok (.iconst 1, 1) := by decide +kernel
theorem d_Mo_put_46 : decode b_Mo_put 46 = .ok (.iand, 1) := by decide +kernel
theorem d_Mo_put_47 : decode b_Mo_put 47 = .ok (.ifCond .ne 7, 3) := by decide +kernel
theorem d_Mo_put_50 : decode b_Mo_put 50 = .ok (.iconst 2, 1) := by decide +kernel
theorem d_Mo_put_51 : decode b_Mo_put 51 = .ok (.goto 4, 3) := by decide +kernel
theorem d_Mo_put_54 : decode b_Mo_put 54 = .ok (.iconst 0, 1) := by decide +kernel
theorem d_Mo_put_55 : decode b_Mo_put 55 = .ok (.putfield 98, 3) := by decide +kernel
theorem d_Mo_put_58 : decode b_Mo_put 58 = .ok (.iconst 0, 1) := by decide +kernel
theorem d_Mo_put_59 : decode b_Mo_put 59 = .ok (.istore_n 2, 1) := by decide +kernel
theorem d_Mo_put_60 : decode b_Mo_put 60 = .ok (.iload_n 2, 1) := by decide +kernel
theorem d_Mo_put_61 : decode b_Mo_put 61 = .ok (.aload_n 0, 1) := by decide +kernel
theorem d_Mo_put_62 : decode b_Mo_put 62 = .ok (.getfield 147, 3) := by decide +kernel
theorem d_Mo_put_65 : decode b_Mo_put 65 = .ok (.if_icmp .ge 35, 3) := by decide +kernel
theorem d_Mo_put_68 : decode b_Mo_put 68 = .ok (.aload_n 0, 1) := by decide +kernel
theorem d_Mo_put_69 : decode b_Mo_put 69 = .ok (.getfield 98, 3) := by decide +kernel
theorem d_Mo_put_72 : decode b_Mo_put 72 = .ok (.ifCond .ne 28, 3) := by decide +kernel
theorem d_Mo_put_75 : decode b_Mo_put 75 = .ok (.aload_n 0, 1) := by decide +kernel
theorem d_Mo_put_76 : decode b_Mo_put 76 = .ok (.aload_n 0, 1) := by decide +kernel
theorem d_Mo_put_77 : decode b_Mo_put 77 = .ok (.getfield 83, 3) := by decide +kernel
theorem d_Mo_put_80 : decode b_Mo_put 80 = .ok (.iload_n 2, 1) := by decide +kernel
theorem d_Mo_put_81 : decode b_Mo_put 81 = .ok (.iaload, 1) := by decide +kernel
theorem d_Mo_put_82 : decode b_Mo_put 82 = .ok (.iload_n 1, 1) := by decide +kernel
theorem d_Mo_put_83 : decode b_Mo_put 83 = .ok (.if_icmp .ne 7, 3) := by decide +kernel
theorem d_Mo_put_86 : decode b_Mo_put 86 = .ok (.iconst 2, 1) := by decide +kernel
theorem d_Mo_put_87 : decode b_Mo_put 87 = .ok (.goto 4, 3) := by decide +kernel
theorem d_Mo_put_90 : decode b_Mo_put 90 = .ok (.iconst 0, 1) := by decide +kernel
theorem d_Mo_put_91 : decode b_Mo_put 91 = .ok (.putfield 98, 3) := by decide +kernel
theorem d_Mo_put_94 : decode b_Mo_put 94 = .ok (.iinc 2 1, 3) := by decide +kernel
theorem d_Mo_put_97 : decode b_Mo_put 97 = .ok (.goto (-37), 3) := by decide +kernel
theorem d_Mo_put_100 : decode b_Mo_put 100 = .ok (.aload_n 0, 1) := by decide +kernel
theorem d_Mo_put_101 : decode b_Mo_put 101 = .ok (.getfield 98, 3) := by decide +kernel
theorem d_Mo_put_104 : decode b_Mo_put 104 = .ok (.ifCond .le 5, 3) := by decide +kernel
theorem d_Mo_put_107 : decode b_Mo_put 107 = .ok (.iconst 0, 1) := by decide +kernel
theorem d_Mo_put_108 : decode b_Mo_put 108 = .ok (.ireturn, 1) := by decide +kernel
theorem d_Mo_put_109 : decode b_Mo_put 109 = .ok (.iconst (-1), 1) := by decide +kernel
theorem d_Mo_put_110 : decode b_Mo_put 110 = .ok (.istore_n 2, 1) := by decide +kernel
theorem d_Mo_put_111 : decode b_Mo_put 111 = .ok (.iconst 0, 1) := by decide +kernel
theorem d_Mo_put_112 : decode b_Mo_put 112 = .ok (.istore_n 3, 1) := by decide +kernel
theorem d_Mo_put_113 : decode b_Mo_put 113 = .ok (.aload_n 0, 1) := by decide +kernel
theorem d_Mo_put_114 : decode b_Mo_put 114 = .ok (.getfield 150, 3) := by decide +kernel
theorem d_Mo_put_117 : decode b_Mo_put 117 = .ok (.istore 4, 2) := by decide +kernel
theorem d_Mo_put_119 : decode b_Mo_put 119 = .ok (.iload 4, 2) := by decide +kernel
theorem d_Mo_put_121 : decode b_Mo_put 121 = .ok (.aload_n 0, 1) := by decide +kernel
theorem d_Mo_put_122 : decode b_Mo_put 122 = .ok (.getfield 147, 3) := by decide +kernel
theorem d_Mo_put_125 : decode b_Mo_put 125 = .ok (.if_icmp .gt 153, 3) := by decide +kernel
theorem d_Mo_put_128 : decode b_Mo_put 128 = .ok (.iload 4, 2) := by decide +kernel
theorem d_Mo_put_130 : decode b_Mo_put 130 = .ok (.ifCond .ne 15, 3) := by decide +kernel
theorem d_Mo_put_133 : decode b_Mo_put 133 = .ok (.aload_n 0, 1) := by decide +kernel
theorem d_Mo_put_134 : decode b_Mo_put 134 = .ok (.getfield 70, 3) := by decide +kernel
theorem d_Mo_put_137 : decode b_Mo_put 137 = .ok (.aload_n 0, 1) := by decide +kernel
theorem d_Mo_put_138 : decode b_Mo_put 138 = .ok (.getfield 79, 3) := by decide +kernel
theorem d_Mo_put_141 : decode b_Mo_put 141 = .ok (.iaload, 1) := by decide +kernel
theorem d_Mo_put_142 : decode b_Mo_put 142 = .ok (.goto 17, 3) := by decide +kernel
theorem d_Mo_put_145 : decode b_Mo_put 145 = .ok (.aload_n 0, 1) := by decide +kernel
theorem d_Mo_put_146 : decode b_Mo_put 146 = .ok (.getfield 37, 3) := by decide +kernel
theorem d_Mo_put_149 : decode b_Mo_put 149 = .ok (.aload_n 0, 1) := by decide +kernel
theorem d_Mo_put_150 : decode b_Mo_put 150 = .ok (.getfield 83, 3) := by decide +kernel
theorem d_Mo_put_153 : decode b_Mo_put 153 = .ok (.iload 4, 2) := by decide +kernel
theorem d_Mo_put_155 : decode b_Mo_put 155 = .ok (.iconst 1, 1) := by decide +kernel
theorem d_Mo_put_156 : decode b_Mo_put 156 = .ok (.isub, 1) := by decide +kernel
theorem d_Mo_put_157 : decode b_Mo_put 157 = .ok (.iaload, 1) := by decide +kernel
theorem d_Mo_put_158 : decode b_Mo_put 158 = .ok (.iaload, 1) := by decide +kernel
theorem d_Mo_put_159 : decode b_Mo_put 159 = .ok (.istore 5, 2) := by decide +kernel
theorem d_Mo_put_161 : decode b_Mo_put 161 = .ok (.iload 4, 2) := by decide +kernel
theorem d_Mo_put_163 : decode b_Mo_put 163 = .ok (.aload_n 0, 1) := by decide +kernel
theorem d_Mo_put_164 : decode b_Mo_put 164 = .ok (.getfield 147, 3) := by decide +kernel
theorem d_Mo_put_167 : decode b_Mo_put 167 = .ok (.if_icmp .ne 15, 3) := by decide +kernel
theorem d_Mo_put_170 : decode b_Mo_put 170 = .ok (.aload_n 0, 1) := by decide +kernel
theorem d_Mo_put_171 : decode b_Mo_put 171 = .ok (.getfield 70, 3) := by decide +kernel
theorem d_Mo_put_174 : decode b_Mo_put 174 = .ok (.aload_n 0, 1) := by decide +kernel
theorem d_Mo_put_175 : decode b_Mo_put 175 = .ok (.getfield 79, 3) := by decide +kernel
theorem d_Mo_put_178 : decode b_Mo_put 178 = .ok (.iaload, 1) := by decide +kernel
theorem d_Mo_put_179 : decode b_Mo_put 179 = .ok (.goto 15, 3) := by decide +kernel
theorem d_Mo_put_182 : decode b_Mo_put 182 = .ok (.aload_n 0, 1) := by decide +kernel
theorem d_Mo_put_183 : decode b_Mo_put 183 = .ok (.getfield 37, 3) := by decide +kernel
theorem d_Mo_put_186 : decode b_Mo_put 186 = .ok (.aload_n 0, 1) := by decide +kernel
theorem d_Mo_put_187 : decode b_Mo_put 187 = .ok (.getfield 83, 3) := by decide +kernel
theorem d_Mo_put_190 : decode b_Mo_put 190 = .ok (.iload 4, 2) := by decide +kernel
theorem d_Mo_put_192 : decode b_Mo_put 192 = .ok (.iaload, 1) := by decide +kernel
theorem d_Mo_put_193 : decode b_Mo_put 193 = .ok (.iaload, 1) := by decide +kernel
theorem d_Mo_put_194 : decode b_Mo_put 194 = .ok (.istore 6, 2) := by decide +kernel
theorem d_Mo_put_196 : decode b_Mo_put 196 = .ok (.aload_n 0, 1) := by decide +kernel
theorem d_Mo_put_197 : decode b_Mo_put 197 = .ok (.iload 5, 2) := by decide +kernel
theorem d_Mo_put_199 : decode b_Mo_put 199 = .ok (.aload_n 0, 1) := by decide +kernel
theorem d_Mo_put_200 : decode b_Mo_put 200 = .ok (.getfield 37, 3) := by decide +kernel
theorem d_Mo_put_203 : decode b_Mo_put 203 = .ok (.iload_n 1, 1) := by decide +kernel
theorem d_Mo_put_204 : decode b_Mo_put 204 = .ok (.iaload, 1) := by decide +kernel
theorem d_Mo_put_205 : decode b_Mo_put 205 = .ok (.invokevirtual 126, 3) := by decide +kernel
theorem d_Mo_put_208 : decode b_Mo_put 208 = .ok (.istore 7, 2) := by decide +kernel
theorem d_Mo_put_210 : decode b_Mo_put 210 = .ok (.aload_n 0, 1) := by decide +kernel
theorem d_Mo_put_211 : decode b_Mo_put 211 = .ok (.aload_n 0, 1) := by decide +kernel
theorem d_Mo_put_212 : decode b_Mo_put 212 = .ok (.getfield 37, 3) := by decide +kernel
theorem d_Mo_put_215 : decode b_Mo_put 215 = .ok (.iload_n 1, 1) := by decide +kernel
theorem d_Mo_put_216 : decode b_Mo_put 216 = .ok (.iaload, 1) := by decide +kernel
theorem d_Mo_put_217 : decode b_Mo_put 217 = .ok (.iload 6, 2) := by decide +kernel
theorem d_Mo_put_219 : decode b_Mo_put 219 = .ok (.invokevirtual 126, 3) := by decide +kernel
theorem d_Mo_put_222 : decode b_Mo_put 222 = .ok (.istore 8, 2) := by decide +kernel
theorem d_Mo_put_224 : decode b_Mo_put 224 = .ok (.iload 7, 2) := by decide +kernel
theorem d_Mo_put_226 : decode b_Mo_put 226 = .ok (.ifCond .lt 46, 3) := by decide +kernel
theorem d_Mo_put_229 : decode b_Mo_put 229 = .ok (.iload 8, 2) := by decide +kernel
theorem d_Mo_put_231 : decode b_Mo_put 231 = .ok (.ifCond .ge 6, 3) := by decide +kernel
theorem d_Mo_put_234 : decode b_Mo_put 234 = .ok (.goto 38, 3) := by decide +kernel
theorem d_Mo_put_237 : decode b_Mo_put 237 = .ok (.iload 7, 2) := by decide +kernel
theorem d_Mo_put_239 : decode b_Mo_put 239 = .ok (.iload 8, 2) := by decide +kernel
theorem d_Mo_put_241 : decode b_Mo_put 241 = .ok (.iadd, 1) := by decide +kernel
theorem d_Mo_put_242 : decode b_Mo_put 242 = .ok (.aload_n 0, 1) := by decide +kernel
theorem d_Mo_put_243 : decode b_Mo_put 243 = .ok (.iload 5, 2) := by decide +kernel
theorem d_Mo_put_245 : decode b_Mo_put 245 = .ok (.iload 6, 2) := by decide +kernel
theorem d_Mo_put_247 : decode b_Mo_put 247 = .ok (.invokevirtual 126, 3) := by decide +kernel
theorem d_Mo_put_250 : decode b_Mo_put 250 = .ok (.isub, 1) := by decide +kernel
theorem d_Mo_put_251 : decode b_Mo_put 251 = .ok (.istore 9, 2) := by decide +kernel
theorem d_Mo_put_253 : decode b_Mo_put 253 = .ok (.iload_n 2, 1) := by decide +kernel
theorem d_Mo_put_254 : decode b_Mo_put 254 = .ok (.ifCond .lt 12, 3) := by decide +kernel
theorem d_Mo_put_257 : decode b_Mo_put 257 = .ok (.iload 9, 2) := by decide +kernel
theorem d_Mo_put_259 : decode b_Mo_put 259 = .ok (.iload_n 3, 1) := by decide +kernel
theorem d_Mo_put_260 : decode b_Mo_put 260 = .ok (.if_icmp .lt 6, 3) := by decide +kernel
theorem d_Mo_put_263 : decode b_Mo_put 263 = .ok (.goto 9, 3) := by decide +kernel
theorem d_Mo_put_266 : decode b_Mo_put 266 = .ok (.iload 4, 2) := by decide +kernel
theorem d_Mo_put_268 : decode b_Mo_put 268 = .ok (.istore_n 2, 1) := by decide +kernel
theorem d_Mo_put_269 : decode b_Mo_put 269 = .ok (.iload 9, 2) := by decide +kernel
theorem d_Mo_put_271 : decode b_Mo_put 271 = .ok (.istore_n 3, 1) := by decide +kernel
theorem d_Mo_put_272 : decode b_Mo_put 272 = .ok (.iinc 4 1, 3) := by decide +kernel
theorem d_Mo_put_275 : decode b_Mo_put 275 = .ok (.goto (-156), 3) := by decide +kernel
theorem d_Mo_put_278 : decode b_Mo_put 278 = .ok (.iload_n 2, 1) := by decide +kernel
theorem d_Mo_put_279 : decode b_Mo_put 279 = .ok (.ifCond .ge 6, 3) := by decide +kernel
theorem d_Mo_put_282 : decode b_Mo_put 282 = .ok (.bipush (-2), 2) := by decide +kernel
theorem d_Mo_put_284 : decode b_Mo_put 284 = .ok (.ireturn, 1) := by decide +kernel
theorem d_Mo_put_285 : decode b_Mo_put 285 = .ok (.aload_n 0, 1) := by decide +kernel
theorem d_Mo_put_286 : decode b_Mo_put 286 = .ok (.getfield 147, 3) := by decide +kernel
theorem d_Mo_put_289 : decode b_Mo_put 289 = .ok (.istore 4, 2) := by decide +kernel
theorem d_Mo_put_291 : decode b_Mo_put 291 = .ok (.iload 4, 2) := by decide +kernel
theorem d_Mo_put_293 : decode b_Mo_put 293 = .ok (.iload_n 2, 1) := by decide +kernel
theorem d_Mo_put_294 : decode b_Mo_put 294 = .ok (.if_icmp .le 25, 3) := by decide +kernel
theorem d_Mo_put_297 : decode b_Mo_put 297 = .ok (.aload_n 0, 1) := by decide +kernel
theorem d_Mo_put_298 : decode b_Mo_put 298 = .ok (.getfield 83, 3) := by decide +kernel
theorem d_Mo_put_301 : decode b_Mo_put 301 = .ok (.iload 4, 2) := by decide +kernel
theorem d_Mo_put_303 : decode b_Mo_put 303 = .ok (.aload_n 0, 1) := by decide +kernel
theorem d_Mo_put_304 : decode b_Mo_put 304 = .ok (.getfield 83, 3) := by decide +kernel
theorem d_Mo_put_307 : decode b_Mo_put 307 = .ok (.iload 4, 2) := by decide +kernel
theorem d_Mo_put_309 : decode b_Mo_put 309 = .ok (.iconst 1, 1) := by decide +kernel
theorem d_Mo_put_310 : decode b_Mo_put 310 = .ok (.isub, 1) := by decide +kernel
theorem d_Mo_put_311 : decode b_Mo_put 311 = .ok (.iaload, 1) := by decide +kernel
theorem d_Mo_put_312 : decode b_Mo_put 312 = .ok (.iastore, 1) := by decide +kernel
theorem d_Mo_put_313 : decode b_Mo_put 313 = .ok (.iinc 4 (-1), 3) := by decide +kernel
theorem d_Mo_put_316 : decode b_Mo_put 316 = .ok (.goto (-25), 3) := by decide +kernel
theorem d_Mo_put_319 : decode b_Mo_put 319 = .ok (.aload_n 0, 1) := by decide +kernel
theorem d_Mo_put_320 : decode b_Mo_put 320 = .ok (.getfield 83, 3) := by decide +kernel
theorem d_Mo_put_323 : decode b_Mo_put 323 = .ok (.iload_n 2, 1) := by decide +kernel
theorem d_Mo_put_324 : decode b_Mo_put 324 = .ok (.iload_n 1, 1) := by decide +kernel
theorem d_Mo_put_325 : decode b_Mo_put 325 = .ok (.iastore, 1) := by decide +kernel
theorem d_Mo_put_326 : decode b_Mo_put 326 = .ok (.aload_n 0, 1) := by decide +kernel
theorem d_Mo_put_327 : decode b_Mo_put 327 = .ok (.dup, 1) := by decide +kernel
theorem d_Mo_put_328 : decode b_Mo_put 328 = .ok (.getfield 147, 3) := by decide +kernel
theorem d_Mo_put_331 : decode b_Mo_put 331 = .ok (.iconst 1, 1) := by decide +kernel
theorem d_Mo_put_332 : decode b_Mo_put 332 = .ok (.iadd, 1) := by decide +kernel
theorem d_Mo_put_333 : decode b_Mo_put 333 = .ok (.putfield 147, 3) := by decide +kernel
theorem d_Mo_put_336 : decode b_Mo_put 336 = .ok (.iload_n 3, 1) := by decide +kernel
theorem d_Mo_put_337 : decode b_Mo_put 337 = .ok (.ireturn, 1) := by decide +kernel
theorem d_Mo_done_0 : decode b_Mo_done 0 = .ok (.aload_n 0, 1) := by decide +kernel
theorem d_Mo_done_1 : decode b_Mo_done 1 = .ok (.aload_n 0, 1) := by decide +kernel
theorem d_Mo_done_2 : decode b_Mo_done 2 = .ok (.getfield 79, 3) := by decide +kernel
theorem d_Mo_done_5 : decode b_Mo_done 5 = .ok (.ifCond .lt 14, 3) := by decide +kernel
theorem d_Mo_done_8 : decode b_Mo_done 8 = .ok (.aload_n 0, 1) := by decide +kernel
theorem d_Mo_done_9 : decode b_Mo_done 9 = .ok (.getfield 150, 3) := by decide +kernel
theorem d_Mo_done_12 : decode b_Mo_done 12 = .ok (.aload_n 0, 1) := by decide +kernel
theorem d_Mo_done_13 : decode b_Mo_done 13 = .ok (.getfield 147, 3) := by decide +kernel
theorem d_Mo_done_16 : decode b_Mo_done 16 = .ok (.if_icmp .ne 7, 3) := by decide +kernel
theorem d_Mo_done_19 : decode b_Mo_done 19 = .ok (.iconst 1, 1) := by decide +kernel
theorem d_Mo_done_20 : decode b_Mo_done 20 = .ok (.goto 4, 3) := by decide +kernel
theorem d_Mo_done_23 : decode b_Mo_done 23 = .ok (.iconst 0, 1) := by decide +kernel
theorem d_Mo_done_24 : decode b_Mo_done 24 = .ok (.putfield 98, 3) := by decide +kernel
theorem d_Mo_done_27 : decode b_Mo_done 27 = .ok (.aload_n 0, 1) := by decide +kernel
theorem d_Mo_done_28 : decode b_Mo_done 28 = .ok (.getfield 98, 3) := by decide +kernel
theorem d_Mo_done_31 : decode b_Mo_done 31 = .ok (.ifCond .le 5, 3) := by decide +kernel
theorem d_Mo_done_34 : decode b_Mo_done 34 = .ok (.iconst 0, 1) := by decide +kernel
theorem d_Mo_done_35 : decode b_Mo_done 35 = .ok (.ireturn, 1) := by decide +kernel
theorem d_Mo_done_36 : decode b_Mo_done 36 = .ok (.aload_n 0, 1) := by decide +kernel
theorem d_Mo_done_37 : decode b_Mo_done 37 = .ok (.getfield 83, 3) := by decide +kernel
theorem d_Mo_done_40 : decode b_Mo_done 40 = .ok (.aload_n 0, 1) := by decide +kernel
theorem d_Mo_done_41 : decode b_Mo_done 41 = .ok (.getfield 150, 3) := by decide +kernel
theorem d_Mo_done_44 : decode b_Mo_done 44 = .ok (.iaload, 1) := by decide +kernel
theorem d_Mo_done_45 : decode b_Mo_done 45 = .ok (.istore_n 1, 1) := by decide +kernel
theorem d_Mo_done_46 : decode b_Mo_done 46 = .ok (.aload_n 0, 1) := by decide +kernel
theorem d_Mo_done_47 : decode b_Mo_done 47 = .ok (.getfield 76, 3) := by decide +kernel
theorem d_Mo_done_50 : decode b_Mo_done 50 = .ok (.aload_n 0, 1) := by decide +kernel
theorem d_Mo_done_51 : decode b_Mo_done 51 = .ok (.getfield 43, 3) := by decide +kernel
theorem d_Mo_done_54 : decode b_Mo_done 54 = .ok (.iload_n 1, 1) := by decide +kernel
theorem d_Mo_done_55 : decode b_Mo_done 55 = .ok (.iaload, 1) := by decide +kernel
theorem d_Mo_done_56 : decode b_Mo_done 56 = .ok (.iaload, 1) := by decide +kernel
theorem d_Mo_done_57 : decode b_Mo_done 57 = .ok (.ifCond .ne 6, 3) := by decide +kernel
theorem d_Mo_done_60 : decode b_Mo_done 60 = .ok (.bipush (-2), 2) := by decide +kernel
theorem d_Mo_done_62 : decode b_Mo_done 62 = .ok (.ireturn, 1) := by decide +kernel
theorem d_Mo_done_63 : decode b_Mo_done 63 = .ok (.aload_n 0, 1) := by decide +kernel
theorem d_Mo_done_64 : decode b_Mo_done 64 = .ok (.getfield 76, 3) := by decide +kernel
theorem d_Mo_done_67 : decode b_Mo_done 67 = .ok (.aload_n 0, 1) := by decide +kernel
theorem d_Mo_done_68 : decode b_Mo_done 68 = .ok (.getfield 43, 3) := by decide +kernel
theorem d_Mo_done_71 : decode b_Mo_done 71 = .ok (.iload_n 1, 1) := by decide +kernel
theorem d_Mo_done_72 : decode b_Mo_done 72 = .ok (.iaload, 1) := by decide +kernel
theorem d_Mo_done_73 : decode b_Mo_done 73 = .ok (.dup2, 1) := by decide +kernel
theorem d_Mo_done_74 : decode b_Mo_done 74 = .ok (.iaload, 1) := by decide +kernel
theorem d_Mo_done_75 : decode b_Mo_done 75 = .ok (.iconst 1, 1) := by decide +kernel
theorem d_Mo_done_76 : decode b_Mo_done 76 = .ok (.isub, 1) := by decide +kernel
theorem d_Mo_done_77 : decode b_Mo_done 77 = .ok (.iastore, 1) := by decide +kernel
theorem d_Mo_done_78 : decode b_Mo_done 78 = .ok (.aload_n 0, 1) := by decide +kernel
theorem d_Mo_done_79 : decode b_Mo_done 79 = .ok (.dup, 1) := by decide +kernel
theorem d_Mo_done_80 : decode b_Mo_done 80 = .ok (.getfield 150, 3) := by decide +kernel
theorem d_Mo_done_83 : decode b_Mo_done 83 = .ok (.iconst 1, 1) := by decide +kernel
theorem d_Mo_done_84 : decode b_Mo_done 84 = .ok (.iadd, 1) := by decide +kernel
theorem d_Mo_done_85 : decode b_Mo_done 85 = .ok (.putfield 150, 3) := by decide +kernel
theorem d_Mo_done_88 : decode b_Mo_done 88 = .ok (.aload_n 0, 1) := by decide +kernel
theorem d_Mo_done_89 : decode b_Mo_done 89 = .ok (.getfield 55, 3) := by decide +kernel
theorem d_Mo_done_92 : decode b_Mo_done 92 = .ok (.iload_n 1, 1) := by decide +kernel
theorem d_Mo_done_93 : decode b_Mo_done 93 = .ok (.aload_n 0, 1) := by decide +kernel
theorem d_Mo_done_94 : decode b_Mo_done 94 = .ok (.getfield 144, 3) := by decide +kernel
theorem d_Mo_done_97 : decode b_Mo_done 97 = .ok (.iastore, 1) := by decide +kernel
theorem d_Mo_done_98 : decode b_Mo_done 98 = .ok (.aload_n 0, 1) := by decide +kernel
theorem d_Mo_done_99 : decode b_Mo_done 99 = .ok (.getfield 61, 3) := by decide +kernel
theorem d_Mo_done_102 : decode b_Mo_done 102 = .ok (.iload_n 1, 1) := by decide +kernel
theorem d_Mo_done_103 : decode b_Mo_done 103 = .ok (.aload_n 0, 1) := by decide +kernel
theorem d_Mo_done_104 : decode b_Mo_done 104 = .ok (.getfield 144, 3) := by decide +kernel
theorem d_Mo_done_107 : decode b_Mo_done 107 = .ok (.iastore, 1) := by decide +kernel
theorem d_Mo_done_108 : decode b_Mo_done 108 = .ok (.aload_n 0, 1) := by decide +kernel
theorem d_Mo_done_109 : decode b_Mo_done 109 = .ok (.getfield 58, 3) := by decide +kernel
theorem d_Mo_done_112 : decode b_Mo_done 112 = .ok (.iload_n 1, 1) := by decide +kernel
theorem d_Mo_done_113 : decode b_Mo_done 113 = .ok (.iconst 0, 1) := by decide +kernel
theorem d_Mo_done_114 : decode b_Mo_done 114 = .ok (.iastore, 1) := by decide +kernel
theorem d_Mo_done_115 : decode b_Mo_done 115 = .ok (.aload_n 0, 1) := by decide +kernel
theorem d_Mo_done_116 : decode b_Mo_done 116 = .ok (.getfield 64, 3) := by decide +kernel
theorem d_Mo_done_119 : decode b_Mo_done 119 = .ok (.iload_n 1, 1) := by decide +kernel
theorem d_Mo_done_120 : decode b_Mo_done 120 = .ok (.iconst (-1), 1) := by decide +kernel
theorem d_Mo_done_121 : decode b_Mo_done 121 = .ok (.iastore, 1) := by decide +kernel
theorem d_Mo_done_122 : decode b_Mo_done 122 = .ok (.iload_n 1, 1) := by decide +kernel
theorem d_Mo_done_123 : decode b_Mo_done 123 = .ok (.ireturn, 1) := by decide +kernel
theorem d_Mo_due_0 : decode b_Mo_due 0 = .ok (.aload_n 0, 1) := by decide +kernel
theorem d_Mo_due_1 : decode b_Mo_due 1 = .ok (.aload_n 0, 1) := by decide +kernel
theorem d_Mo_due_2 : decode b_Mo_due 2 = .ok (.iload_n 1, 1) := by decide +kernel
theorem d_Mo_due_3 : decode b_Mo_due 3 = .ok (.invokevirtual 118, 3) := by decide +kernel
theorem d_Mo_due_6 : decode b_Mo_due 6 = .ok (.ifCond .eq 7, 3) := by decide +kernel
theorem d_Mo_due_9 : decode b_Mo_due 9 = .ok (.iconst 0, 1) := by decide +kernel
theorem d_Mo_due_10 : decode b_Mo_due 10 = .ok (.goto 4, 3) := by decide +kernel
theorem d_Mo_due_13 : decode b_Mo_due 13 = .ok (.iconst 1, 1) := by decide +kernel
theorem d_Mo_due_14 : decode b_Mo_due 14 = .ok (.putfield 98, 3) := by decide +kernel
theorem d_Mo_due_17 : decode b_Mo_due 17 = .ok (.aload_n 0, 1) := by decide +kernel
theorem d_Mo_due_18 : decode b_Mo_due 18 = .ok (.getfield 98, 3) := by decide +kernel
theorem d_Mo_due_21 : decode b_Mo_due 21 = .ok (.ifCond .le 7, 3) := by decide +kernel
theorem d_Mo_due_24 : decode b_Mo_due 24 = .ok (.iconst 0, 1) := by decide +kernel
theorem d_Mo_due_25 : decode b_Mo_due 25 = .ok (.goto 8, 3) := by decide +kernel
theorem d_Mo_due_28 : decode b_Mo_due 28 = .ok (.aload_n 0, 1) := by decide +kernel
theorem d_Mo_due_29 : decode b_Mo_due 29 = .ok (.iload_n 1, 1) := by decide +kernel
theorem d_Mo_due_30 : decode b_Mo_due 30 = .ok (.invokevirtual 129, 3) := by decide +kernel
theorem d_Mo_due_33 : decode b_Mo_due 33 = .ok (.ireturn, 1) := by decide +kernel
theorem d_Mo_late_0 : decode b_Mo_late 0 = .ok (.aload_n 0, 1) := by decide +kernel
theorem d_Mo_late_1 : decode b_Mo_late 1 = .ok (.iload_n 1, 1) := by decide +kernel
theorem d_Mo_late_2 : decode b_Mo_late 2 = .ok (.ifCond .ge 7, 3) := by decide +kernel
theorem d_Mo_late_5 : decode b_Mo_late 5 = .ok (.iconst 1, 1) := by decide +kernel
theorem d_Mo_late_6 : decode b_Mo_late 6 = .ok (.goto 4, 3) := by decide +kernel
theorem d_Mo_late_9 : decode b_Mo_late 9 = .ok (.iconst 0, 1) := by decide +kernel
theorem d_Mo_late_10 : decode b_Mo_late 10 = .ok (.putfield 98, 3) := by decide +kernel
theorem d_Mo_late_13 : decode b_Mo_late 13 = .ok (.iconst 0, 1) := by decide +kernel
theorem d_Mo_late_14 : decode b_Mo_late 14 = .ok (.istore_n 2, 1) := by decide +kernel
theorem d_Mo_late_15 : decode b_Mo_late 15 = .ok (.iload_n 2, 1) := by decide +kernel
theorem d_Mo_late_16 : decode b_Mo_late 16 = .ok (.aload_n 0, 1) := by decide +kernel
theorem d_Mo_late_17 : decode b_Mo_late 17 = .ok (.getfield 111, 3) := by decide +kernel
theorem d_Mo_late_20 : decode b_Mo_late 20 = .ok (.if_icmp .ge 67, 3) := by decide +kernel
theorem d_Mo_late_23 : decode b_Mo_late 23 = .ok (.aload_n 0, 1) := by decide +kernel
theorem d_Mo_late_24 : decode b_Mo_late 24 = .ok (.getfield 98, 3) := by decide +kernel
theorem d_Mo_late_27 : decode b_Mo_late 27 = .ok (.ifCond .ne 60, 3) := by decide +kernel
theorem d_Mo_late_30 : decode b_Mo_late 30 = .ok (.iconst 0, 1) := by decide +kernel
theorem d_Mo_late_31 : decode b_Mo_late 31 = .ok (.istore_n 3, 1) := by decide +kernel
theorem d_Mo_late_32 : decode b_Mo_late 32 = .ok (.iconst 0, 1) := by decide +kernel
theorem d_Mo_late_33 : decode b_Mo_late 33 = .ok (.istore 4, 2) := by decide +kernel
theorem d_Mo_late_35 : decode b_Mo_late 35 = .ok (.iload 4, 2) := by decide +kernel
theorem d_Mo_late_37 : decode b_Mo_late 37 = .ok (.aload_n 0, 1) := by decide +kernel
theorem d_Mo_late_38 : decode b_Mo_late 38 = .ok (.getfield 111, 3) := by decide +kernel
theorem d_Mo_late_41 : decode b_Mo_late 41 = .ok (.if_icmp .ge 33, 3) := by decide +kernel
theorem d_Mo_late_44 : decode b_Mo_late 44 = .ok (.iload_n 3, 1) := by decide +kernel
theorem d_Mo_late_45 : decode b_Mo_late 45 = .ok (.iload 4, 2) := by decide +kernel
theorem d_Mo_late_47 : decode b_Mo_late 47 = .ok (.iload_n 2, 1) := by decide +kernel
theorem d_Mo_late_48 : decode b_Mo_late 48 = .ok (.if_icmp .eq 17, 3) := by decide +kernel
theorem d_Mo_late_51 : decode b_Mo_late 51 = .ok (.aload_n 0, 1) := by decide +kernel
theorem d_Mo_late_52 : decode b_Mo_late 52 = .ok (.iload 4, 2) := by decide +kernel
theorem d_Mo_late_54 : decode b_Mo_late 54 = .ok (.iload_n 2, 1) := by decide +kernel
theorem d_Mo_late_55 : decode b_Mo_late 55 = .ok (.invokevirtual 137, 3) := by decide +kernel
theorem d_Mo_late_58 : decode b_Mo_late 58 = .ok (.ifCond .eq 7, 3) := by decide +kernel
theorem d_Mo_late_61 : decode b_Mo_late 61 = .ok (.iconst 1, 1) := by decide +kernel
theorem d_Mo_late_62 : decode b_Mo_late 62 = .ok (.goto 4, 3) := by decide +kernel
theorem d_Mo_late_65 : decode b_Mo_late 65 = .ok (.iconst 0, 1) := by decide +kernel
theorem d_Mo_late_66 : decode b_Mo_late 66 = .ok (.iadd, 1) := by decide +kernel
theorem d_Mo_late_67 : decode b_Mo_late 67 = .ok (.istore_n 3, 1) := by decide +kernel
theorem d_Mo_late_68 : decode b_Mo_late 68 = .ok (.iinc 4 1, 3) := by decide +kernel
theorem d_Mo_late_71 : decode b_Mo_late 71 = .ok (.goto (-36), 3) := by decide +kernel
theorem d_Mo_late_74 : decode b_Mo_late 74 = .ok (.iload_n 3, 1) := by decide +kernel
theorem d_Mo_late_75 : decode b_Mo_late 75 = .ok (.iload_n 1, 1) := by decide +kernel
theorem d_Mo_late_76 : decode b_Mo_late 76 = .ok (.if_icmp .ne 5, 3) := by decide +kernel
theorem d_Mo_late_79 : decode b_Mo_late 79 = .ok (.iload_n 2, 1) := by decide +kernel
theorem d_Mo_late_80 : decode b_Mo_late 80 = .ok (.ireturn, 1) := by decide +kernel
theorem d_Mo_late_81 : decode b_Mo_late 81 = .ok (.iinc 2 1, 3) := by decide +kernel
theorem d_Mo_late_84 : decode b_Mo_late 84 = .ok (.goto (-69), 3) := by decide +kernel
theorem d_Mo_late_87 : decode b_Mo_late 87 = .ok (.aload_n 0, 1) := by decide +kernel
theorem d_Mo_late_88 : decode b_Mo_late 88 = .ok (.getfield 98, 3) := by decide +kernel
theorem d_Mo_late_91 : decode b_Mo_late 91 = .ok (.ifCond .le 7, 3) := by decide +kernel
theorem d_Mo_late_94 : decode b_Mo_late 94 = .ok (.iconst 0, 1) := by decide +kernel
theorem d_Mo_late_95 : decode b_Mo_late 95 = .ok (.goto 4, 3) := by decide +kernel
theorem d_Mo_late_98 : decode b_Mo_late 98 = .ok (.iconst (-1), 1) := by decide +kernel
theorem d_Mo_late_99 : decode b_Mo_late 99 = .ok (.ireturn, 1) := by decide +kernel
theorem d_Mo_fine_0 : decode b_Mo_fine 0 = .ok (.aload_n 0, 1) := by decide +kernel
theorem d_Mo_fine_1 : decode b_Mo_fine 1 = .ok (.aload_n 0, 1) := by decide +kernel
theorem d_Mo_fine_2 : decode b_Mo_fine 2 = .ok (.iload_n 1, 1) := by decide +kernel
theorem d_Mo_fine_3 : decode b_Mo_fine 3 = .ok (.invokevirtual 118, 3) := by decide +kernel
theorem d_Mo_fine_6 : decode b_Mo_fine 6 = .ok (.ifCond .eq 13, 3) := by decide +kernel
theorem d_Mo_fine_9 : decode b_Mo_fine 9 = .ok (.iload_n 2, 1) := by decide +kernel
theorem d_Mo_fine_10 : decode b_Mo_fine 10 = .ok (.iconst 0, 1) := by decide +kernel
theorem d_Mo_fine_11 : decode b_Mo_fine 11 = .ok (.ldc 114, 2) := by decide +kernel
theorem d_Mo_fine_13 : decode b_Mo_fine 13 = .ok (.invokestatic 101, 3) := by decide +kernel
theorem d_Mo_fine_16 : decode b_Mo_fine 16 = .ok (.ifCond .ne 7, 3) := by decide +kernel
theorem d_Mo_fine_19 : decode b_Mo_fine 19 = .ok (.iconst 1, 1) := by decide +kernel
theorem d_Mo_fine_20 : decode b_Mo_fine 20 = .ok (.goto 4, 3) := by decide +kernel
theorem d_Mo_fine_23 : decode b_Mo_fine 23 = .ok (.iconst 0, 1) := by decide +kernel
theorem d_Mo_fine_24 : decode b_Mo_fine 24 = .ok (.putfield 98, 3) := by decide +kernel
theorem d_Mo_fine_27 : decode b_Mo_fine 27 = .ok (.aload_n 0, 1) := by decide +kernel
theorem d_Mo_fine_28 : decode b_Mo_fine 28 = .ok (.getfield 98, 3) := by decide +kernel
theorem d_Mo_fine_31 : decode b_Mo_fine 31 = .ok (.ifCond .le 5, 3) := by decide +kernel
theorem d_Mo_fine_34 : decode b_Mo_fine 34 = .ok (.iconst 0, 1) := by decide +kernel
theorem d_Mo_fine_35 : decode b_Mo_fine 35 = .ok (.ireturn, 1) := by decide +kernel
theorem d_Mo_fine_36 : decode b_Mo_fine 36 = .ok (.iload_n 2, 1) := by decide +kernel
theorem d_Mo_fine_37 : decode b_Mo_fine 37 = .ok (.aload_n 0, 1) := by decide +kernel
theorem d_Mo_fine_38 : decode b_Mo_fine 38 = .ok (.iload_n 1, 1) := by decide +kernel
theorem d_Mo_fine_39 : decode b_Mo_fine 39 = .ok (.invokevirtual 129, 3) := by decide +kernel
theorem d_Mo_fine_42 : decode b_Mo_fine 42 = .ok (.isub, 1) := by decide +kernel
theorem d_Mo_fine_43 : decode b_Mo_fine 43 = .ok (.istore_n 3, 1) := by decide +kernel
theorem d_Mo_fine_44 : decode b_Mo_fine 44 = .ok (.iload_n 3, 1) := by decide +kernel
theorem d_Mo_fine_45 : decode b_Mo_fine 45 = .ok (.ifCond .gt 5, 3) := by decide +kernel
theorem d_Mo_fine_48 : decode b_Mo_fine 48 = .ok (.iconst 0, 1) := by decide +kernel
theorem d_Mo_fine_49 : decode b_Mo_fine 49 = .ok (.ireturn, 1) := by decide +kernel
theorem d_Mo_fine_50 : decode b_Mo_fine 50 = .ok (.iload_n 3, 1) := by decide +kernel
theorem d_Mo_fine_51 : decode b_Mo_fine 51 = .ok (.bipush 10, 2) := by decide +kernel
theorem d_Mo_fine_53 : decode b_Mo_fine 53 = .ok (.if_icmp .ge 8, 3) := by decide +kernel
theorem d_Mo_fine_56 : decode b_Mo_fine 56 = .ok (.iload_n 3, 1) := by decide +kernel
theorem d_Mo_fine_57 : decode b_Mo_fine 57 = .ok (.i2l, 1) := by decide +kernel
theorem d_Mo_fine_58 : decode b_Mo_fine 58 = .ok (.goto 6, 3) := by decide +kernel
theorem d_Mo_fine_61 : decode b_Mo_fine 61 = .ok (.ldc2_w 160, 3) := by decide +kernel
theorem d_Mo_fine_64 : decode b_Mo_fine 64 = .ok (.lstore 4, 2) := by decide +kernel
theorem d_Mo_fine_66 : decode b_Mo_fine 66 = .ok (.iload_n 3, 1) := by decide +kernel
theorem d_Mo_fine_67 : decode b_Mo_fine 67 = .ok (.bipush 11, 2) := by decide +kernel
theorem d_Mo_fine_69 : decode b_Mo_fine 69 = .ok (.if_icmp .ge 7, 3) := by decide +kernel
theorem d_Mo_fine_72 : decode b_Mo_fine 72 = .ok (.lconst 0, 1) := by decide +kernel
theorem d_Mo_fine_73 : decode b_Mo_fine 73 = .ok (.goto 20, 3) := by decide +kernel
theorem d_Mo_fine_76 : decode b_Mo_fine 76 = .ok (.iload_n 3, 1) := by decide +kernel
theorem d_Mo_fine_77 : decode b_Mo_fine 77 = .ok (.bipush 30, 2) := by decide +kernel
theorem d_Mo_fine_79 : decode b_Mo_fine 79 = .ok (.if_icmp .ge 11, 3) := by decide +kernel
theorem d_Mo_fine_82 : decode b_Mo_fine 82 = .ok (.iload_n 3, 1) := by decide +kernel
theorem d_Mo_fine_83 : decode b_Mo_fine 83 = .ok (.bipush 10, 2) := by decide +kernel
theorem d_Mo_fine_85 : decode b_Mo_fine 85 = .ok (.isub, 1) := by decide +kernel
theorem d_Mo_fine_86 : decode b_Mo_fine 86 = .ok (.i2l, 1) := by decide +kernel
theorem d_Mo_fine_87 : decode b_Mo_fine 87 = .ok (.goto 6, 3) := by decide +kernel
theorem d_Mo_fine_90 : decode b_Mo_fine 90 = .ok (.ldc2_w 162, 3) := by decide +kernel
theorem d_Mo_fine_93 : decode b_Mo_fine 93 = .ok (.lstore 6, 2) := by decide +kernel
theorem d_Mo_fine_95 : decode b_Mo_fine 95 = .ok (.iload_n 3, 1) := by decide +kernel
theorem d_Mo_fine_96 : decode b_Mo_fine 96 = .ok (.bipush 31, 2) := by decide +kernel
theorem d_Mo_fine_98 : decode b_Mo_fine 98 = .ok (.if_icmp .ge 7, 3) := by decide +kernel
theorem d_Mo_fine_101 : decode b_Mo_fine 101 = .ok (.lconst 0, 1) := by decide +kernel
theorem d_Mo_fine_102 : decode b_Mo_fine 102 = .ok (.goto 8, 3) := by decide +kernel
theorem d_Mo_fine_105 : decode b_Mo_fine 105 = .ok (.iload_n 3, 1) := by decide +kernel
theorem d_Mo_fine_106 : decode b_Mo_fine 106 = .ok (.bipush 30, 2) := by decide +kernel
theorem d_Mo_fine_108 : decode b_Mo_fine 108 = .ok (.isub, 1) := by decide +kernel
theorem d_Mo_fine_109 : decode b_Mo_fine 109 = .ok (.i2l, 1) := by decide +kernel
theorem d_Mo_fine_110 : decode b_Mo_fine 110 = .ok (.lstore 8, 2) := by decide +kernel
theorem d_Mo_fine_112 : decode b_Mo_fine 112 = .ok (.aload_n 0, 1) := by decide +kernel
theorem d_Mo_fine_113 : decode b_Mo_fine 113 = .ok (.getfield 95, 3) := by decide +kernel
theorem d_Mo_fine_116 : decode b_Mo_fine 116 = .ok (.i2l, 1) := by decide +kernel
theorem d_Mo_fine_117 : decode b_Mo_fine 117 = .ok (.lload 4, 2) := by decide +kernel
theorem d_Mo_fine_119 : decode b_Mo_fine 119 = .ok (.ldc2_w 164, 3) := by decide +kernel
theorem d_Mo_fine_122 : decode b_Mo_fine 122 = .ok (.lload 6, 2) := by decide +kernel
theorem d_Mo_fine_124 : decode b_Mo_fine 124 = .ok (.lmul, 1) := by decide +kernel
theorem d_Mo_fine_125 : decode b_Mo_fine 125 = .ok (.ladd, 1) := by decide +kernel
theorem d_Mo_fine_126 : decode b_Mo_fine 126 = .ok (.ldc2_w 166, 3) := by decide +kernel
theorem d_Mo_fine_129 : decode b_Mo_fine 129 = .ok (.lload 8, 2) := by decide +kernel
theorem d_Mo_fine_131 : decode b_Mo_fine 131 = .ok (.lmul, 1) := by decide +kernel
theorem d_Mo_fine_132 : decode b_Mo_fine 132 = .ok (.ladd, 1) := by decide +kernel
theorem d_Mo_fine_133 : decode b_Mo_fine 133 = .ok (.lmul, 1) := by decide +kernel
theorem d_Mo_fine_134 : decode b_Mo_fine 134 = .ok (.lstore 10, 2) := by decide +kernel
theorem d_Mo_fine_136 : decode b_Mo_fine 136 = .ok (.lload 10, 2) := by decide +kernel
theorem d_Mo_fine_138 : decode b_Mo_fine 138 = .ok (.ldc2_w 168, 3) := by decide +kernel
theorem d_Mo_fine_141 : decode b_Mo_fine 141 = .ok (.lcmp, 1) := by decide +kernel
theorem d_Mo_fine_142 : decode b_Mo_fine 142 = .ok (.ifCond .le 8, 3) := by decide +kernel
theorem d_Mo_fine_145 : decode b_Mo_fine 145 = .ok (.ldc 170, 2) := by decide +kernel
theorem d_Mo_fine_147 : decode b_Mo_fine 147 = .ok (.goto 6, 3) := by decide +kernel
theorem d_Mo_fine_150 : decode b_Mo_fine 150 = .ok (.lload 10, 2) := by decide +kernel
theorem d_Mo_fine_152 : decode b_Mo_fine 152 = .ok (.l2i, 1) := by decide +kernel
theorem d_Mo_fine_153 : decode b_Mo_fine 153 = .ok (.ireturn, 1) := by decide +kernel
theorem d_Mo_wanted_0 : decode b_Mo_wanted 0 = .ok (.aload_n 0, 1) := by decide +kernel
theorem d_Mo_wanted_1 : decode b_Mo_wanted 1 = .ok (.iload_n 1, 1) := by decide +kernel
theorem d_Mo_wanted_2 : decode b_Mo_wanted 2 = .ok (.iconst 0, 1) := by decide +kernel
theorem d_Mo_wanted_3 : decode b_Mo_wanted 3 = .ok (.iconst 4, 1) := by decide +kernel
theorem d_Mo_wanted_4 : decode b_Mo_wanted 4 = .ok (.invokestatic 101, 3) := by decide +kernel
theorem d_Mo_wanted_7 : decode b_Mo_wanted 7 = .ok (.ifCond .eq 13, 3) := by decide +kernel
theorem d_Mo_wanted_10 : decode b_Mo_wanted 10 = .ok (.iload_n 2, 1) := by decide +kernel
theorem d_Mo_wanted_11 : decode b_Mo_wanted 11 = .ok (.iconst 0, 1) := by decide +kernel
theorem d_Mo_wanted_12 : decode b_Mo_wanted 12 = .ok (.ldc 114, 2) := by decide +kernel
theorem d_Mo_wanted_14 : decode b_Mo_wanted 14 = .ok (.invokestatic 101, 3) := by decide +kernel
theorem d_Mo_wanted_17 : decode b_Mo_wanted 17 = .ok (.ifCond .ne 7, 3) := by decide +kernel
theorem d_Mo_wanted_20 : decode b_Mo_wanted 20 = .ok (.iconst 1, 1) := by decide +kernel
theorem d_Mo_wanted_21 : decode b_Mo_wanted 21 = .ok (.goto 4, 3) := by decide +kernel
theorem d_Mo_wanted_24 : decode b_Mo_wanted 24 = .ok (.iconst 0, 1) := by decide +kernel
theorem d_Mo_wanted_25 : decode b_Mo_wanted 25 = .ok (.putfield 98, 3) := by decide +kernel
theorem d_Mo_wanted_28 : decode b_Mo_wanted 28 = .ok (.aload_n 0, 1) := by decide +kernel
theorem d_Mo_wanted_29 : decode b_Mo_wanted 29 = .ok (.getfield 98, 3) := by decide +kernel
theorem d_Mo_wanted_32 : decode b_Mo_wanted 32 = .ok (.ifCond .le 5, 3) := by decide +kernel
theorem d_Mo_wanted_35 : decode b_Mo_wanted 35 = .ok (.iconst 0, 1) := by decide +kernel
theorem d_Mo_wanted_36 : decode b_Mo_wanted 36 = .ok (.ireturn, 1) := by decide +kernel
theorem d_Mo_wanted_37 : decode b_Mo_wanted 37 = .ok (.iconst 0, 1) := by decide +kernel
theorem d_Mo_wanted_38 : decode b_Mo_wanted 38 = .ok (.istore_n 3, 1) := by decide +kernel
theorem d_Mo_wanted_39 : decode b_Mo_wanted 39 = .ok (.iconst 0, 1) := by decide +kernel
theorem d_Mo_wanted_40 : decode b_Mo_wanted 40 = .ok (.istore 4, 2) := by decide +kernel
theorem d_Mo_wanted_42 : decode b_Mo_wanted 42 = .ok (.iload 4, 2) := by decide +kernel
theorem d_Mo_wanted_44 : decode b_Mo_wanted 44 = .ok (.aload_n 0, 1) := by decide +kernel
theorem d_Mo_wanted_45 : decode b_Mo_wanted 45 = .ok (.getfield 111, 3) := by decide +kernel
theorem d_Mo_wanted_48 : decode b_Mo_wanted 48 = .ok (.if_icmp .ge 38, 3) := by decide +kernel
theorem d_Mo_wanted_51 : decode b_Mo_wanted 51 = .ok (.iload_n 3, 1) := by decide +kernel
theorem d_Mo_wanted_52 : decode b_Mo_wanted 52 = .ok (.aload_n 0, 1) := by decide +kernel
theorem d_Mo_wanted_53 : decode b_Mo_wanted 53 = .ok (.getfield 43, 3) := by decide +kernel
theorem d_Mo_wanted_56 : decode b_Mo_wanted 56 = .ok (.iload 4, 2) := by decide +kernel
theorem d_Mo_wanted_58 : decode b_Mo_wanted 58 = .ok (.iaload, 1) := by decide +kernel
theorem d_Mo_wanted_59 : decode b_Mo_wanted 59 = .ok (.iload_n 1, 1) := by decide +kernel
theorem d_Mo_wanted_60 : decode b_Mo_wanted 60 = .ok (.if_icmp .ne 17, 3) := by decide +kernel
theorem d_Mo_wanted_63 : decode b_Mo_wanted 63 = .ok (.aload_n 0, 1) := by decide +kernel
theorem d_Mo_wanted_64 : decode b_Mo_wanted 64 = .ok (.iload 4, 2) := by decide +kernel
theorem d_Mo_wanted_66 : decode b_Mo_wanted 66 = .ok (.invokevirtual 129, 3) := by decide +kernel
theorem d_Mo_wanted_69 : decode b_Mo_wanted 69 = .ok (.iload_n 2, 1) := by decide +kernel
theorem d_Mo_wanted_70 : decode b_Mo_wanted 70 = .ok (.if_icmp .gt 7, 3) := by decide +kernel
theorem d_Mo_wanted_73 : decode b_Mo_wanted 73 = .ok (.iconst 1, 1) := by decide +kernel
theorem d_Mo_wanted_74 : decode b_Mo_wanted 74 = .ok (.goto 4, 3) := by decide +kernel
theorem d_Mo_wanted_77 : decode b_Mo_wanted 77 = .ok (.iconst 0, 1) := by decide +kernel
theorem d_Mo_wanted_78 : decode b_Mo_wanted 78 = .ok (.iadd, 1) := by decide +kernel
theorem d_Mo_wanted_79 : decode b_Mo_wanted 79 = .ok (.istore_n 3, 1) := by decide +kernel
theorem d_Mo_wanted_80 : decode b_Mo_wanted 80 = .ok (.iinc 4 1, 3) := by decide +kernel
theorem d_Mo_wanted_83 : decode b_Mo_wanted 83 = .ok (.goto (-41), 3) := by decide +kernel
theorem d_Mo_wanted_86 : decode b_Mo_wanted 86 = .ok (.iload_n 3, 1) := by decide +kernel
theorem d_Mo_wanted_87 : decode b_Mo_wanted 87 = .ok (.aload_n 0, 1) := by decide +kernel
theorem d_Mo_wanted_88 : decode b_Mo_wanted 88 = .ok (.getfield 76, 3) := by decide +kernel
theorem d_Mo_wanted_91 : decode b_Mo_wanted 91 = .ok (.iload_n 1, 1) := by decide +kernel
theorem d_Mo_wanted_92 : decode b_Mo_wanted 92 = .ok (.iaload, 1) := by decide +kernel
theorem d_Mo_wanted_93 : decode b_Mo_wanted 93 = .ok (.if_icmp .le 14, 3) := by decide +kernel
theorem d_Mo_wanted_96 : decode b_Mo_wanted 96 = .ok (.iload_n 3, 1) := by decide +kernel
theorem d_Mo_wanted_97 : decode b_Mo_wanted 97 = .ok (.aload_n 0, 1) := by decide +kernel
theorem d_Mo_wanted_98 : decode b_Mo_wanted 98 = .ok (.getfield 76, 3) := by decide +kernel
theorem d_Mo_wanted_101 : decode b_Mo_wanted 101 = .ok (.iload_n 1, 1) := by decide +kernel
theorem d_Mo_wanted_102 : decode b_Mo_wanted 102 = .ok (.iaload, 1) := by decide +kernel
theorem d_Mo_wanted_103 : decode b_Mo_wanted 103 = .ok (.isub, 1) := by decide +kernel
theorem d_Mo_wanted_104 : decode b_Mo_wanted 104 = .ok (.goto 4, 3) := by decide +kernel
theorem d_Mo_wanted_107 : decode b_Mo_wanted 107 = .ok (.iconst 0, 1) := by decide +kernel
theorem d_Mo_wanted_108 : decode b_Mo_wanted 108 = .ok (.ireturn, 1) := by decide +kernel
