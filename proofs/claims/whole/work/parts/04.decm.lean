theorem dX12_init_0 : decode cX12_init 0 = .ok (.aload_n 0, 1) := by decide +kernel
theorem dX12_init_1 : decode cX12_init 1 = .ok (.invokespecial 1, 3) := by decide +kernel
theorem dX12_init_4 : decode cX12_init 4 = .ok (.aload_n 0, 1) := by decide +kernel
theorem dX12_init_5 : decode cX12_init 5 = .ok (.iconst 4, 1) := by decide +kernel
theorem dX12_init_6 : decode cX12_init 6 = .ok (.putfield 7, 3) := by decide +kernel
theorem dX12_init_9 : decode cX12_init 9 = .ok (.aload_n 0, 1) := by decide +kernel
theorem dX12_init_10 : decode cX12_init 10 = .ok (.bipush 64, 2) := by decide +kernel
theorem dX12_init_12 : decode cX12_init 12 = .ok (.newarray .boolean, 2) := by decide +kernel
theorem dX12_init_14 : decode cX12_init 14 = .ok (.putfield 13, 3) := by decide +kernel
theorem dX12_init_17 : decode cX12_init 17 = .ok (.aload_n 0, 1) := by decide +kernel
theorem dX12_init_18 : decode cX12_init 18 = .ok (.bipush 64, 2) := by decide +kernel
theorem dX12_init_20 : decode cX12_init 20 = .ok (.newarray .int, 2) := by decide +kernel
theorem dX12_init_22 : decode cX12_init 22 = .ok (.putfield 17, 3) := by decide +kernel
theorem dX12_init_25 : decode cX12_init 25 = .ok (.aload_n 0, 1) := by decide +kernel
theorem dX12_init_26 : decode cX12_init 26 = .ok (.sipush 320, 3) := by decide +kernel
theorem dX12_init_29 : decode cX12_init 29 = .ok (.newarray .int, 2) := by decide +kernel
theorem dX12_init_31 : decode cX12_init 31 = .ok (.putfield 21, 3) := by decide +kernel
theorem dX12_init_34 : decode cX12_init 34 = .ok (.aload_n 0, 1) := by decide +kernel
theorem dX12_init_35 : decode cX12_init 35 = .ok (.bipush 40, 2) := by decide +kernel
theorem dX12_init_37 : decode cX12_init 37 = .ok (.newarray .int, 2) := by decide +kernel
theorem dX12_init_39 : decode cX12_init 39 = .ok (.putfield 24, 3) := by decide +kernel
theorem dX12_init_42 : decode cX12_init 42 = .ok (.aload_n 0, 1) := by decide +kernel
theorem dX12_init_43 : decode cX12_init 43 = .ok (.ldc 27, 2) := by decide +kernel
theorem dX12_init_45 : decode cX12_init 45 = .ok (.newarray .int, 2) := by decide +kernel
theorem dX12_init_47 : decode cX12_init 47 = .ok (.putfield 28, 3) := by decide +kernel
theorem dX12_init_50 : decode cX12_init 50 = .ok (.aload_n 0, 1) := by decide +kernel
theorem dX12_init_51 : decode cX12_init 51 = .ok (.bipush 10, 2) := by decide +kernel
theorem dX12_init_53 : decode cX12_init 53 = .ok (.newarray .int, 2) := by decide +kernel
theorem dX12_init_55 : decode cX12_init 55 = .ok (.putfield 31, 3) := by decide +kernel
theorem dX12_init_58 : decode cX12_init 58 = .ok (.aload_n 0, 1) := by decide +kernel
theorem dX12_init_59 : decode cX12_init 59 = .ok (.bipush 10, 2) := by decide +kernel
theorem dX12_init_61 : decode cX12_init 61 = .ok (.newarray .int, 2) := by decide +kernel
theorem dX12_init_63 : decode cX12_init 63 = .ok (.putfield 34, 3) := by decide +kernel
theorem dX12_init_66 : decode cX12_init 66 = .ok (.aload_n 0, 1) := by decide +kernel
theorem dX12_init_67 : decode cX12_init 67 = .ok (.bipush 10, 2) := by decide +kernel
theorem dX12_init_69 : decode cX12_init 69 = .ok (.newarray .int, 2) := by decide +kernel
theorem dX12_init_71 : decode cX12_init 71 = .ok (.putfield 37, 3) := by decide +kernel
theorem dX12_init_74 : decode cX12_init 74 = .ok (.aload_n 0, 1) := by decide +kernel
theorem dX12_init_75 : decode cX12_init 75 = .ok (.bipush 10, 2) := by decide +kernel
theorem dX12_init_77 : decode cX12_init 77 = .ok (.newarray .int, 2) := by decide +kernel
theorem dX12_init_79 : decode cX12_init 79 = .ok (.putfield 40, 3) := by decide +kernel
theorem dX12_init_82 : decode cX12_init 82 = .ok (.aload_n 0, 1) := by decide +kernel
theorem dX12_init_83 : decode cX12_init 83 = .ok (.bipush 10, 2) := by decide +kernel
theorem dX12_init_85 : decode cX12_init 85 = .ok (.newarray .boolean, 2) := by decide +kernel
theorem dX12_init_87 : decode cX12_init 87 = .ok (.putfield 43, 3) := by decide +kernel
theorem dX12_init_90 : decode cX12_init 90 = .ok (.aload_n 0, 1) := by decide +kernel
theorem dX12_init_91 : decode cX12_init 91 = .ok (.sipush 540, 3) := by decide +kernel
theorem dX12_init_94 : decode cX12_init 94 = .ok (.newarray .int, 2) := by decide +kernel
theorem dX12_init_96 : decode cX12_init 96 = .ok (.putfield 46, 3) := by decide +kernel
theorem dX12_init_99 : decode cX12_init 99 = .ok (.aload_n 0, 1) := by decide +kernel
theorem dX12_init_100 : decode cX12_init 100 = .ok (.bipush 8, 2) := by decide +kernel
theorem dX12_init_102 : decode cX12_init 102 = .ok (.newarray .int, 2) := by decide +kernel
theorem dX12_init_104 : decode cX12_init 104 = .ok (.putfield 49, 3) := by decide +kernel
theorem dX12_init_107 : decode cX12_init 107 = .ok (.aload_n 0, 1) := by decide +kernel
theorem dX12_init_108 : decode cX12_init 108 = .ok (.bipush 8, 2) := by decide +kernel
theorem dX12_init_110 : decode cX12_init 110 = .ok (.newarray .int, 2) := by decide +kernel
theorem dX12_init_112 : decode cX12_init 112 = .ok (.putfield 52, 3) := by decide +kernel
theorem dX12_init_115 : decode cX12_init 115 = .ok (.aload_n 0, 1) := by decide +kernel
theorem dX12_init_116 : decode cX12_init 116 = .ok (.sipush 480, 3) := by decide +kernel
theorem dX12_init_119 : decode cX12_init 119 = .ok (.newarray .int, 2) := by decide +kernel
theorem dX12_init_121 : decode cX12_init 121 = .ok (.putfield 55, 3) := by decide +kernel
theorem dX12_init_124 : decode cX12_init 124 = .ok (.aload_n 0, 1) := by decide +kernel
theorem dX12_init_125 : decode cX12_init 125 = .ok (.bipush 64, 2) := by decide +kernel
theorem dX12_init_127 : decode cX12_init 127 = .ok (.newarray .boolean, 2) := by decide +kernel
theorem dX12_init_129 : decode cX12_init 129 = .ok (.putfield 58, 3) := by decide +kernel
theorem dX12_init_132 : decode cX12_init 132 = .ok (.aload_n 0, 1) := by decide +kernel
theorem dX12_init_133 : decode cX12_init 133 = .ok (.sipush 360, 3) := by decide +kernel
theorem dX12_init_136 : decode cX12_init 136 = .ok (.newarray .int, 2) := by decide +kernel
theorem dX12_init_138 : decode cX12_init 138 = .ok (.putfield 61, 3) := by decide +kernel
theorem dX12_init_141 : decode cX12_init 141 = .ok (.aload_n 0, 1) := by decide +kernel
theorem dX12_init_142 : decode cX12_init 142 = .ok (.bipush 10, 2) := by decide +kernel
theorem dX12_init_144 : decode cX12_init 144 = .ok (.putfield 64, 3) := by decide +kernel
theorem dX12_init_147 : decode cX12_init 147 = .ok (.aload_n 0, 1) := by decide +kernel
theorem dX12_init_148 : decode cX12_init 148 = .ok (.bipush 50, 2) := by decide +kernel
theorem dX12_init_150 : decode cX12_init 150 = .ok (.putfield 67, 3) := by decide +kernel
theorem dX12_init_153 : decode cX12_init 153 = .ok (.aload_n 0, 1) := by decide +kernel
theorem dX12_init_154 : decode cX12_init 154 = .ok (.bipush 8, 2) := by decide +kernel
theorem dX12_init_156 : decode cX12_init 156 = .ok (.newarray .int, 2) := by decide +kernel
theorem dX12_init_158 : decode cX12_init 158 = .ok (.putfield 70, 3) := by decide +kernel
theorem dX12_init_161 : decode cX12_init 161 = .ok (.aload_n 0, 1) := by decide +kernel
theorem dX12_init_162 : decode cX12_init 162 = .ok (.bipush 6, 2) := by decide +kernel
theorem dX12_init_164 : decode cX12_init 164 = .ok (.newarray .int, 2) := by decide +kernel
theorem dX12_init_166 : decode cX12_init 166 = .ok (.putfield 73, 3) := by decide +kernel
theorem dX12_init_169 : decode cX12_init 169 = .ok (.aload_n 0, 1) := by decide +kernel
theorem dX12_init_170 : decode cX12_init 170 = .ok (.bipush 8, 2) := by decide +kernel
theorem dX12_init_172 : decode cX12_init 172 = .ok (.newarray .int, 2) := by decide +kernel
theorem dX12_init_174 : decode cX12_init 174 = .ok (.putfield 76, 3) := by decide +kernel
theorem dX12_init_177 : decode cX12_init 177 = .ok (.aload_n 0, 1) := by decide +kernel
theorem dX12_init_178 : decode cX12_init 178 = .ok (.bipush 40, 2) := by decide +kernel
theorem dX12_init_180 : decode cX12_init 180 = .ok (.newarray .int, 2) := by decide +kernel
theorem dX12_init_182 : decode cX12_init 182 = .ok (.putfield 79, 3) := by decide +kernel
theorem dX12_init_185 : decode cX12_init 185 = .ok (.aload_n 0, 1) := by decide +kernel
theorem dX12_init_186 : decode cX12_init 186 = .ok (.bipush 40, 2) := by decide +kernel
theorem dX12_init_188 : decode cX12_init 188 = .ok (.newarray .int, 2) := by decide +kernel
theorem dX12_init_190 : decode cX12_init 190 = .ok (.putfield 82, 3) := by decide +kernel
theorem dX12_init_193 : decode cX12_init 193 = .ok (.aload_n 0, 1) := by decide +kernel
theorem dX12_init_194 : decode cX12_init 194 = .ok (.bipush 40, 2) := by decide +kernel
theorem dX12_init_196 : decode cX12_init 196 = .ok (.newarray .int, 2) := by decide +kernel
theorem dX12_init_198 : decode cX12_init 198 = .ok (.putfield 85, 3) := by decide +kernel
theorem dX12_init_201 : decode cX12_init 201 = .ok (.aload_n 0, 1) := by decide +kernel
theorem dX12_init_202 : decode cX12_init 202 = .ok (.bipush 40, 2) := by decide +kernel
theorem dX12_init_204 : decode cX12_init 204 = .ok (.newarray .boolean, 2) := by decide +kernel
theorem dX12_init_206 : decode cX12_init 206 = .ok (.putfield 88, 3) := by decide +kernel
theorem dX12_init_209 : decode cX12_init 209 = .ok (.aload_n 0, 1) := by decide +kernel
theorem dX12_init_210 : decode cX12_init 210 = .ok (.bipush 40, 2) := by decide +kernel
theorem dX12_init_212 : decode cX12_init 212 = .ok (.newarray .int, 2) := by decide +kernel
theorem dX12_init_214 : decode cX12_init 214 = .ok (.putfield 91, 3) := by decide +kernel
theorem dX12_init_217 : decode cX12_init 217 = .ok (.aload_n 0, 1) := by decide +kernel
theorem dX12_init_218 : decode cX12_init 218 = .ok (.bipush 10, 2) := by decide +kernel
theorem dX12_init_220 : decode cX12_init 220 = .ok (.newarray .int, 2) := by decide +kernel
theorem dX12_init_222 : decode cX12_init 222 = .ok (.putfield 94, 3) := by decide +kernel
theorem dX12_init_225 : decode cX12_init 225 = .ok (.aload_n 0, 1) := by decide +kernel
theorem dX12_init_226 : decode cX12_init 226 = .ok (.bipush 40, 2) := by decide +kernel
theorem dX12_init_228 : decode cX12_init 228 = .ok (.newarray .int, 2) := by decide +kernel
theorem dX12_init_230 : decode cX12_init 230 = .ok (.putfield 97, 3) := by decide +kernel
theorem dX12_init_233 : decode cX12_init 233 = .ok (.return_, 1) := by decide +kernel
theorem dX12_in_0 : decode cX12_in 0 = .ok (.lload_n 0, 1) := by decide +kernel
theorem dX12_in_1 : decode cX12_in 1 = .ok (.lload_n 2, 1) := by decide +kernel
theorem dX12_in_2 : decode cX12_in 2 = .ok (.lcmp, 1) := by decide +kernel
theorem dX12_in_3 : decode cX12_in 3 = .ok (.ifCond .lt 14, 3) := by decide +kernel
theorem dX12_in_6 : decode cX12_in 6 = .ok (.lload_n 0, 1) := by decide +kernel
theorem dX12_in_7 : decode cX12_in 7 = .ok (.lload 4, 2) := by decide +kernel
theorem dX12_in_9 : decode cX12_in 9 = .ok (.lcmp, 1) := by decide +kernel
theorem dX12_in_10 : decode cX12_in 10 = .ok (.ifCond .gt 7, 3) := by decide +kernel
theorem dX12_in_13 : decode cX12_in 13 = .ok (.iconst 1, 1) := by decide +kernel
theorem dX12_in_14 : decode cX12_in 14 = .ok (.goto 4, 3) := by decide +kernel
theorem dX12_in_17 : decode cX12_in 17 = .ok (.iconst 0, 1) := by decide +kernel
theorem dX12_in_18 : decode cX12_in 18 = .ok (.ireturn, 1) := by decide +kernel
theorem dX12_noStreet_0 : decode cX12_noStreet 0 = .ok (.iload_n 1, 1) := by decide +kernel
theorem dX12_noStreet_1 : decode cX12_noStreet 1 = .ok (.i2l, 1) := by decide +kernel
theorem dX12_noStreet_2 : decode cX12_noStreet 2 = .ok (.lconst 0, 1) := by decide +kernel
theorem dX12_noStreet_3 : decode cX12_noStreet 3 = .ok (.aload_n 0, 1) := by decide +kernel
theorem dX12_noStreet_4 : decode cX12_noStreet 4 = .ok (.getfield 7, 3) := by decide +kernel
theorem dX12_noStreet_7 : decode cX12_noStreet 7 = .ok (.iconst 1, 1) := by decide +kernel
theorem dX12_noStreet_8 : decode cX12_noStreet 8 = .ok (.isub, 1) := by decide +kernel
theorem dX12_noStreet_9 : decode cX12_noStreet 9 = .ok (.i2l, 1) := by decide +kernel
theorem dX12_noStreet_10 : decode cX12_noStreet 10 = .ok (.invokestatic 103, 3) := by decide +kernel
theorem dX12_noStreet_13 : decode cX12_noStreet 13 = .ok (.ifCond .ne 7, 3) := by decide +kernel
theorem dX12_noStreet_16 : decode cX12_noStreet 16 = .ok (.iconst 1, 1) := by decide +kernel
theorem dX12_noStreet_17 : decode cX12_noStreet 17 = .ok (.goto 4, 3) := by decide +kernel
theorem dX12_noStreet_20 : decode cX12_noStreet 20 = .ok (.iconst 0, 1) := by decide +kernel
theorem dX12_noStreet_21 : decode cX12_noStreet 21 = .ok (.ireturn, 1) := by decide +kernel
theorem dX12_noMan_0 : decode cX12_noMan 0 = .ok (.iload_n 1, 1) := by decide +kernel
theorem dX12_noMan_1 : decode cX12_noMan 1 = .ok (.i2l, 1) := by decide +kernel
theorem dX12_noMan_2 : decode cX12_noMan 2 = .ok (.lconst 0, 1) := by decide +kernel
theorem dX12_noMan_3 : decode cX12_noMan 3 = .ok (.aload_n 0, 1) := by decide +kernel
theorem dX12_noMan_4 : decode cX12_noMan 4 = .ok (.getfield 107, 3) := by decide +kernel
theorem dX12_noMan_7 : decode cX12_noMan 7 = .ok (.iconst 1, 1) := by decide +kernel
theorem dX12_noMan_8 : decode cX12_noMan 8 = .ok (.isub, 1) := by decide +kernel
theorem dX12_noMan_9 : decode cX12_noMan 9 = .ok (.i2l, 1) := by decide +kernel
theorem dX12_noMan_10 : decode cX12_noMan 10 = .ok (.invokestatic 103, 3) := by decide +kernel
theorem dX12_noMan_13 : decode cX12_noMan 13 = .ok (.ifCond .ne 7, 3) := by decide +kernel
theorem dX12_noMan_16 : decode cX12_noMan 16 = .ok (.iconst 1, 1) := by decide +kernel
theorem dX12_noMan_17 : decode cX12_noMan 17 = .ok (.goto 4, 3) := by decide +kernel
theorem dX12_noMan_20 : decode cX12_noMan 20 = .ok (.iconst 0, 1) := by decide +kernel
theorem dX12_noMan_21 : decode cX12_noMan 21 = .ok (.ireturn, 1) := by decide +kernel
theorem dX12_noShip_0 : decode cX12_noShip 0 = .ok (.iload_n 1, 1) := by decide +kernel
theorem dX12_noShip_1 : decode cX12_noShip 1 = .ok (.i2l, 1) := by decide +kernel
theorem dX12_noShip_2 : decode cX12_noShip 2 = .ok (.lconst 0, 1) := by decide +kernel
theorem dX12_noShip_3 : decode cX12_noShip 3 = .ok (.aload_n 0, 1) := by decide +kernel
theorem dX12_noShip_4 : decode cX12_noShip 4 = .ok (.getfield 110, 3) := by decide +kernel
theorem dX12_noShip_7 : decode cX12_noShip 7 = .ok (.iconst 1, 1) := by decide +kernel
theorem dX12_noShip_8 : decode cX12_noShip 8 = .ok (.isub, 1) := by decide +kernel
theorem dX12_noShip_9 : decode cX12_noShip 9 = .ok (.i2l, 1) := by decide +kernel
theorem dX12_noShip_10 : decode cX12_noShip 10 = .ok (.invokestatic 103, 3) := by decide +kernel
theorem dX12_noShip_13 : decode cX12_noShip 13 = .ok (.ifCond .ne 7, 3) := by decide +kernel
theorem dX12_noShip_16 : decode cX12_noShip 16 = .ok (.iconst 1, 1) := by decide +kernel
theorem dX12_noShip_17 : decode cX12_noShip 17 = .ok (.goto 4, 3) := by decide +kernel
theorem dX12_noShip_20 : decode cX12_noShip 20 = .ok (.iconst 0, 1) := by decide +kernel
theorem dX12_noShip_21 : decode cX12_noShip 21 = .ok (.ireturn, 1) := by decide +kernel
theorem dX12_noPaper_0 : decode cX12_noPaper 0 = .ok (.iload_n 1, 1) := by decide +kernel
theorem dX12_noPaper_1 : decode cX12_noPaper 1 = .ok (.i2l, 1) := by decide +kernel
theorem dX12_noPaper_2 : decode cX12_noPaper 2 = .ok (.lconst 0, 1) := by decide +kernel
theorem dX12_noPaper_3 : decode cX12_noPaper 3 = .ok (.aload_n 0, 1) := by decide +kernel
theorem dX12_noPaper_4 : decode cX12_noPaper 4 = .ok (.getfield 113, 3) := by decide +kernel
theorem dX12_noPaper_7 : decode cX12_noPaper 7 = .ok (.iconst 1, 1) := by decide +kernel
theorem dX12_noPaper_8 : decode cX12_noPaper 8 = .ok (.isub, 1) := by decide +kernel
theorem dX12_noPaper_9 : decode cX12_noPaper 9 = .ok (.i2l, 1) := by decide +kernel
theorem dX12_noPaper_10 : decode cX12_noPaper 10 = .ok (.invokestatic 103, 3) := by decide +kernel
theorem dX12_noPaper_13 : decode cX12_noPaper 13 = .ok (.ifCond .ne 7, 3) := by decide +kernel
theorem dX12_noPaper_16 : decode cX12_noPaper 16 = .ok (.iconst 1, 1) := by decide +kernel
theorem dX12_noPaper_17 : decode cX12_noPaper 17 = .ok (.goto 4, 3) := by decide +kernel
theorem dX12_noPaper_20 : decode cX12_noPaper 20 = .ok (.iconst 0, 1) := by decide +kernel
theorem dX12_noPaper_21 : decode cX12_noPaper 21 = .ok (.ireturn, 1) := by decide +kernel
theorem dX12_noTide_0 : decode cX12_noTide 0 = .ok (.iload_n 0, 1) := by decide +kernel
theorem dX12_noTide_1 : decode cX12_noTide 1 = .ok (.i2l, 1) := by decide +kernel
theorem dX12_noTide_2 : decode cX12_noTide 2 = .ok (.lconst 0, 1) := by decide +kernel
theorem dX12_noTide_3 : decode cX12_noTide 3 = .ok (.ldc2_w 116, 3) := by decide +kernel
theorem dX12_noTide_6 : decode cX12_noTide 6 = .ok (.invokestatic 103, 3) := by decide +kernel
theorem dX12_noTide_9 : decode cX12_noTide 9 = .ok (.ifCond .ne 7, 3) := by decide +kernel
theorem dX12_noTide_12 : decode cX12_noTide 12 = .ok (.iconst 1, 1) := by decide +kernel
theorem dX12_noTide_13 : decode cX12_noTide 13 = .ok (.goto 4, 3) := by decide +kernel
theorem dX12_noTide_16 : decode cX12_noTide 16 = .ok (.iconst 0, 1) := by decide +kernel
theorem dX12_noTide_17 : decode cX12_noTide 17 = .ok (.ireturn, 1) := by decide +kernel
theorem dX12_streets_0 : decode cX12_streets 0 = .ok (.aload_n 0, 1) := by decide +kernel
theorem dX12_streets_1 : decode cX12_streets 1 = .ok (.iconst 0, 1) := by decide +kernel
theorem dX12_streets_2 : decode cX12_streets 2 = .ok (.putfield 100, 3) := by decide +kernel
theorem dX12_streets_5 : decode cX12_streets 5 = .ok (.iload_n 1, 1) := by decide +kernel
theorem dX12_streets_6 : decode cX12_streets 6 = .ok (.i2l, 1) := by decide +kernel
theorem dX12_streets_7 : decode cX12_streets 7 = .ok (.lconst 1, 1) := by decide +kernel
theorem dX12_streets_8 : decode cX12_streets 8 = .ok (.ldc2_w 118, 3) := by decide +kernel
theorem dX12_streets_11 : decode cX12_streets 11 = .ok (.invokestatic 103, 3) := by decide +kernel
theorem dX12_streets_14 : decode cX12_streets 14 = .ok (.ifCond .ne 6, 3) := by decide +kernel
theorem dX12_streets_17 : decode cX12_streets 17 = .ok (.bipush (-2), 2) := by decide +kernel
theorem dX12_streets_19 : decode cX12_streets 19 = .ok (.ireturn, 1) := by decide +kernel
theorem dX12_streets_20 : decode cX12_streets 20 = .ok (.aload_n 0, 1) := by decide +kernel
theorem dX12_streets_21 : decode cX12_streets 21 = .ok (.getfield 107, 3) := by decide +kernel
theorem dX12_streets_24 : decode cX12_streets 24 = .ok (.ifCond .le 6, 3) := by decide +kernel
theorem dX12_streets_27 : decode cX12_streets 27 = .ok (.bipush (-3), 2) := by decide +kernel
theorem dX12_streets_29 : decode cX12_streets 29 = .ok (.ireturn, 1) := by decide +kernel
theorem dX12_streets_30 : decode cX12_streets 30 = .ok (.aload_n 0, 1) := by decide +kernel
theorem dX12_streets_31 : decode cX12_streets 31 = .ok (.getfield 7, 3) := by decide +kernel
theorem dX12_streets_34 : decode cX12_streets 34 = .ok (.istore_n 2, 1) := by decide +kernel
theorem dX12_streets_35 : decode cX12_streets 35 = .ok (.aload_n 0, 1) := by decide +kernel
theorem dX12_streets_36 : decode cX12_streets 36 = .ok (.iload_n 1, 1) := by decide +kernel
theorem dX12_streets_37 : decode cX12_streets 37 = .ok (.putfield 7, 3) := by decide +kernel
theorem dX12_streets_40 : decode cX12_streets 40 = .ok (.iconst 0, 1) := by decide +kernel
theorem dX12_streets_41 : decode cX12_streets 41 = .ok (.istore_n 3, 1) := by decide +kernel
theorem dX12_streets_42 : decode cX12_streets 42 = .ok (.iload_n 3, 1) := by decide +kernel
theorem dX12_streets_43 : decode cX12_streets 43 = .ok (.bipush 8, 2) := by decide +kernel
theorem dX12_streets_45 : decode cX12_streets 45 = .ok (.if_icmp .ge 68, 3) := by decide +kernel
theorem dX12_streets_48 : decode cX12_streets 48 = .ok (.iconst 0, 1) := by decide +kernel
theorem dX12_streets_49 : decode cX12_streets 49 = .ok (.istore 4, 2) := by decide +kernel
theorem dX12_streets_51 : decode cX12_streets 51 = .ok (.iload 4, 2) := by decide +kernel
theorem dX12_streets_53 : decode cX12_streets 53 = .ok (.bipush 8, 2) := by decide +kernel
theorem dX12_streets_55 : decode cX12_streets 55 = .ok (.if_icmp .ge 52, 3) := by decide +kernel
theorem dX12_streets_58 : decode cX12_streets 58 = .ok (.aload_n 0, 1) := by decide +kernel
theorem dX12_streets_59 : decode cX12_streets 59 = .ok (.getfield 13, 3) := by decide +kernel
theorem dX12_streets_62 : decode cX12_streets 62 = .ok (.bipush 8, 2) := by decide +kernel
theorem dX12_streets_64 : decode cX12_streets 64 = .ok (.iload_n 3, 1) := by decide +kernel
theorem dX12_streets_65 : decode cX12_streets 65 = .ok (.imul, 1) := by decide +kernel
theorem dX12_streets_66 : decode cX12_streets 66 = .ok (.iload 4, 2) := by decide +kernel
theorem dX12_streets_68 : decode cX12_streets 68 = .ok (.iadd, 1) := by decide +kernel
theorem dX12_streets_69 : decode cX12_streets 69 = .ok (.aload_n 0, 1) := by decide +kernel
theorem dX12_streets_70 : decode cX12_streets 70 = .ok (.getfield 13, 3) := by decide +kernel
theorem dX12_streets_73 : decode cX12_streets 73 = .ok (.bipush 8, 2) := by decide +kernel
theorem dX12_streets_75 : decode cX12_streets 75 = .ok (.iload_n 3, 1) := by decide +kernel
theorem dX12_streets_76 : decode cX12_streets 76 = .ok (.imul, 1) := by decide +kernel
theorem dX12_streets_77 : decode cX12_streets 77 = .ok (.iload 4, 2) := by decide +kernel
theorem dX12_streets_79 : decode cX12_streets 79 = .ok (.iadd, 1) := by decide +kernel
theorem dX12_streets_80 : decode cX12_streets 80 = .ok (.baload, 1) := by decide +kernel
theorem dX12_streets_81 : decode cX12_streets 81 = .ok (.ifCond .eq 18, 3) := by decide +kernel
theorem dX12_streets_84 : decode cX12_streets 84 = .ok (.iload_n 3, 1) := by decide +kernel
theorem dX12_streets_85 : decode cX12_streets 85 = .ok (.iload_n 1, 1) := by decide +kernel
theorem dX12_streets_86 : decode cX12_streets 86 = .ok (.if_icmp .ge 13, 3) := by decide +kernel
theorem dX12_streets_89 : decode cX12_streets 89 = .ok (.iload 4, 2) := by decide +kernel
theorem dX12_streets_91 : decode cX12_streets 91 = .ok (.iload_n 1, 1) := by decide +kernel
theorem dX12_streets_92 : decode cX12_streets 92 = .ok (.if_icmp .ge 7, 3) := by decide +kernel
theorem dX12_streets_95 : decode cX12_streets 95 = .ok (.iconst 1, 1) := by decide +kernel
theorem dX12_streets_96 : decode cX12_streets 96 = .ok (.goto 4, 3) := by decide +kernel
theorem dX12_streets_99 : decode cX12_streets 99 = .ok (.iconst 0, 1) := by decide +kernel
theorem dX12_streets_100 : decode cX12_streets 100 = .ok (.bastore, 1) := by decide +kernel
theorem dX12_streets_101 : decode cX12_streets 101 = .ok (.iinc 4 1, 3) := by decide +kernel
theorem dX12_streets_104 : decode cX12_streets 104 = .ok (.goto (-53), 3) := by decide +kernel
theorem dX12_streets_107 : decode cX12_streets 107 = .ok (.iinc 3 1, 3) := by decide +kernel
theorem dX12_streets_110 : decode cX12_streets 110 = .ok (.goto (-68), 3) := by decide +kernel
theorem dX12_streets_113 : decode cX12_streets 113 = .ok (.iload_n 2, 1) := by decide +kernel
theorem dX12_streets_114 : decode cX12_streets 114 = .ok (.ireturn, 1) := by decide +kernel
theorem dX12_way_0 : decode cX12_way 0 = .ok (.aload_n 0, 1) := by decide +kernel
theorem dX12_way_1 : decode cX12_way 1 = .ok (.iconst 0, 1) := by decide +kernel
theorem dX12_way_2 : decode cX12_way 2 = .ok (.putfield 100, 3) := by decide +kernel
theorem dX12_way_5 : decode cX12_way 5 = .ok (.aload_n 0, 1) := by decide +kernel
theorem dX12_way_6 : decode cX12_way 6 = .ok (.iload_n 1, 1) := by decide +kernel
theorem dX12_way_7 : decode cX12_way 7 = .ok (.invokevirtual 120, 3) := by decide +kernel
theorem dX12_way_10 : decode cX12_way 10 = .ok (.ifCond .ne 11, 3) := by decide +kernel
theorem dX12_way_13 : decode cX12_way 13 = .ok (.aload_n 0, 1) := by decide +kernel
theorem dX12_way_14 : decode cX12_way 14 = .ok (.iload_n 2, 1) := by decide +kernel
theorem dX12_way_15 : decode cX12_way 15 = .ok (.invokevirtual 120, 3) := by decide +kernel
theorem dX12_way_18 : decode cX12_way 18 = .ok (.ifCond .eq 5, 3) := by decide +kernel
theorem dX12_way_21 : decode cX12_way 21 = .ok (.iconst (-1), 1) := by decide +kernel
theorem dX12_way_22 : decode cX12_way 22 = .ok (.ireturn, 1) := by decide +kernel
theorem dX12_way_23 : decode cX12_way 23 = .ok (.iload_n 1, 1) := by decide +kernel
theorem dX12_way_24 : decode cX12_way 24 = .ok (.iload_n 2, 1) := by decide +kernel
theorem dX12_way_25 : decode cX12_way 25 = .ok (.if_icmp .ne 6, 3) := by decide +kernel
theorem dX12_way_28 : decode cX12_way 28 = .ok (.bipush (-2), 2) := by decide +kernel
theorem dX12_way_30 : decode cX12_way 30 = .ok (.ireturn, 1) := by decide +kernel
theorem dX12_way_31 : decode cX12_way 31 = .ok (.aload_n 0, 1) := by decide +kernel
theorem dX12_way_32 : decode cX12_way 32 = .ok (.getfield 13, 3) := by decide +kernel
theorem dX12_way_35 : decode cX12_way 35 = .ok (.bipush 8, 2) := by decide +kernel
theorem dX12_way_37 : decode cX12_way 37 = .ok (.iload_n 1, 1) := by decide +kernel
theorem dX12_way_38 : decode cX12_way 38 = .ok (.imul, 1) := by decide +kernel
theorem dX12_way_39 : decode cX12_way 39 = .ok (.iload_n 2, 1) := by decide +kernel
theorem dX12_way_40 : decode cX12_way 40 = .ok (.iadd, 1) := by decide +kernel
theorem dX12_way_41 : decode cX12_way 41 = .ok (.baload, 1) := by decide +kernel
theorem dX12_way_42 : decode cX12_way 42 = .ok (.ifCond .eq 7, 3) := by decide +kernel
theorem dX12_way_45 : decode cX12_way 45 = .ok (.iconst 1, 1) := by decide +kernel
theorem dX12_way_46 : decode cX12_way 46 = .ok (.goto 4, 3) := by decide +kernel
theorem dX12_way_49 : decode cX12_way 49 = .ok (.iconst 0, 1) := by decide +kernel
theorem dX12_way_50 : decode cX12_way 50 = .ok (.istore 4, 2) := by decide +kernel
theorem dX12_way_52 : decode cX12_way 52 = .ok (.aload_n 0, 1) := by decide +kernel
theorem dX12_way_53 : decode cX12_way 53 = .ok (.getfield 13, 3) := by decide +kernel
theorem dX12_way_56 : decode cX12_way 56 = .ok (.bipush 8, 2) := by decide +kernel
theorem dX12_way_58 : decode cX12_way 58 = .ok (.iload_n 1, 1) := by decide +kernel
theorem dX12_way_59 : decode cX12_way 59 = .ok (.imul, 1) := by decide +kernel
theorem dX12_way_60 : decode cX12_way 60 = .ok (.iload_n 2, 1) := by decide +kernel
theorem dX12_way_61 : decode cX12_way 61 = .ok (.iadd, 1) := by decide +kernel
theorem dX12_way_62 : decode cX12_way 62 = .ok (.iload_n 3, 1) := by decide +kernel
theorem dX12_way_63 : decode cX12_way 63 = .ok (.bastore, 1) := by decide +kernel
theorem dX12_way_64 : decode cX12_way 64 = .ok (.aload_n 0, 1) := by decide +kernel
theorem dX12_way_65 : decode cX12_way 65 = .ok (.getfield 13, 3) := by decide +kernel
theorem dX12_way_68 : decode cX12_way 68 = .ok (.bipush 8, 2) := by decide +kernel
theorem dX12_way_70 : decode cX12_way 70 = .ok (.iload_n 2, 1) := by decide +kernel
theorem dX12_way_71 : decode cX12_way 71 = .ok (.imul, 1) := by decide +kernel
theorem dX12_way_72 : decode cX12_way 72 = .ok (.iload_n 1, 1) := by decide +kernel
theorem dX12_way_73 : decode cX12_way 73 = .ok (.iadd, 1) := by decide +kernel
theorem dX12_way_74 : decode cX12_way 74 = .ok (.iload_n 3, 1) := by decide +kernel
theorem dX12_way_75 : decode cX12_way 75 = .ok (.bastore, 1) := by decide +kernel
theorem dX12_way_76 : decode cX12_way 76 = .ok (.iload 4, 2) := by decide +kernel
theorem dX12_way_78 : decode cX12_way 78 = .ok (.ireturn, 1) := by decide +kernel
theorem dX12_measure_0 : decode cX12_measure 0 = .ok (.iconst 0, 1) := by decide +kernel
theorem dX12_measure_1 : decode cX12_measure 1 = .ok (.istore_n 1, 1) := by decide +kernel
theorem dX12_measure_2 : decode cX12_measure 2 = .ok (.iload_n 1, 1) := by decide +kernel
theorem dX12_measure_3 : decode cX12_measure 3 = .ok (.bipush 64, 2) := by decide +kernel
theorem dX12_measure_5 : decode cX12_measure 5 = .ok (.if_icmp .ge 45, 3) := by decide +kernel
theorem dX12_measure_8 : decode cX12_measure 8 = .ok (.aload_n 0, 1) := by decide +kernel
theorem dX12_measure_9 : decode cX12_measure 9 = .ok (.getfield 17, 3) := by decide +kernel
theorem dX12_measure_12 : decode cX12_measure 12 = .ok (.iload_n 1, 1) := by decide +kernel
theorem dX12_measure_13 : decode cX12_measure 13 = .ok (.iload_n 1, 1) := by decide +kernel
theorem dX12_measure_14 : decode cX12_measure 14 = .ok (.bipush 8, 2) := by decide +kernel
theorem dX12_measure_16 : decode cX12_measure 16 = .ok (.idiv, 1) := by decide +kernel
theorem dX12_measure_17 : decode cX12_measure 17 = .ok (.iload_n 1, 1) := by decide +kernel
theorem dX12_measure_18 : decode cX12_measure 18 = .ok (.bipush 8, 2) := by decide +kernel
theorem dX12_measure_20 : decode cX12_measure 20 = .ok (.irem, 1) := by decide +kernel
theorem dX12_measure_21 : decode cX12_measure 21 = .ok (.if_icmp .ne 7, 3) := by decide +kernel
theorem dX12_measure_24 : decode cX12_measure 24 = .ok (.iconst 0, 1) := by decide +kernel
theorem dX12_measure_25 : decode cX12_measure 25 = .ok (.goto 18, 3) := by decide +kernel
theorem dX12_measure_28 : decode cX12_measure 28 = .ok (.aload_n 0, 1) := by decide +kernel
theorem dX12_measure_29 : decode cX12_measure 29 = .ok (.getfield 13, 3) := by decide +kernel
theorem dX12_measure_32 : decode cX12_measure 32 = .ok (.iload_n 1, 1) := by decide +kernel
theorem dX12_measure_33 : decode cX12_measure 33 = .ok (.baload, 1) := by decide +kernel
theorem dX12_measure_34 : decode cX12_measure 34 = .ok (.ifCond .eq 7, 3) := by decide +kernel
theorem dX12_measure_37 : decode cX12_measure 37 = .ok (.iconst 1, 1) := by decide +kernel
theorem dX12_measure_38 : decode cX12_measure 38 = .ok (.goto 5, 3) := by decide +kernel
theorem dX12_measure_41 : decode cX12_measure 41 = .ok (.bipush 100, 2) := by decide +kernel
theorem dX12_measure_43 : decode cX12_measure 43 = .ok (.iastore, 1) := by decide +kernel
theorem dX12_measure_44 : decode cX12_measure 44 = .ok (.iinc 1 1, 3) := by decide +kernel
theorem dX12_measure_47 : decode cX12_measure 47 = .ok (.goto (-45), 3) := by decide +kernel
theorem dX12_measure_50 : decode cX12_measure 50 = .ok (.iconst 0, 1) := by decide +kernel
theorem dX12_measure_51 : decode cX12_measure 51 = .ok (.istore_n 1, 1) := by decide +kernel
theorem dX12_measure_52 : decode cX12_measure 52 = .ok (.iload_n 1, 1) := by decide +kernel
theorem dX12_measure_53 : decode cX12_measure 53 = .ok (.bipush 8, 2) := by decide +kernel
theorem dX12_measure_55 : decode cX12_measure 55 = .ok (.if_icmp .ge 105, 3) := by decide +kernel
theorem dX12_measure_58 : decode cX12_measure 58 = .ok (.iconst 0, 1) := by decide +kernel
theorem dX12_measure_59 : decode cX12_measure 59 = .ok (.istore_n 2, 1) := by decide +kernel
theorem dX12_measure_60 : decode cX12_measure 60 = .ok (.iload_n 2, 1) := by decide +kernel
theorem dX12_measure_61 : decode cX12_measure 61 = .ok (.bipush 8, 2) := by decide +kernel
theorem dX12_measure_63 : decode cX12_measure 63 = .ok (.if_icmp .ge 91, 3) := by decide +kernel
theorem dX12_measure_66 : decode cX12_measure 66 = .ok (.iconst 0, 1) := by decide +kernel
theorem dX12_measure_67 : decode cX12_measure 67 = .ok (.istore_n 3, 1) := by decide +kernel
theorem dX12_measure_68 : decode cX12_measure 68 = .ok (.iload_n 3, 1) := by decide +kernel
theorem dX12_measure_69 : decode cX12_measure 69 = .ok (.bipush 8, 2) := by decide +kernel
theorem dX12_measure_71 : decode cX12_measure 71 = .ok (.if_icmp .ge 77, 3) := by decide +kernel
theorem dX12_measure_74 : decode cX12_measure 74 = .ok (.aload_n 0, 1) := by decide +kernel
theorem dX12_measure_75 : decode cX12_measure 75 = .ok (.getfield 17, 3) := by decide +kernel
theorem dX12_measure_78 : decode cX12_measure 78 = .ok (.bipush 8, 2) := by decide +kernel
theorem dX12_measure_80 : decode cX12_measure 80 = .ok (.iload_n 2, 1) := by decide +kernel
theorem dX12_measure_81 : decode cX12_measure 81 = .ok (.imul, 1) := by decide +kernel
theorem dX12_measure_82 : decode cX12_measure 82 = .ok (.iload_n 1, 1) := by decide +kernel
theorem dX12_measure_83 : decode cX12_measure 83 = .ok (.iadd, 1) := by decide +kernel
theorem dX12_measure_84 : decode cX12_measure 84 = .ok (.iaload, 1) := by decide +kernel
theorem dX12_measure_85 : decode cX12_measure 85 = .ok (.aload_n 0, 1) := by decide +kernel
theorem dX12_measure_86 : decode cX12_measure 86 = .ok (.getfield 17, 3) := by decide +kernel
theorem dX12_measure_89 : decode cX12_measure 89 = .ok (.bipush 8, 2) := by decide +kernel
theorem dX12_measure_91 : decode cX12_measure 91 = .ok (.iload_n 1, 1) := by decide +kernel
theorem dX12_measure_92 : decode cX12_measure 92 = .ok (.imul, 1) := by decide +kernel
theorem dX12_measure_93 : decode cX12_measure 93 = .ok (.iload_n 3, 1) := by decide +kernel
theorem dX12_measure_94 : decode cX12_measure 94 = .ok (.iadd, 1) := by decide +kernel
theorem dX12_measure_95 : decode cX12_measure 95 = .ok (.iaload, 1) := by decide +kernel
theorem dX12_measure_96 : decode cX12_measure 96 = .ok (.iadd, 1) := by decide +kernel
theorem dX12_measure_97 : decode cX12_measure 97 = .ok (.istore 4, 2) := by decide +kernel
theorem dX12_measure_99 : decode cX12_measure 99 = .ok (.aload_n 0, 1) := by decide +kernel
theorem dX12_measure_100 : decode cX12_measure 100 = .ok (.getfield 17, 3) := by decide +kernel
theorem dX12_measure_103 : decode cX12_measure 103 = .ok (.bipush 8, 2) := by decide +kernel
theorem dX12_measure_105 : decode cX12_measure 105 = .ok (.iload_n 2, 1) := by decide +kernel
theorem dX12_measure_106 : decode cX12_measure 106 = .ok (.imul, 1) := by decide +kernel
theorem dX12_measure_107 : decode cX12_measure 107 = .ok (.iload_n 3, 1) := by decide +kernel
theorem dX12_measure_108 : decode cX12_measure 108 = .ok (.iadd, 1) := by decide +kernel
theorem dX12_measure_109 : decode cX12_measure 109 = .ok (.iload 4, 2) := by decide +kernel
theorem dX12_measure_111 : decode cX12_measure 111 = .ok (.aload_n 0, 1) := by decide +kernel
theorem dX12_measure_112 : decode cX12_measure 112 = .ok (.getfield 17, 3) := by decide +kernel
theorem dX12_measure_115 : decode cX12_measure 115 = .ok (.bipush 8, 2) := by decide +kernel
theorem dX12_measure_117 : decode cX12_measure 117 = .ok (.iload_n 2, 1) := by decide +kernel
theorem dX12_measure_118 : decode cX12_measure 118 = .ok (.imul, 1) := by decide +kernel
theorem dX12_measure_119 : decode cX12_measure 119 = .ok (.iload_n 3, 1) := by decide +kernel
theorem dX12_measure_120 : decode cX12_measure 120 = .ok (.iadd, 1) := by decide +kernel
theorem dX12_measure_121 : decode cX12_measure 121 = .ok (.iaload, 1) := by decide +kernel
theorem dX12_measure_122 : decode cX12_measure 122 = .ok (.if_icmp .ge 8, 3) := by decide +kernel
theorem dX12_measure_125 : decode cX12_measure 125 = .ok (.iload 4, 2) := by decide +kernel
theorem dX12_measure_127 : decode cX12_measure 127 = .ok (.goto 14, 3) := by decide +kernel
theorem dX12_measure_130 : decode cX12_measure 130 = .ok (.aload_n 0, 1) := by decide +kernel
theorem dX12_measure_131 : decode cX12_measure 131 = .ok (.getfield 17, 3) := by decide +kernel
theorem dX12_measure_134 : decode cX12_measure 134 = .ok (.bipush 8, 2) := by decide +kernel
theorem dX12_measure_136 : decode cX12_measure 136 = .ok (.iload_n 2, 1) := by decide +kernel
theorem dX12_measure_137 : decode cX12_measure 137 = .ok (.imul, 1) := by decide +kernel
theorem dX12_measure_138 : decode cX12_measure 138 = .ok (.iload_n 3, 1) := by decide +kernel
theorem dX12_measure_139 : decode cX12_measure 139 = .ok (.iadd, 1) := by decide +kernel
theorem dX12_measure_140 : decode cX12_measure 140 = .ok (.iaload, 1) := by decide +kernel
theorem dX12_measure_141 : decode cX12_measure 141 = .ok (.iastore, 1) := by decide +kernel
theorem dX12_measure_142 : decode cX12_measure 142 = .ok (.iinc 3 1, 3) := by decide +kernel
theorem dX12_measure_145 : decode cX12_measure 145 = .ok (.goto (-77), 3) := by decide +kernel
theorem dX12_measure_148 : decode cX12_measure 148 = .ok (.iinc 2 1, 3) := by decide +kernel
theorem dX12_measure_151 : decode cX12_measure 151 = .ok (.goto (-91), 3) := by decide +kernel
theorem dX12_measure_154 : decode cX12_measure 154 = .ok (.iinc 1 1, 3) := by decide +kernel
theorem dX12_measure_157 : decode cX12_measure 157 = .ok (.goto (-105), 3) := by decide +kernel
theorem dX12_measure_160 : decode cX12_measure 160 = .ok (.return_, 1) := by decide +kernel
theorem dX12_far_0 : decode cX12_far 0 = .ok (.aload_n 0, 1) := by decide +kernel
theorem dX12_far_1 : decode cX12_far 1 = .ok (.iconst 0, 1) := by decide +kernel
theorem dX12_far_2 : decode cX12_far 2 = .ok (.putfield 100, 3) := by decide +kernel
theorem dX12_far_5 : decode cX12_far 5 = .ok (.aload_n 0, 1) := by decide +kernel
theorem dX12_far_6 : decode cX12_far 6 = .ok (.iload_n 1, 1) := by decide +kernel
theorem dX12_far_7 : decode cX12_far 7 = .ok (.invokevirtual 120, 3) := by decide +kernel
theorem dX12_far_10 : decode cX12_far 10 = .ok (.ifCond .ne 11, 3) := by decide +kernel
theorem dX12_far_13 : decode cX12_far 13 = .ok (.aload_n 0, 1) := by decide +kernel
theorem dX12_far_14 : decode cX12_far 14 = .ok (.iload_n 2, 1) := by decide +kernel
theorem dX12_far_15 : decode cX12_far 15 = .ok (.invokevirtual 120, 3) := by decide +kernel
theorem dX12_far_18 : decode cX12_far 18 = .ok (.ifCond .eq 5, 3) := by decide +kernel
theorem dX12_far_21 : decode cX12_far 21 = .ok (.iconst (-1), 1) := by decide +kernel
theorem dX12_far_22 : decode cX12_far 22 = .ok (.ireturn, 1) := by decide +kernel
theorem dX12_far_23 : decode cX12_far 23 = .ok (.aload_n 0, 1) := by decide +kernel
theorem dX12_far_24 : decode cX12_far 24 = .ok (.invokevirtual 124, 3) := by decide +kernel
theorem dX12_far_27 : decode cX12_far 27 = .ok (.aload_n 0, 1) := by decide +kernel
theorem dX12_far_28 : decode cX12_far 28 = .ok (.getfield 17, 3) := by decide +kernel
theorem dX12_far_31 : decode cX12_far 31 = .ok (.bipush 8, 2) := by decide +kernel
theorem dX12_far_33 : decode cX12_far 33 = .ok (.iload_n 1, 1) := by decide +kernel
theorem dX12_far_34 : decode cX12_far 34 = .ok (.imul, 1) := by decide +kernel
theorem dX12_far_35 : decode cX12_far 35 = .ok (.iload_n 2, 1) := by decide +kernel
theorem dX12_far_36 : decode cX12_far 36 = .ok (.iadd, 1) := by decide +kernel
theorem dX12_far_37 : decode cX12_far 37 = .ok (.iaload, 1) := by decide +kernel
theorem dX12_far_38 : decode cX12_far 38 = .ok (.bipush 100, 2) := by decide +kernel
theorem dX12_far_40 : decode cX12_far 40 = .ok (.if_icmp .ge 17, 3) := by decide +kernel
theorem dX12_far_43 : decode cX12_far 43 = .ok (.aload_n 0, 1) := by decide +kernel
theorem dX12_far_44 : decode cX12_far 44 = .ok (.getfield 17, 3) := by decide +kernel
theorem dX12_far_47 : decode cX12_far 47 = .ok (.bipush 8, 2) := by decide +kernel
theorem dX12_far_49 : decode cX12_far 49 = .ok (.iload_n 1, 1) := by decide +kernel
theorem dX12_far_50 : decode cX12_far 50 = .ok (.imul, 1) := by decide +kernel
theorem dX12_far_51 : decode cX12_far 51 = .ok (.iload_n 2, 1) := by decide +kernel
theorem dX12_far_52 : decode cX12_far 52 = .ok (.iadd, 1) := by decide +kernel
theorem dX12_far_53 : decode cX12_far 53 = .ok (.iaload, 1) := by decide +kernel
theorem dX12_far_54 : decode cX12_far 54 = .ok (.goto 5, 3) := by decide +kernel
theorem dX12_far_57 : decode cX12_far 57 = .ok (.bipush (-9), 2) := by decide +kernel
theorem dX12_far_59 : decode cX12_far 59 = .ok (.ireturn, 1) := by decide +kernel
theorem dX12_man_0 : decode cX12_man 0 = .ok (.aload_n 0, 1) := by decide +kernel
theorem dX12_man_1 : decode cX12_man 1 = .ok (.iconst 0, 1) := by decide +kernel
theorem dX12_man_2 : decode cX12_man 2 = .ok (.putfield 100, 3) := by decide +kernel
theorem dX12_man_5 : decode cX12_man 5 = .ok (.aload_n 0, 1) := by decide +kernel
theorem dX12_man_6 : decode cX12_man 6 = .ok (.iload 7, 2) := by decide +kernel
theorem dX12_man_8 : decode cX12_man 8 = .ok (.invokevirtual 120, 3) := by decide +kernel
theorem dX12_man_11 : decode cX12_man 11 = .ok (.ifCond .eq 5, 3) := by decide +kernel
theorem dX12_man_14 : decode cX12_man 14 = .ok (.iconst (-1), 1) := by decide +kernel
theorem dX12_man_15 : decode cX12_man 15 = .ok (.ireturn, 1) := by decide +kernel
theorem dX12_man_16 : decode cX12_man 16 = .ok (.iload_n 1, 1) := by decide +kernel
theorem dX12_man_17 : decode cX12_man 17 = .ok (.i2l, 1) := by decide +kernel
theorem dX12_man_18 : decode cX12_man 18 = .ok (.ldc2_w 127, 3) := by decide +kernel
theorem dX12_man_21 : decode cX12_man 21 = .ok (.ldc2_w 129, 3) := by decide +kernel
theorem dX12_man_24 : decode cX12_man 24 = .ok (.invokestatic 103, 3) := by decide +kernel
theorem dX12_man_27 : decode cX12_man 27 = .ok (.ifCond .eq 68, 3) := by decide +kernel
theorem dX12_man_30 : decode cX12_man 30 = .ok (.iload_n 2, 1) := by decide +kernel
theorem dX12_man_31 : decode cX12_man 31 = .ok (.i2l, 1) := by decide +kernel
theorem dX12_man_32 : decode cX12_man 32 = .ok (.lconst 0, 1) := by decide +kernel
theorem dX12_man_33 : decode cX12_man 33 = .ok (.ldc2_w 131, 3) := by decide +kernel
theorem dX12_man_36 : decode cX12_man 36 = .ok (.invokestatic 103, 3) := by decide +kernel
theorem dX12_man_39 : decode cX12_man 39 = .ok (.ifCond .eq 56, 3) := by decide +kernel
theorem dX12_man_42 : decode cX12_man 42 = .ok (.iload_n 3, 1) := by decide +kernel
theorem dX12_man_43 : decode cX12_man 43 = .ok (.i2l, 1) := by decide +kernel
theorem dX12_man_44 : decode cX12_man 44 = .ok (.lconst 0, 1) := by decide +kernel
theorem dX12_man_45 : decode cX12_man 45 = .ok (.ldc2_w 131, 3) := by decide +kernel
theorem dX12_man_48 : decode cX12_man 48 = .ok (.invokestatic 103, 3) := by decide +kernel
theorem dX12_man_51 : decode cX12_man 51 = .ok (.ifCond .eq 44, 3) := by decide +kernel
theorem dX12_man_54 : decode cX12_man 54 = .ok (.iload 4, 2) := by decide +kernel
theorem dX12_man_56 : decode cX12_man 56 = .ok (.i2l, 1) := by decide +kernel
theorem dX12_man_57 : decode cX12_man 57 = .ok (.ldc2_w 133, 3) := by decide +kernel
theorem dX12_man_60 : decode cX12_man 60 = .ok (.ldc2_w 135, 3) := by decide +kernel
theorem dX12_man_63 : decode cX12_man 63 = .ok (.invokestatic 103, 3) := by decide +kernel
theorem dX12_man_66 : decode cX12_man 66 = .ok (.ifCond .eq 29, 3) := by decide +kernel
theorem dX12_man_69 : decode cX12_man 69 = .ok (.iload 5, 2) := by decide +kernel
theorem dX12_man_71 : decode cX12_man 71 = .ok (.i2l, 1) := by decide +kernel
theorem dX12_man_72 : decode cX12_man 72 = .ok (.lconst 0, 1) := by decide +kernel
theorem dX12_man_73 : decode cX12_man 73 = .ok (.ldc2_w 137, 3) := by decide +kernel
theorem dX12_man_76 : decode cX12_man 76 = .ok (.invokestatic 103, 3) := by decide +kernel
theorem dX12_man_79 : decode cX12_man 79 = .ok (.ifCond .eq 16, 3) := by decide +kernel
theorem dX12_man_82 : decode cX12_man 82 = .ok (.iload 6, 2) := by decide +kernel
theorem dX12_man_84 : decode cX12_man 84 = .ok (.i2l, 1) := by decide +kernel
theorem dX12_man_85 : decode cX12_man 85 = .ok (.lconst 0, 1) := by decide +kernel
theorem dX12_man_86 : decode cX12_man 86 = .ok (.ldc2_w 139, 3) := by decide +kernel
theorem dX12_man_89 : decode cX12_man 89 = .ok (.invokestatic 103, 3) := by decide +kernel
theorem dX12_man_92 : decode cX12_man 92 = .ok (.ifCond .ne 6, 3) := by decide +kernel
theorem dX12_man_95 : decode cX12_man 95 = .ok (.bipush (-2), 2) := by decide +kernel
theorem dX12_man_97 : decode cX12_man 97 = .ok (.ireturn, 1) := by decide +kernel
theorem dX12_man_98 : decode cX12_man 98 = .ok (.aload_n 0, 1) := by decide +kernel
theorem dX12_man_99 : decode cX12_man 99 = .ok (.getfield 107, 3) := by decide +kernel
theorem dX12_man_102 : decode cX12_man 102 = .ok (.bipush 40, 2) := by decide +kernel
theorem dX12_man_104 : decode cX12_man 104 = .ok (.if_icmp .ne 6, 3) := by decide +kernel
theorem dX12_man_107 : decode cX12_man 107 = .ok (.bipush (-4), 2) := by decide +kernel
theorem dX12_man_109 : decode cX12_man 109 = .ok (.ireturn, 1) := by decide +kernel
theorem dX12_man_110 : decode cX12_man 110 = .ok (.bipush 8, 2) := by decide +kernel
theorem dX12_man_112 : decode cX12_man 112 = .ok (.aload_n 0, 1) := by decide +kernel
theorem dX12_man_113 : decode cX12_man 113 = .ok (.getfield 107, 3) := by decide +kernel
theorem dX12_man_116 : decode cX12_man 116 = .ok (.imul, 1) := by decide +kernel
theorem dX12_man_117 : decode cX12_man 117 = .ok (.istore 8, 2) := by decide +kernel
theorem dX12_man_119 : decode cX12_man 119 = .ok (.aload_n 0, 1) := by decide +kernel
theorem dX12_man_120 : decode cX12_man 120 = .ok (.getfield 21, 3) := by decide +kernel
theorem dX12_man_123 : decode cX12_man 123 = .ok (.iload 8, 2) := by decide +kernel
theorem dX12_man_125 : decode cX12_man 125 = .ok (.iload_n 1, 1) := by decide +kernel
theorem dX12_man_126 : decode cX12_man 126 = .ok (.iastore, 1) := by decide +kernel
theorem dX12_man_127 : decode cX12_man 127 = .ok (.aload_n 0, 1) := by decide +kernel
theorem dX12_man_128 : decode cX12_man 128 = .ok (.getfield 21, 3) := by decide +kernel
theorem dX12_man_131 : decode cX12_man 131 = .ok (.iload 8, 2) := by decide +kernel
theorem dX12_man_133 : decode cX12_man 133 = .ok (.iconst 1, 1) := by decide +kernel
theorem dX12_man_134 : decode cX12_man 134 = .ok (.iadd, 1) := by decide +kernel
theorem dX12_man_135 : decode cX12_man 135 = .ok (.iload_n 2, 1) := by decide +kernel
theorem dX12_man_136 : decode cX12_man 136 = .ok (.iastore, 1) := by decide +kernel
theorem dX12_man_137 : decode cX12_man 137 = .ok (.aload_n 0, 1) := by decide +kernel
theorem dX12_man_138 : decode cX12_man 138 = .ok (.getfield 21, 3) := by decide +kernel
theorem dX12_man_141 : decode cX12_man 141 = .ok (.iload 8, 2) := by decide +kernel
theorem dX12_man_143 : decode cX12_man 143 = .ok (.iconst 2, 1) := by decide +kernel
theorem dX12_man_144 : decode cX12_man 144 = .ok (.iadd, 1) := by decide +kernel
theorem dX12_man_145 : decode cX12_man 145 = .ok (.iload_n 3, 1) := by decide +kernel
theorem dX12_man_146 : decode cX12_man 146 = .ok (.iastore, 1) := by decide +kernel
theorem dX12_man_147 : decode cX12_man 147 = .ok (.aload_n 0, 1) := by decide +kernel
theorem dX12_man_148 : decode cX12_man 148 = .ok (.getfield 21, 3) := by decide +kernel
theorem dX12_man_151 : decode cX12_man 151 = .ok (.iload 8, 2) := by decide +kernel
theorem dX12_man_153 : decode cX12_man 153 = .ok (.iconst 3, 1) := by decide +kernel
theorem dX12_man_154 : decode cX12_man 154 = .ok (.iadd, 1) := by decide +kernel
theorem dX12_man_155 : decode cX12_man 155 = .ok (.iload 4, 2) := by decide +kernel
theorem dX12_man_157 : decode cX12_man 157 = .ok (.iastore, 1) := by decide +kernel
theorem dX12_man_158 : decode cX12_man 158 = .ok (.aload_n 0, 1) := by decide +kernel
theorem dX12_man_159 : decode cX12_man 159 = .ok (.getfield 21, 3) := by decide +kernel
theorem dX12_man_162 : decode cX12_man 162 = .ok (.iload 8, 2) := by decide +kernel
theorem dX12_man_164 : decode cX12_man 164 = .ok (.iconst 4, 1) := by decide +kernel
theorem dX12_man_165 : decode cX12_man 165 = .ok (.iadd, 1) := by decide +kernel
theorem dX12_man_166 : decode cX12_man 166 = .ok (.iload 5, 2) := by decide +kernel
theorem dX12_man_168 : decode cX12_man 168 = .ok (.iastore, 1) := by decide +kernel
theorem dX12_man_169 : decode cX12_man 169 = .ok (.aload_n 0, 1) := by decide +kernel
theorem dX12_man_170 : decode cX12_man 170 = .ok (.getfield 21, 3) := by decide +kernel
theorem dX12_man_173 : decode cX12_man 173 = .ok (.iload 8, 2) := by decide +kernel
theorem dX12_man_175 : decode cX12_man 175 = .ok (.iconst 5, 1) := by decide +kernel
theorem dX12_man_176 : decode cX12_man 176 = .ok (.iadd, 1) := by decide +kernel
theorem dX12_man_177 : decode cX12_man 177 = .ok (.iload 6, 2) := by decide +kernel
theorem dX12_man_179 : decode cX12_man 179 = .ok (.iastore, 1) := by decide +kernel
theorem dX12_man_180 : decode cX12_man 180 = .ok (.aload_n 0, 1) := by decide +kernel
theorem dX12_man_181 : decode cX12_man 181 = .ok (.getfield 21, 3) := by decide +kernel
theorem dX12_man_184 : decode cX12_man 184 = .ok (.iload 8, 2) := by decide +kernel
theorem dX12_man_186 : decode cX12_man 186 = .ok (.bipush 6, 2) := by decide +kernel
theorem dX12_man_188 : decode cX12_man 188 = .ok (.iadd, 1) := by decide +kernel
theorem dX12_man_189 : decode cX12_man 189 = .ok (.iload 7, 2) := by decide +kernel
theorem dX12_man_191 : decode cX12_man 191 = .ok (.iastore, 1) := by decide +kernel
theorem dX12_man_192 : decode cX12_man 192 = .ok (.aload_n 0, 1) := by decide +kernel
theorem dX12_man_193 : decode cX12_man 193 = .ok (.getfield 21, 3) := by decide +kernel
theorem dX12_man_196 : decode cX12_man 196 = .ok (.iload 8, 2) := by decide +kernel
theorem dX12_man_198 : decode cX12_man 198 = .ok (.bipush 7, 2) := by decide +kernel
theorem dX12_man_200 : decode cX12_man 200 = .ok (.iadd, 1) := by decide +kernel
theorem dX12_man_201 : decode cX12_man 201 = .ok (.iconst 0, 1) := by decide +kernel
theorem dX12_man_202 : decode cX12_man 202 = .ok (.iastore, 1) := by decide +kernel
theorem dX12_man_203 : decode cX12_man 203 = .ok (.iconst 0, 1) := by decide +kernel
theorem dX12_man_204 : decode cX12_man 204 = .ok (.istore 9, 2) := by decide +kernel
theorem dX12_man_206 : decode cX12_man 206 = .ok (.iload 9, 2) := by decide +kernel
theorem dX12_man_208 : decode cX12_man 208 = .ok (.aload_n 0, 1) := by decide +kernel
theorem dX12_man_209 : decode cX12_man 209 = .ok (.getfield 141, 3) := by decide +kernel
theorem dX12_man_212 : decode cX12_man 212 = .ok (.if_icmp .gt 26, 3) := by decide +kernel
theorem dX12_man_215 : decode cX12_man 215 = .ok (.aload_n 0, 1) := by decide +kernel
theorem dX12_man_216 : decode cX12_man 216 = .ok (.getfield 28, 3) := by decide +kernel
theorem dX12_man_219 : decode cX12_man 219 = .ok (.bipush 40, 2) := by decide +kernel
theorem dX12_man_221 : decode cX12_man 221 = .ok (.iload 9, 2) := by decide +kernel
theorem dX12_man_223 : decode cX12_man 223 = .ok (.imul, 1) := by decide +kernel
theorem dX12_man_224 : decode cX12_man 224 = .ok (.aload_n 0, 1) := by decide +kernel
theorem dX12_man_225 : decode cX12_man 225 = .ok (.getfield 107, 3) := by decide +kernel
theorem dX12_man_228 : decode cX12_man 228 = .ok (.iadd, 1) := by decide +kernel
theorem dX12_man_229 : decode cX12_man 229 = .ok (.iload 7, 2) := by decide +kernel
theorem dX12_man_231 : decode cX12_man 231 = .ok (.iastore, 1) := by decide +kernel
theorem dX12_man_232 : decode cX12_man 232 = .ok (.iinc 9 1, 3) := by decide +kernel
theorem dX12_man_235 : decode cX12_man 235 = .ok (.goto (-29), 3) := by decide +kernel
theorem dX12_man_238 : decode cX12_man 238 = .ok (.aload_n 0, 1) := by decide +kernel
theorem dX12_man_239 : decode cX12_man 239 = .ok (.dup, 1) := by decide +kernel
theorem dX12_man_240 : decode cX12_man 240 = .ok (.getfield 107, 3) := by decide +kernel
theorem dX12_man_243 : decode cX12_man 243 = .ok (.iconst 1, 1) := by decide +kernel
theorem dX12_man_244 : decode cX12_man 244 = .ok (.iadd, 1) := by decide +kernel
theorem dX12_man_245 : decode cX12_man 245 = .ok (.putfield 107, 3) := by decide +kernel
theorem dX12_man_248 : decode cX12_man 248 = .ok (.aload_n 0, 1) := by decide +kernel
theorem dX12_man_249 : decode cX12_man 249 = .ok (.getfield 107, 3) := by decide +kernel
theorem dX12_man_252 : decode cX12_man 252 = .ok (.iconst 1, 1) := by decide +kernel
theorem dX12_man_253 : decode cX12_man 253 = .ok (.isub, 1) := by decide +kernel
theorem dX12_man_254 : decode cX12_man 254 = .ok (.ireturn, 1) := by decide +kernel
theorem dX12_about_0 : decode cX12_about 0 = .ok (.aload_n 0, 1) := by decide +kernel
theorem dX12_about_1 : decode cX12_about 1 = .ok (.iconst 0, 1) := by decide +kernel
theorem dX12_about_2 : decode cX12_about 2 = .ok (.putfield 100, 3) := by decide +kernel
theorem dX12_about_5 : decode cX12_about 5 = .ok (.aload_n 0, 1) := by decide +kernel
theorem dX12_about_6 : decode cX12_about 6 = .ok (.iload_n 1, 1) := by decide +kernel
theorem dX12_about_7 : decode cX12_about 7 = .ok (.invokevirtual 144, 3) := by decide +kernel
theorem dX12_about_10 : decode cX12_about 10 = .ok (.ifCond .eq 5, 3) := by decide +kernel
theorem dX12_about_13 : decode cX12_about 13 = .ok (.iconst (-1), 1) := by decide +kernel
theorem dX12_about_14 : decode cX12_about 14 = .ok (.ireturn, 1) := by decide +kernel
theorem dX12_about_15 : decode cX12_about 15 = .ok (.iload_n 2, 1) := by decide +kernel
theorem dX12_about_16 : decode cX12_about 16 = .ok (.i2l, 1) := by decide +kernel
theorem dX12_about_17 : decode cX12_about 17 = .ok (.lconst 0, 1) := by decide +kernel
theorem dX12_about_18 : decode cX12_about 18 = .ok (.ldc2_w 147, 3) := by decide +kernel
theorem dX12_about_21 : decode cX12_about 21 = .ok (.invokestatic 103, 3) := by decide +kernel
theorem dX12_about_24 : decode cX12_about 24 = .ok (.ifCond .eq 17, 3) := by decide +kernel
theorem dX12_about_27 : decode cX12_about 27 = .ok (.aload_n 0, 1) := by decide +kernel
theorem dX12_about_28 : decode cX12_about 28 = .ok (.getfield 21, 3) := by decide +kernel
theorem dX12_about_31 : decode cX12_about 31 = .ok (.bipush 8, 2) := by decide +kernel
theorem dX12_about_33 : decode cX12_about 33 = .ok (.iload_n 1, 1) := by decide +kernel
theorem dX12_about_34 : decode cX12_about 34 = .ok (.imul, 1) := by decide +kernel
theorem dX12_about_35 : decode cX12_about 35 = .ok (.iload_n 2, 1) := by decide +kernel
theorem dX12_about_36 : decode cX12_about 36 = .ok (.iadd, 1) := by decide +kernel
theorem dX12_about_37 : decode cX12_about 37 = .ok (.iaload, 1) := by decide +kernel
theorem dX12_about_38 : decode cX12_about 38 = .ok (.goto 5, 3) := by decide +kernel
theorem dX12_about_41 : decode cX12_about 41 = .ok (.bipush (-2), 2) := by decide +kernel
theorem dX12_about_43 : decode cX12_about 43 = .ok (.ireturn, 1) := by decide +kernel
theorem dX12_shy_0 : decode cX12_shy 0 = .ok (.aload_n 0, 1) := by decide +kernel
theorem dX12_shy_1 : decode cX12_shy 1 = .ok (.iconst 0, 1) := by decide +kernel
theorem dX12_shy_2 : decode cX12_shy 2 = .ok (.putfield 100, 3) := by decide +kernel
theorem dX12_shy_5 : decode cX12_shy 5 = .ok (.aload_n 0, 1) := by decide +kernel
theorem dX12_shy_6 : decode cX12_shy 6 = .ok (.iload_n 1, 1) := by decide +kernel
theorem dX12_shy_7 : decode cX12_shy 7 = .ok (.invokevirtual 144, 3) := by decide +kernel
theorem dX12_shy_10 : decode cX12_shy 10 = .ok (.ifCond .eq 5, 3) := by decide +kernel
theorem dX12_shy_13 : decode cX12_shy 13 = .ok (.iconst (-1), 1) := by decide +kernel
theorem dX12_shy_14 : decode cX12_shy 14 = .ok (.ireturn, 1) := by decide +kernel
theorem dX12_shy_15 : decode cX12_shy 15 = .ok (.aload_n 0, 1) := by decide +kernel
theorem dX12_shy_16 : decode cX12_shy 16 = .ok (.getfield 21, 3) := by decide +kernel
theorem dX12_shy_19 : decode cX12_shy 19 = .ok (.bipush 8, 2) := by decide +kernel
theorem dX12_shy_21 : decode cX12_shy 21 = .ok (.iload_n 1, 1) := by decide +kernel
theorem dX12_shy_22 : decode cX12_shy 22 = .ok (.imul, 1) := by decide +kernel
theorem dX12_shy_23 : decode cX12_shy 23 = .ok (.bipush 7, 2) := by decide +kernel
theorem dX12_shy_25 : decode cX12_shy 25 = .ok (.iadd, 1) := by decide +kernel
theorem dX12_shy_26 : decode cX12_shy 26 = .ok (.iaload, 1) := by decide +kernel
theorem dX12_shy_27 : decode cX12_shy 27 = .ok (.istore_n 3, 1) := by decide +kernel
theorem dX12_shy_28 : decode cX12_shy 28 = .ok (.aload_n 0, 1) := by decide +kernel
theorem dX12_shy_29 : decode cX12_shy 29 = .ok (.getfield 21, 3) := by decide +kernel
theorem dX12_shy_32 : decode cX12_shy 32 = .ok (.bipush 8, 2) := by decide +kernel
theorem dX12_shy_34 : decode cX12_shy 34 = .ok (.iload_n 1, 1) := by decide +kernel
theorem dX12_shy_35 : decode cX12_shy 35 = .ok (.imul, 1) := by decide +kernel
theorem dX12_shy_36 : decode cX12_shy 36 = .ok (.bipush 7, 2) := by decide +kernel
theorem dX12_shy_38 : decode cX12_shy 38 = .ok (.iadd, 1) := by decide +kernel
theorem dX12_shy_39 : decode cX12_shy 39 = .ok (.iload_n 2, 1) := by decide +kernel
theorem dX12_shy_40 : decode cX12_shy 40 = .ok (.ifCond .eq 7, 3) := by decide +kernel
theorem dX12_shy_43 : decode cX12_shy 43 = .ok (.iconst 1, 1) := by decide +kernel
theorem dX12_shy_44 : decode cX12_shy 44 = .ok (.goto 4, 3) := by decide +kernel
theorem dX12_shy_47 : decode cX12_shy 47 = .ok (.iconst 0, 1) := by decide +kernel
theorem dX12_shy_48 : decode cX12_shy 48 = .ok (.iastore, 1) := by decide +kernel
theorem dX12_shy_49 : decode cX12_shy 49 = .ok (.iload_n 3, 1) := by decide +kernel
theorem dX12_shy_50 : decode cX12_shy 50 = .ok (.ireturn, 1) := by decide +kernel
theorem dX12_placeOf_0 : decode cX12_placeOf 0 = .ok (.aload_n 0, 1) := by decide +kernel
theorem dX12_placeOf_1 : decode cX12_placeOf 1 = .ok (.getfield 28, 3) := by decide +kernel
theorem dX12_placeOf_4 : decode cX12_placeOf 4 = .ok (.bipush 40, 2) := by decide +kernel
theorem dX12_placeOf_6 : decode cX12_placeOf 6 = .ok (.aload_n 0, 1) := by decide +kernel
theorem dX12_placeOf_7 : decode cX12_placeOf 7 = .ok (.getfield 141, 3) := by decide +kernel
theorem dX12_placeOf_10 : decode cX12_placeOf 10 = .ok (.imul, 1) := by decide +kernel
theorem dX12_placeOf_11 : decode cX12_placeOf 11 = .ok (.iload_n 1, 1) := by decide +kernel
theorem dX12_placeOf_12 : decode cX12_placeOf 12 = .ok (.iadd, 1) := by decide +kernel
theorem dX12_placeOf_13 : decode cX12_placeOf 13 = .ok (.iaload, 1) := by decide +kernel
theorem dX12_placeOf_14 : decode cX12_placeOf 14 = .ok (.ireturn, 1) := by decide +kernel
theorem dX12_go_0 : decode cX12_go 0 = .ok (.aload_n 0, 1) := by decide +kernel
theorem dX12_go_1 : decode cX12_go 1 = .ok (.getfield 28, 3) := by decide +kernel
theorem dX12_go_4 : decode cX12_go 4 = .ok (.bipush 40, 2) := by decide +kernel
theorem dX12_go_6 : decode cX12_go 6 = .ok (.aload_n 0, 1) := by decide +kernel
theorem dX12_go_7 : decode cX12_go 7 = .ok (.getfield 141, 3) := by decide +kernel
theorem dX12_go_10 : decode cX12_go 10 = .ok (.imul, 1) := by decide +kernel
theorem dX12_go_11 : decode cX12_go 11 = .ok (.iload_n 1, 1) := by decide +kernel
theorem dX12_go_12 : decode cX12_go 12 = .ok (.iadd, 1) := by decide +kernel
theorem dX12_go_13 : decode cX12_go 13 = .ok (.iload_n 2, 1) := by decide +kernel
theorem dX12_go_14 : decode cX12_go 14 = .ok (.iastore, 1) := by decide +kernel
theorem dX12_go_15 : decode cX12_go 15 = .ok (.return_, 1) := by decide +kernel
theorem dX12_isStreet_0 : decode cX12_isStreet 0 = .ok (.iload_n 0, 1) := by decide +kernel
theorem dX12_isStreet_1 : decode cX12_isStreet 1 = .ok (.i2l, 1) := by decide +kernel
theorem dX12_isStreet_2 : decode cX12_isStreet 2 = .ok (.lconst 0, 1) := by decide +kernel
theorem dX12_isStreet_3 : decode cX12_isStreet 3 = .ok (.ldc2_w 147, 3) := by decide +kernel
theorem dX12_isStreet_6 : decode cX12_isStreet 6 = .ok (.invokestatic 103, 3) := by decide +kernel
theorem dX12_isStreet_9 : decode cX12_isStreet 9 = .ok (.ireturn, 1) := by decide +kernel
theorem dX12_isAboard_0 : decode cX12_isAboard 0 = .ok (.iload_n 0, 1) := by decide +kernel
theorem dX12_isAboard_1 : decode cX12_isAboard 1 = .ok (.i2l, 1) := by decide +kernel
theorem dX12_isAboard_2 : decode cX12_isAboard 2 = .ok (.ldc2_w 127, 3) := by decide +kernel
theorem dX12_isAboard_5 : decode cX12_isAboard 5 = .ok (.ldc2_w 149, 3) := by decide +kernel
theorem dX12_isAboard_8 : decode cX12_isAboard 8 = .ok (.invokestatic 103, 3) := by decide +kernel
theorem dX12_isAboard_11 : decode cX12_isAboard 11 = .ok (.ireturn, 1) := by decide +kernel
theorem dX12_isHere_0 : decode cX12_isHere 0 = .ok (.iload_n 1, 1) := by decide +kernel
theorem dX12_isHere_1 : decode cX12_isHere 1 = .ok (.invokestatic 151, 3) := by decide +kernel
theorem dX12_isHere_4 : decode cX12_isHere 4 = .ok (.ifCond .eq 19, 3) := by decide +kernel
theorem dX12_isHere_7 : decode cX12_isHere 7 = .ok (.aload_n 0, 1) := by decide +kernel
theorem dX12_isHere_8 : decode cX12_isHere 8 = .ok (.getfield 43, 3) := by decide +kernel
theorem dX12_isHere_11 : decode cX12_isHere 11 = .ok (.iload_n 1, 1) := by decide +kernel
theorem dX12_isHere_12 : decode cX12_isHere 12 = .ok (.bipush 10, 2) := by decide +kernel
theorem dX12_isHere_14 : decode cX12_isHere 14 = .ok (.isub, 1) := by decide +kernel
theorem dX12_isHere_15 : decode cX12_isHere 15 = .ok (.baload, 1) := by decide +kernel
theorem dX12_isHere_16 : decode cX12_isHere 16 = .ok (.ifCond .ne 7, 3) := by decide +kernel
theorem dX12_isHere_19 : decode cX12_isHere 19 = .ok (.iconst 1, 1) := by decide +kernel
theorem dX12_isHere_20 : decode cX12_isHere 20 = .ok (.goto 4, 3) := by decide +kernel
theorem dX12_isHere_23 : decode cX12_isHere 23 = .ok (.iconst 0, 1) := by decide +kernel
theorem dX12_isHere_24 : decode cX12_isHere 24 = .ok (.ireturn, 1) := by decide +kernel
theorem dX12_where_0 : decode cX12_where 0 = .ok (.aload_n 0, 1) := by decide +kernel
theorem dX12_where_1 : decode cX12_where 1 = .ok (.iconst 0, 1) := by decide +kernel
theorem dX12_where_2 : decode cX12_where 2 = .ok (.putfield 100, 3) := by decide +kernel
theorem dX12_where_5 : decode cX12_where 5 = .ok (.aload_n 0, 1) := by decide +kernel
theorem dX12_where_6 : decode cX12_where 6 = .ok (.iload_n 1, 1) := by decide +kernel
theorem dX12_where_7 : decode cX12_where 7 = .ok (.invokevirtual 144, 3) := by decide +kernel
theorem dX12_where_10 : decode cX12_where 10 = .ok (.ifCond .eq 5, 3) := by decide +kernel
theorem dX12_where_13 : decode cX12_where 13 = .ok (.iconst (-1), 1) := by decide +kernel
theorem dX12_where_14 : decode cX12_where 14 = .ok (.ireturn, 1) := by decide +kernel
theorem dX12_where_15 : decode cX12_where 15 = .ok (.iload_n 2, 1) := by decide +kernel
theorem dX12_where_16 : decode cX12_where 16 = .ok (.i2l, 1) := by decide +kernel
theorem dX12_where_17 : decode cX12_where 17 = .ok (.lconst 0, 1) := by decide +kernel
theorem dX12_where_18 : decode cX12_where 18 = .ok (.aload_n 0, 1) := by decide +kernel
theorem dX12_where_19 : decode cX12_where 19 = .ok (.getfield 141, 3) := by decide +kernel
theorem dX12_where_22 : decode cX12_where 22 = .ok (.i2l, 1) := by decide +kernel
theorem dX12_where_23 : decode cX12_where 23 = .ok (.invokestatic 103, 3) := by decide +kernel
theorem dX12_where_26 : decode cX12_where 26 = .ok (.ifCond .eq 17, 3) := by decide +kernel
theorem dX12_where_29 : decode cX12_where 29 = .ok (.aload_n 0, 1) := by decide +kernel
theorem dX12_where_30 : decode cX12_where 30 = .ok (.getfield 28, 3) := by decide +kernel
theorem dX12_where_33 : decode cX12_where 33 = .ok (.bipush 40, 2) := by decide +kernel
theorem dX12_where_35 : decode cX12_where 35 = .ok (.iload_n 2, 1) := by decide +kernel
theorem dX12_where_36 : decode cX12_where 36 = .ok (.imul, 1) := by decide +kernel
theorem dX12_where_37 : decode cX12_where 37 = .ok (.iload_n 1, 1) := by decide +kernel
theorem dX12_where_38 : decode cX12_where 38 = .ok (.iadd, 1) := by decide +kernel
theorem dX12_where_39 : decode cX12_where 39 = .ok (.iaload, 1) := by decide +kernel
theorem dX12_where_40 : decode cX12_where 40 = .ok (.goto 5, 3) := by decide +kernel
theorem dX12_where_43 : decode cX12_where 43 = .ok (.bipush (-2), 2) := by decide +kernel
theorem dX12_where_45 : decode cX12_where 45 = .ok (.ireturn, 1) := by decide +kernel
theorem dX12_many_0 : decode cX12_many 0 = .ok (.iconst 0, 1) := by decide +kernel
theorem dX12_many_1 : decode cX12_many 1 = .ok (.istore_n 2, 1) := by decide +kernel
theorem dX12_many_2 : decode cX12_many 2 = .ok (.iconst 0, 1) := by decide +kernel
theorem dX12_many_3 : decode cX12_many 3 = .ok (.istore_n 3, 1) := by decide +kernel
theorem dX12_many_4 : decode cX12_many 4 = .ok (.iload_n 3, 1) := by decide +kernel
theorem dX12_many_5 : decode cX12_many 5 = .ok (.aload_n 0, 1) := by decide +kernel
theorem dX12_many_6 : decode cX12_many 6 = .ok (.getfield 107, 3) := by decide +kernel
theorem dX12_many_9 : decode cX12_many 9 = .ok (.if_icmp .ge 26, 3) := by decide +kernel
theorem dX12_many_12 : decode cX12_many 12 = .ok (.iload_n 2, 1) := by decide +kernel
theorem dX12_many_13 : decode cX12_many 13 = .ok (.aload_n 0, 1) := by decide +kernel
theorem dX12_many_14 : decode cX12_many 14 = .ok (.iload_n 3, 1) := by decide +kernel
theorem dX12_many_15 : decode cX12_many 15 = .ok (.invokevirtual 154, 3) := by decide +kernel
theorem dX12_many_18 : decode cX12_many 18 = .ok (.iload_n 1, 1) := by decide +kernel
theorem dX12_many_19 : decode cX12_many 19 = .ok (.if_icmp .ne 7, 3) := by decide +kernel
theorem dX12_many_22 : decode cX12_many 22 = .ok (.iconst 1, 1) := by decide +kernel
theorem dX12_many_23 : decode cX12_many 23 = .ok (.goto 4, 3) := by decide +kernel
theorem dX12_many_26 : decode cX12_many 26 = .ok (.iconst 0, 1) := by decide +kernel
theorem dX12_many_27 : decode cX12_many 27 = .ok (.iadd, 1) := by decide +kernel
theorem dX12_many_28 : decode cX12_many 28 = .ok (.istore_n 2, 1) := by decide +kernel
theorem dX12_many_29 : decode cX12_many 29 = .ok (.iinc 3 1, 3) := by decide +kernel
theorem dX12_many_32 : decode cX12_many 32 = .ok (.goto (-28), 3) := by decide +kernel
theorem dX12_many_35 : decode cX12_many 35 = .ok (.iload_n 2, 1) := by decide +kernel
theorem dX12_many_36 : decode cX12_many 36 = .ok (.ireturn, 1) := by decide +kernel
theorem dX12_skilled_0 : decode cX12_skilled 0 = .ok (.iconst 0, 1) := by decide +kernel
theorem dX12_skilled_1 : decode cX12_skilled 1 = .ok (.istore_n 2, 1) := by decide +kernel
theorem dX12_skilled_2 : decode cX12_skilled 2 = .ok (.iconst 0, 1) := by decide +kernel
theorem dX12_skilled_3 : decode cX12_skilled 3 = .ok (.istore_n 3, 1) := by decide +kernel
theorem dX12_skilled_4 : decode cX12_skilled 4 = .ok (.iload_n 3, 1) := by decide +kernel
theorem dX12_skilled_5 : decode cX12_skilled 5 = .ok (.aload_n 0, 1) := by decide +kernel
theorem dX12_skilled_6 : decode cX12_skilled 6 = .ok (.getfield 107, 3) := by decide +kernel
theorem dX12_skilled_9 : decode cX12_skilled 9 = .ok (.if_icmp .ge 41, 3) := by decide +kernel
theorem dX12_skilled_12 : decode cX12_skilled 12 = .ok (.iload_n 2, 1) := by decide +kernel
theorem dX12_skilled_13 : decode cX12_skilled 13 = .ok (.aload_n 0, 1) := by decide +kernel
theorem dX12_skilled_14 : decode cX12_skilled 14 = .ok (.iload_n 3, 1) := by decide +kernel
theorem dX12_skilled_15 : decode cX12_skilled 15 = .ok (.invokevirtual 154, 3) := by decide +kernel
theorem dX12_skilled_18 : decode cX12_skilled 18 = .ok (.iload_n 1, 1) := by decide +kernel
theorem dX12_skilled_19 : decode cX12_skilled 19 = .ok (.if_icmp .ne 22, 3) := by decide +kernel
theorem dX12_skilled_22 : decode cX12_skilled 22 = .ok (.aload_n 0, 1) := by decide +kernel
theorem dX12_skilled_23 : decode cX12_skilled 23 = .ok (.getfield 21, 3) := by decide +kernel
theorem dX12_skilled_26 : decode cX12_skilled 26 = .ok (.bipush 8, 2) := by decide +kernel
theorem dX12_skilled_28 : decode cX12_skilled 28 = .ok (.iload_n 3, 1) := by decide +kernel
theorem dX12_skilled_29 : decode cX12_skilled 29 = .ok (.imul, 1) := by decide +kernel
theorem dX12_skilled_30 : decode cX12_skilled 30 = .ok (.iconst 5, 1) := by decide +kernel
theorem dX12_skilled_31 : decode cX12_skilled 31 = .ok (.iadd, 1) := by decide +kernel
theorem dX12_skilled_32 : decode cX12_skilled 32 = .ok (.iaload, 1) := by decide +kernel
theorem dX12_skilled_33 : decode cX12_skilled 33 = .ok (.iconst 2, 1) := by decide +kernel
theorem dX12_skilled_34 : decode cX12_skilled 34 = .ok (.if_icmp .le 7, 3) := by decide +kernel
theorem dX12_skilled_37 : decode cX12_skilled 37 = .ok (.iconst 1, 1) := by decide +kernel
theorem dX12_skilled_38 : decode cX12_skilled 38 = .ok (.goto 4, 3) := by decide +kernel
theorem dX12_skilled_41 : decode cX12_skilled 41 = .ok (.iconst 0, 1) := by decide +kernel
theorem dX12_skilled_42 : decode cX12_skilled 42 = .ok (.iadd, 1) := by decide +kernel
theorem dX12_skilled_43 : decode cX12_skilled 43 = .ok (.istore_n 2, 1) := by decide +kernel
theorem dX12_skilled_44 : decode cX12_skilled 44 = .ok (.iinc 3 1, 3) := by decide +kernel
theorem dX12_skilled_47 : decode cX12_skilled 47 = .ok (.goto (-43), 3) := by decide +kernel
theorem dX12_skilled_50 : decode cX12_skilled 50 = .ok (.iload_n 2, 1) := by decide +kernel
theorem dX12_skilled_51 : decode cX12_skilled 51 = .ok (.ireturn, 1) := by decide +kernel
theorem dX12_at_0 : decode cX12_at 0 = .ok (.aload_n 0, 1) := by decide +kernel
theorem dX12_at_1 : decode cX12_at 1 = .ok (.iconst 0, 1) := by decide +kernel
theorem dX12_at_2 : decode cX12_at 2 = .ok (.putfield 100, 3) := by decide +kernel
theorem dX12_at_5 : decode cX12_at 5 = .ok (.iload_n 1, 1) := by decide +kernel
theorem dX12_at_6 : decode cX12_at 6 = .ok (.i2l, 1) := by decide +kernel
theorem dX12_at_7 : decode cX12_at 7 = .ok (.lconst 0, 1) := by decide +kernel
theorem dX12_at_8 : decode cX12_at 8 = .ok (.aload_n 0, 1) := by decide +kernel
theorem dX12_at_9 : decode cX12_at 9 = .ok (.getfield 7, 3) := by decide +kernel
theorem dX12_at_12 : decode cX12_at 12 = .ok (.iconst 1, 1) := by decide +kernel
theorem dX12_at_13 : decode cX12_at 13 = .ok (.isub, 1) := by decide +kernel
theorem dX12_at_14 : decode cX12_at 14 = .ok (.i2l, 1) := by decide +kernel
theorem dX12_at_15 : decode cX12_at 15 = .ok (.invokestatic 103, 3) := by decide +kernel
theorem dX12_at_18 : decode cX12_at 18 = .ok (.ifCond .ne 36, 3) := by decide +kernel
theorem dX12_at_21 : decode cX12_at 21 = .ok (.iload_n 1, 1) := by decide +kernel
theorem dX12_at_22 : decode cX12_at 22 = .ok (.i2l, 1) := by decide +kernel
theorem dX12_at_23 : decode cX12_at 23 = .ok (.ldc2_w 127, 3) := by decide +kernel
theorem dX12_at_26 : decode cX12_at 26 = .ok (.bipush 9, 2) := by decide +kernel
theorem dX12_at_28 : decode cX12_at 28 = .ok (.aload_n 0, 1) := by decide +kernel
theorem dX12_at_29 : decode cX12_at 29 = .ok (.getfield 110, 3) := by decide +kernel
theorem dX12_at_32 : decode cX12_at 32 = .ok (.iadd, 1) := by decide +kernel
theorem dX12_at_33 : decode cX12_at 33 = .ok (.i2l, 1) := by decide +kernel
theorem dX12_at_34 : decode cX12_at 34 = .ok (.invokestatic 103, 3) := by decide +kernel
theorem dX12_at_37 : decode cX12_at 37 = .ok (.ifCond .ne 17, 3) := by decide +kernel
theorem dX12_at_40 : decode cX12_at 40 = .ok (.iload_n 1, 1) := by decide +kernel
theorem dX12_at_41 : decode cX12_at 41 = .ok (.i2l, 1) := by decide +kernel
theorem dX12_at_42 : decode cX12_at 42 = .ok (.ldc2_w 158, 3) := by decide +kernel
theorem dX12_at_45 : decode cX12_at 45 = .ok (.ldc2_w 160, 3) := by decide +kernel
theorem dX12_at_48 : decode cX12_at 48 = .ok (.invokestatic 103, 3) := by decide +kernel
theorem dX12_at_51 : decode cX12_at 51 = .ok (.ifCond .eq 11, 3) := by decide +kernel
theorem dX12_at_54 : decode cX12_at 54 = .ok (.aload_n 0, 1) := by decide +kernel
theorem dX12_at_55 : decode cX12_at 55 = .ok (.iload_n 1, 1) := by decide +kernel
theorem dX12_at_56 : decode cX12_at 56 = .ok (.invokevirtual 162, 3) := by decide +kernel
theorem dX12_at_59 : decode cX12_at 59 = .ok (.goto 5, 3) := by decide +kernel
theorem dX12_at_62 : decode cX12_at 62 = .ok (.bipush (-2), 2) := by decide +kernel
theorem dX12_at_64 : decode cX12_at 64 = .ok (.ireturn, 1) := by decide +kernel
theorem dX12_tide_0 : decode cX12_tide 0 = .ok (.aload_n 0, 1) := by decide +kernel
theorem dX12_tide_1 : decode cX12_tide 1 = .ok (.iconst 0, 1) := by decide +kernel
theorem dX12_tide_2 : decode cX12_tide 2 = .ok (.putfield 100, 3) := by decide +kernel
theorem dX12_tide_5 : decode cX12_tide 5 = .ok (.aload_n 0, 1) := by decide +kernel
theorem dX12_tide_6 : decode cX12_tide 6 = .ok (.getfield 141, 3) := by decide +kernel
theorem dX12_tide_9 : decode cX12_tide 9 = .ok (.ireturn, 1) := by decide +kernel
theorem dX12_heardAt_0 : decode cX12_heardAt 0 = .ok (.bipush (-9), 2) := by decide +kernel
theorem dX12_heardAt_2 : decode cX12_heardAt 2 = .ok (.istore_n 2, 1) := by decide +kernel
theorem dX12_heardAt_3 : decode cX12_heardAt 3 = .ok (.aload_n 0, 1) := by decide +kernel
theorem dX12_heardAt_4 : decode cX12_heardAt 4 = .ok (.getfield 165, 3) := by decide +kernel
theorem dX12_heardAt_7 : decode cX12_heardAt 7 = .ok (.istore_n 3, 1) := by decide +kernel
theorem dX12_heardAt_8 : decode cX12_heardAt 8 = .ok (.iload_n 3, 1) := by decide +kernel
theorem dX12_heardAt_9 : decode cX12_heardAt 9 = .ok (.aload_n 0, 1) := by decide +kernel
theorem dX12_heardAt_10 : decode cX12_heardAt 10 = .ok (.getfield 168, 3) := by decide +kernel
theorem dX12_heardAt_13 : decode cX12_heardAt 13 = .ok (.if_icmp .ge 90, 3) := by decide +kernel
theorem dX12_heardAt_16 : decode cX12_heardAt 16 = .ok (.aload_n 0, 1) := by decide +kernel
theorem dX12_heardAt_17 : decode cX12_heardAt 17 = .ok (.getfield 61, 3) := by decide +kernel
theorem dX12_heardAt_20 : decode cX12_heardAt 20 = .ok (.bipush 6, 2) := by decide +kernel
theorem dX12_heardAt_22 : decode cX12_heardAt 22 = .ok (.iload_n 3, 1) := by decide +kernel
theorem dX12_heardAt_23 : decode cX12_heardAt 23 = .ok (.imul, 1) := by decide +kernel
theorem dX12_heardAt_24 : decode cX12_heardAt 24 = .ok (.iconst 3, 1) := by decide +kernel
theorem dX12_heardAt_25 : decode cX12_heardAt 25 = .ok (.iadd, 1) := by decide +kernel
theorem dX12_heardAt_26 : decode cX12_heardAt 26 = .ok (.iaload, 1) := by decide +kernel
theorem dX12_heardAt_27 : decode cX12_heardAt 27 = .ok (.istore 4, 2) := by decide +kernel
theorem dX12_heardAt_29 : decode cX12_heardAt 29 = .ok (.iload 4, 2) := by decide +kernel
theorem dX12_heardAt_31 : decode cX12_heardAt 31 = .ok (.invokestatic 171, 3) := by decide +kernel
theorem dX12_heardAt_34 : decode cX12_heardAt 34 = .ok (.ifCond .eq 63, 3) := by decide +kernel
theorem dX12_heardAt_37 : decode cX12_heardAt 37 = .ok (.aload_n 0, 1) := by decide +kernel
theorem dX12_heardAt_38 : decode cX12_heardAt 38 = .ok (.getfield 17, 3) := by decide +kernel
theorem dX12_heardAt_41 : decode cX12_heardAt 41 = .ok (.bipush 8, 2) := by decide +kernel
theorem dX12_heardAt_43 : decode cX12_heardAt 43 = .ok (.iload 4, 2) := by decide +kernel
theorem dX12_heardAt_45 : decode cX12_heardAt 45 = .ok (.imul, 1) := by decide +kernel
theorem dX12_heardAt_46 : decode cX12_heardAt 46 = .ok (.iload_n 1, 1) := by decide +kernel
theorem dX12_heardAt_47 : decode cX12_heardAt 47 = .ok (.iadd, 1) := by decide +kernel
theorem dX12_heardAt_48 : decode cX12_heardAt 48 = .ok (.iaload, 1) := by decide +kernel
theorem dX12_heardAt_49 : decode cX12_heardAt 49 = .ok (.bipush 100, 2) := by decide +kernel
theorem dX12_heardAt_51 : decode cX12_heardAt 51 = .ok (.if_icmp .ge 46, 3) := by decide +kernel
theorem dX12_heardAt_54 : decode cX12_heardAt 54 = .ok (.aload_n 0, 1) := by decide +kernel
theorem dX12_heardAt_55 : decode cX12_heardAt 55 = .ok (.getfield 61, 3) := by decide +kernel
theorem dX12_heardAt_58 : decode cX12_heardAt 58 = .ok (.bipush 6, 2) := by decide +kernel
theorem dX12_heardAt_60 : decode cX12_heardAt 60 = .ok (.iload_n 3, 1) := by decide +kernel
theorem dX12_heardAt_61 : decode cX12_heardAt 61 = .ok (.imul, 1) := by decide +kernel
theorem dX12_heardAt_62 : decode cX12_heardAt 62 = .ok (.iaload, 1) := by decide +kernel
theorem dX12_heardAt_63 : decode cX12_heardAt 63 = .ok (.aload_n 0, 1) := by decide +kernel
theorem dX12_heardAt_64 : decode cX12_heardAt 64 = .ok (.getfield 17, 3) := by decide +kernel
theorem dX12_heardAt_67 : decode cX12_heardAt 67 = .ok (.bipush 8, 2) := by decide +kernel
theorem dX12_heardAt_69 : decode cX12_heardAt 69 = .ok (.iload 4, 2) := by decide +kernel
theorem dX12_heardAt_71 : decode cX12_heardAt 71 = .ok (.imul, 1) := by decide +kernel
theorem dX12_heardAt_72 : decode cX12_heardAt 72 = .ok (.iload_n 1, 1) := by decide +kernel
theorem dX12_heardAt_73 : decode cX12_heardAt 73 = .ok (.iadd, 1) := by decide +kernel
theorem dX12_heardAt_74 : decode cX12_heardAt 74 = .ok (.iaload, 1) := by decide +kernel
theorem dX12_heardAt_75 : decode cX12_heardAt 75 = .ok (.iadd, 1) := by decide +kernel
theorem dX12_heardAt_76 : decode cX12_heardAt 76 = .ok (.istore 5, 2) := by decide +kernel
theorem dX12_heardAt_78 : decode cX12_heardAt 78 = .ok (.iload_n 2, 1) := by decide +kernel
theorem dX12_heardAt_79 : decode cX12_heardAt 79 = .ok (.bipush (-9), 2) := by decide +kernel
theorem dX12_heardAt_81 : decode cX12_heardAt 81 = .ok (.if_icmp .eq 9, 3) := by decide +kernel
theorem dX12_heardAt_84 : decode cX12_heardAt 84 = .ok (.iload 5, 2) := by decide +kernel
theorem dX12_heardAt_86 : decode cX12_heardAt 86 = .ok (.iload_n 2, 1) := by decide +kernel
theorem dX12_heardAt_87 : decode cX12_heardAt 87 = .ok (.if_icmp .ge 8, 3) := by decide +kernel
theorem dX12_heardAt_90 : decode cX12_heardAt 90 = .ok (.iload 5, 2) := by decide +kernel
theorem dX12_heardAt_92 : decode cX12_heardAt 92 = .ok (.goto 4, 3) := by decide +kernel
theorem dX12_heardAt_95 : decode cX12_heardAt 95 = .ok (.iload_n 2, 1) := by decide +kernel
theorem dX12_heardAt_96 : decode cX12_heardAt 96 = .ok (.istore_n 2, 1) := by decide +kernel
theorem dX12_heardAt_97 : decode cX12_heardAt 97 = .ok (.iinc 3 1, 3) := by decide +kernel
theorem dX12_heardAt_100 : decode cX12_heardAt 100 = .ok (.goto (-92), 3) := by decide +kernel
theorem dX12_heardAt_103 : decode cX12_heardAt 103 = .ok (.iload_n 2, 1) := by decide +kernel
theorem dX12_heardAt_104 : decode cX12_heardAt 104 = .ok (.ireturn, 1) := by decide +kernel
theorem dX12_goOn_0 : decode cX12_goOn 0 = .ok (.aload_n 0, 1) := by decide +kernel
theorem dX12_goOn_1 : decode cX12_goOn 1 = .ok (.dup, 1) := by decide +kernel
theorem dX12_goOn_2 : decode cX12_goOn 2 = .ok (.getfield 141, 3) := by decide +kernel
theorem dX12_goOn_5 : decode cX12_goOn 5 = .ok (.iconst 1, 1) := by decide +kernel
theorem dX12_goOn_6 : decode cX12_goOn 6 = .ok (.iadd, 1) := by decide +kernel
theorem dX12_goOn_7 : decode cX12_goOn 7 = .ok (.putfield 141, 3) := by decide +kernel
theorem dX12_goOn_10 : decode cX12_goOn 10 = .ok (.iconst 0, 1) := by decide +kernel
theorem dX12_goOn_11 : decode cX12_goOn 11 = .ok (.istore_n 1, 1) := by decide +kernel
theorem dX12_goOn_12 : decode cX12_goOn 12 = .ok (.iload_n 1, 1) := by decide +kernel
theorem dX12_goOn_13 : decode cX12_goOn 13 = .ok (.aload_n 0, 1) := by decide +kernel
theorem dX12_goOn_14 : decode cX12_goOn 14 = .ok (.getfield 107, 3) := by decide +kernel
theorem dX12_goOn_17 : decode cX12_goOn 17 = .ok (.if_icmp .ge 39, 3) := by decide +kernel
theorem dX12_goOn_20 : decode cX12_goOn 20 = .ok (.aload_n 0, 1) := by decide +kernel
theorem dX12_goOn_21 : decode cX12_goOn 21 = .ok (.getfield 28, 3) := by decide +kernel
theorem dX12_goOn_24 : decode cX12_goOn 24 = .ok (.bipush 40, 2) := by decide +kernel
theorem dX12_goOn_26 : decode cX12_goOn 26 = .ok (.aload_n 0, 1) := by decide +kernel
theorem dX12_goOn_27 : decode cX12_goOn 27 = .ok (.getfield 141, 3) := by decide +kernel
theorem dX12_goOn_30 : decode cX12_goOn 30 = .ok (.imul, 1) := by decide +kernel
theorem dX12_goOn_31 : decode cX12_goOn 31 = .ok (.iload_n 1, 1) := by decide +kernel
theorem dX12_goOn_32 : decode cX12_goOn 32 = .ok (.iadd, 1) := by decide +kernel
theorem dX12_goOn_33 : decode cX12_goOn 33 = .ok (.aload_n 0, 1) := by decide +kernel
theorem dX12_goOn_34 : decode cX12_goOn 34 = .ok (.getfield 28, 3) := by decide +kernel
theorem dX12_goOn_37 : decode cX12_goOn 37 = .ok (.bipush 40, 2) := by decide +kernel
theorem dX12_goOn_39 : decode cX12_goOn 39 = .ok (.aload_n 0, 1) := by decide +kernel
theorem dX12_goOn_40 : decode cX12_goOn 40 = .ok (.getfield 141, 3) := by decide +kernel
theorem dX12_goOn_43 : decode cX12_goOn 43 = .ok (.iconst 1, 1) := by decide +kernel
theorem dX12_goOn_44 : decode cX12_goOn 44 = .ok (.isub, 1) := by decide +kernel
theorem dX12_goOn_45 : decode cX12_goOn 45 = .ok (.imul, 1) := by decide +kernel
theorem dX12_goOn_46 : decode cX12_goOn 46 = .ok (.iload_n 1, 1) := by decide +kernel
theorem dX12_goOn_47 : decode cX12_goOn 47 = .ok (.iadd, 1) := by decide +kernel
theorem dX12_goOn_48 : decode cX12_goOn 48 = .ok (.iaload, 1) := by decide +kernel
theorem dX12_goOn_49 : decode cX12_goOn 49 = .ok (.iastore, 1) := by decide +kernel
theorem dX12_goOn_50 : decode cX12_goOn 50 = .ok (.iinc 1 1, 3) := by decide +kernel
theorem dX12_goOn_53 : decode cX12_goOn 53 = .ok (.goto (-41), 3) := by decide +kernel
theorem dX12_goOn_56 : decode cX12_goOn 56 = .ok (.iconst 0, 1) := by decide +kernel
theorem dX12_goOn_57 : decode cX12_goOn 57 = .ok (.istore_n 1, 1) := by decide +kernel
theorem dX12_goOn_58 : decode cX12_goOn 58 = .ok (.iload_n 1, 1) := by decide +kernel
theorem dX12_goOn_59 : decode cX12_goOn 59 = .ok (.aload_n 0, 1) := by decide +kernel
theorem dX12_goOn_60 : decode cX12_goOn 60 = .ok (.getfield 107, 3) := by decide +kernel
theorem dX12_goOn_63 : decode cX12_goOn 63 = .ok (.if_icmp .ge 70, 3) := by decide +kernel
theorem dX12_goOn_66 : decode cX12_goOn 66 = .ok (.aload_n 0, 1) := by decide +kernel
theorem dX12_goOn_67 : decode cX12_goOn 67 = .ok (.iload_n 1, 1) := by decide +kernel
theorem dX12_goOn_68 : decode cX12_goOn 68 = .ok (.invokevirtual 154, 3) := by decide +kernel
theorem dX12_goOn_71 : decode cX12_goOn 71 = .ok (.istore_n 2, 1) := by decide +kernel
theorem dX12_goOn_72 : decode cX12_goOn 72 = .ok (.iload_n 2, 1) := by decide +kernel
theorem dX12_goOn_73 : decode cX12_goOn 73 = .ok (.invokestatic 171, 3) := by decide +kernel
theorem dX12_goOn_76 : decode cX12_goOn 76 = .ok (.ifCond .eq 11, 3) := by decide +kernel
theorem dX12_goOn_79 : decode cX12_goOn 79 = .ok (.aload_n 0, 1) := by decide +kernel
theorem dX12_goOn_80 : decode cX12_goOn 80 = .ok (.iload_n 2, 1) := by decide +kernel
theorem dX12_goOn_81 : decode cX12_goOn 81 = .ok (.invokevirtual 174, 3) := by decide +kernel
theorem dX12_goOn_84 : decode cX12_goOn 84 = .ok (.goto 5, 3) := by decide +kernel
theorem dX12_goOn_87 : decode cX12_goOn 87 = .ok (.bipush (-9), 2) := by decide +kernel
theorem dX12_goOn_89 : decode cX12_goOn 89 = .ok (.istore_n 3, 1) := by decide +kernel
theorem dX12_goOn_90 : decode cX12_goOn 90 = .ok (.aload_n 0, 1) := by decide +kernel
theorem dX12_goOn_91 : decode cX12_goOn 91 = .ok (.getfield 21, 3) := by decide +kernel
theorem dX12_goOn_94 : decode cX12_goOn 94 = .ok (.bipush 8, 2) := by decide +kernel
theorem dX12_goOn_96 : decode cX12_goOn 96 = .ok (.iload_n 1, 1) := by decide +kernel
theorem dX12_goOn_97 : decode cX12_goOn 97 = .ok (.imul, 1) := by decide +kernel
theorem dX12_goOn_98 : decode cX12_goOn 98 = .ok (.bipush 7, 2) := by decide +kernel
theorem dX12_goOn_100 : decode cX12_goOn 100 = .ok (.iadd, 1) := by decide +kernel
theorem dX12_goOn_101 : decode cX12_goOn 101 = .ok (.iaload, 1) := by decide +kernel
theorem dX12_goOn_102 : decode cX12_goOn 102 = .ok (.iconst 1, 1) := by decide +kernel
theorem dX12_goOn_103 : decode cX12_goOn 103 = .ok (.if_icmp .ne 24, 3) := by decide +kernel
theorem dX12_goOn_106 : decode cX12_goOn 106 = .ok (.iload_n 3, 1) := by decide +kernel
theorem dX12_goOn_107 : decode cX12_goOn 107 = .ok (.bipush (-9), 2) := by decide +kernel
theorem dX12_goOn_109 : decode cX12_goOn 109 = .ok (.if_icmp .eq 18, 3) := by decide +kernel
theorem dX12_goOn_112 : decode cX12_goOn 112 = .ok (.iload_n 3, 1) := by decide +kernel
theorem dX12_goOn_113 : decode cX12_goOn 113 = .ok (.aload_n 0, 1) := by decide +kernel
theorem dX12_goOn_114 : decode cX12_goOn 114 = .ok (.getfield 141, 3) := by decide +kernel
theorem dX12_goOn_117 : decode cX12_goOn 117 = .ok (.if_icmp .gt 10, 3) := by decide +kernel
theorem dX12_goOn_120 : decode cX12_goOn 120 = .ok (.aload_n 0, 1) := by decide +kernel
theorem dX12_goOn_121 : decode cX12_goOn 121 = .ok (.iload_n 1, 1) := by decide +kernel
theorem dX12_goOn_122 : decode cX12_goOn 122 = .ok (.bipush 22, 2) := by decide +kernel
theorem dX12_goOn_124 : decode cX12_goOn 124 = .ok (.invokevirtual 177, 3) := by decide +kernel
theorem dX12_goOn_127 : decode cX12_goOn 127 = .ok (.iinc 1 1, 3) := by decide +kernel
theorem dX12_goOn_130 : decode cX12_goOn 130 = .ok (.goto (-72), 3) := by decide +kernel
theorem dX12_goOn_133 : decode cX12_goOn 133 = .ok (.aload_n 0, 1) := by decide +kernel
theorem dX12_goOn_134 : decode cX12_goOn 134 = .ok (.bipush 20, 2) := by decide +kernel
theorem dX12_goOn_136 : decode cX12_goOn 136 = .ok (.invokevirtual 162, 3) := by decide +kernel
theorem dX12_goOn_139 : decode cX12_goOn 139 = .ok (.aload_n 0, 1) := by decide +kernel
theorem dX12_goOn_140 : decode cX12_goOn 140 = .ok (.getfield 64, 3) := by decide +kernel
theorem dX12_goOn_143 : decode cX12_goOn 143 = .ok (.isub, 1) := by decide +kernel
theorem dX12_goOn_144 : decode cX12_goOn 144 = .ok (.istore_n 1, 1) := by decide +kernel
theorem dX12_goOn_145 : decode cX12_goOn 145 = .ok (.iload_n 1, 1) := by decide +kernel
theorem dX12_goOn_146 : decode cX12_goOn 146 = .ok (.ifCond .le 15, 3) := by decide +kernel
theorem dX12_goOn_149 : decode cX12_goOn 149 = .ok (.iload_n 1, 1) := by decide +kernel
theorem dX12_goOn_150 : decode cX12_goOn 150 = .ok (.aload_n 0, 1) := by decide +kernel
theorem dX12_goOn_151 : decode cX12_goOn 151 = .ok (.getfield 67, 3) := by decide +kernel
theorem dX12_goOn_154 : decode cX12_goOn 154 = .ok (.imul, 1) := by decide +kernel
theorem dX12_goOn_155 : decode cX12_goOn 155 = .ok (.bipush 100, 2) := by decide +kernel
theorem dX12_goOn_157 : decode cX12_goOn 157 = .ok (.idiv, 1) := by decide +kernel
theorem dX12_goOn_158 : decode cX12_goOn 158 = .ok (.goto 4, 3) := by decide +kernel
theorem dX12_goOn_161 : decode cX12_goOn 161 = .ok (.iconst 0, 1) := by decide +kernel
theorem dX12_goOn_162 : decode cX12_goOn 162 = .ok (.istore_n 2, 1) := by decide +kernel
theorem dX12_goOn_163 : decode cX12_goOn 163 = .ok (.iconst 0, 1) := by decide +kernel
theorem dX12_goOn_164 : decode cX12_goOn 164 = .ok (.istore_n 3, 1) := by decide +kernel
theorem dX12_goOn_165 : decode cX12_goOn 165 = .ok (.iload_n 3, 1) := by decide +kernel
theorem dX12_goOn_166 : decode cX12_goOn 166 = .ok (.aload_n 0, 1) := by decide +kernel
theorem dX12_goOn_167 : decode cX12_goOn 167 = .ok (.getfield 107, 3) := by decide +kernel
theorem dX12_goOn_170 : decode cX12_goOn 170 = .ok (.if_icmp .ge 43, 3) := by decide +kernel
theorem dX12_goOn_173 : decode cX12_goOn 173 = .ok (.iload_n 2, 1) := by decide +kernel
theorem dX12_goOn_174 : decode cX12_goOn 174 = .ok (.ifCond .le 39, 3) := by decide +kernel
theorem dX12_goOn_177 : decode cX12_goOn 177 = .ok (.aload_n 0, 1) := by decide +kernel
theorem dX12_goOn_178 : decode cX12_goOn 178 = .ok (.iload_n 3, 1) := by decide +kernel
theorem dX12_goOn_179 : decode cX12_goOn 179 = .ok (.invokevirtual 154, 3) := by decide +kernel
theorem dX12_goOn_182 : decode cX12_goOn 182 = .ok (.bipush 20, 2) := by decide +kernel
theorem dX12_goOn_184 : decode cX12_goOn 184 = .ok (.if_icmp .ne 23, 3) := by decide +kernel
theorem dX12_goOn_187 : decode cX12_goOn 187 = .ok (.aload_n 0, 1) := by decide +kernel
theorem dX12_goOn_188 : decode cX12_goOn 188 = .ok (.iload_n 3, 1) := by decide +kernel
theorem dX12_goOn_189 : decode cX12_goOn 189 = .ok (.bipush 21, 2) := by decide +kernel
theorem dX12_goOn_191 : decode cX12_goOn 191 = .ok (.invokevirtual 177, 3) := by decide +kernel
theorem dX12_goOn_194 : decode cX12_goOn 194 = .ok (.aload_n 0, 1) := by decide +kernel
theorem dX12_goOn_195 : decode cX12_goOn 195 = .ok (.getfield 24, 3) := by decide +kernel
theorem dX12_goOn_198 : decode cX12_goOn 198 = .ok (.iload_n 3, 1) := by decide +kernel
theorem dX12_goOn_199 : decode cX12_goOn 199 = .ok (.aload_n 0, 1) := by decide +kernel
theorem dX12_goOn_200 : decode cX12_goOn 200 = .ok (.getfield 141, 3) := by decide +kernel
theorem dX12_goOn_203 : decode cX12_goOn 203 = .ok (.iastore, 1) := by decide +kernel
theorem dX12_goOn_204 : decode cX12_goOn 204 = .ok (.iinc 2 (-1), 3) := by decide +kernel
theorem dX12_goOn_207 : decode cX12_goOn 207 = .ok (.iinc 3 1, 3) := by decide +kernel
theorem dX12_goOn_210 : decode cX12_goOn 210 = .ok (.goto (-45), 3) := by decide +kernel
theorem dX12_goOn_213 : decode cX12_goOn 213 = .ok (.iconst 0, 1) := by decide +kernel
theorem dX12_goOn_214 : decode cX12_goOn 214 = .ok (.istore_n 3, 1) := by decide +kernel
theorem dX12_goOn_215 : decode cX12_goOn 215 = .ok (.iload_n 3, 1) := by decide +kernel
theorem dX12_goOn_216 : decode cX12_goOn 216 = .ok (.aload_n 0, 1) := by decide +kernel
theorem dX12_goOn_217 : decode cX12_goOn 217 = .ok (.getfield 107, 3) := by decide +kernel
theorem dX12_goOn_220 : decode cX12_goOn 220 = .ok (.if_icmp .ge 52, 3) := by decide +kernel
theorem dX12_goOn_223 : decode cX12_goOn 223 = .ok (.aload_n 0, 1) := by decide +kernel
theorem dX12_goOn_224 : decode cX12_goOn 224 = .ok (.iload_n 3, 1) := by decide +kernel
theorem dX12_goOn_225 : decode cX12_goOn 225 = .ok (.invokevirtual 154, 3) := by decide +kernel
theorem dX12_goOn_228 : decode cX12_goOn 228 = .ok (.bipush 21, 2) := by decide +kernel
theorem dX12_goOn_230 : decode cX12_goOn 230 = .ok (.if_icmp .ne 36, 3) := by decide +kernel
theorem dX12_goOn_233 : decode cX12_goOn 233 = .ok (.aload_n 0, 1) := by decide +kernel
theorem dX12_goOn_234 : decode cX12_goOn 234 = .ok (.getfield 24, 3) := by decide +kernel
theorem dX12_goOn_237 : decode cX12_goOn 237 = .ok (.iload_n 3, 1) := by decide +kernel
theorem dX12_goOn_238 : decode cX12_goOn 238 = .ok (.iaload, 1) := by decide +kernel
theorem dX12_goOn_239 : decode cX12_goOn 239 = .ok (.aload_n 0, 1) := by decide +kernel
theorem dX12_goOn_240 : decode cX12_goOn 240 = .ok (.getfield 141, 3) := by decide +kernel
theorem dX12_goOn_243 : decode cX12_goOn 243 = .ok (.bipush 10, 2) := by decide +kernel
theorem dX12_goOn_245 : decode cX12_goOn 245 = .ok (.isub, 1) := by decide +kernel
theorem dX12_goOn_246 : decode cX12_goOn 246 = .ok (.if_icmp .ne 20, 3) := by decide +kernel
theorem dX12_goOn_249 : decode cX12_goOn 249 = .ok (.aload_n 0, 1) := by decide +kernel
theorem dX12_goOn_250 : decode cX12_goOn 250 = .ok (.iload_n 3, 1) := by decide +kernel
theorem dX12_goOn_251 : decode cX12_goOn 251 = .ok (.aload_n 0, 1) := by decide +kernel
theorem dX12_goOn_252 : decode cX12_goOn 252 = .ok (.getfield 21, 3) := by decide +kernel
theorem dX12_goOn_255 : decode cX12_goOn 255 = .ok (.bipush 8, 2) := by decide +kernel
theorem dX12_goOn_257 : decode cX12_goOn 257 = .ok (.iload_n 3, 1) := by decide +kernel
theorem dX12_goOn_258 : decode cX12_goOn 258 = .ok (.imul, 1) := by decide +kernel
theorem dX12_goOn_259 : decode cX12_goOn 259 = .ok (.bipush 6, 2) := by decide +kernel
theorem dX12_goOn_261 : decode cX12_goOn 261 = .ok (.iadd, 1) := by decide +kernel
theorem dX12_goOn_262 : decode cX12_goOn 262 = .ok (.iaload, 1) := by decide +kernel
theorem dX12_goOn_263 : decode cX12_goOn 263 = .ok (.invokevirtual 177, 3) := by decide +kernel
theorem dX12_goOn_266 : decode cX12_goOn 266 = .ok (.iinc 3 1, 3) := by decide +kernel
theorem dX12_goOn_269 : decode cX12_goOn 269 = .ok (.goto (-54), 3) := by decide +kernel
theorem dX12_goOn_272 : decode cX12_goOn 272 = .ok (.return_, 1) := by decide +kernel
theorem dX12_pass_0 : decode cX12_pass 0 = .ok (.aload_n 0, 1) := by decide +kernel
theorem dX12_pass_1 : decode cX12_pass 1 = .ok (.iconst 0, 1) := by decide +kernel
theorem dX12_pass_2 : decode cX12_pass 2 = .ok (.putfield 100, 3) := by decide +kernel
theorem dX12_pass_5 : decode cX12_pass 5 = .ok (.iload_n 1, 1) := by decide +kernel
theorem dX12_pass_6 : decode cX12_pass 6 = .ok (.i2l, 1) := by decide +kernel
theorem dX12_pass_7 : decode cX12_pass 7 = .ok (.lconst 1, 1) := by decide +kernel
theorem dX12_pass_8 : decode cX12_pass 8 = .ok (.ldc2_w 129, 3) := by decide +kernel
theorem dX12_pass_11 : decode cX12_pass 11 = .ok (.invokestatic 103, 3) := by decide +kernel
theorem dX12_pass_14 : decode cX12_pass 14 = .ok (.ifCond .ne 6, 3) := by decide +kernel
theorem dX12_pass_17 : decode cX12_pass 17 = .ok (.bipush (-2), 2) := by decide +kernel
theorem dX12_pass_19 : decode cX12_pass 19 = .ok (.ireturn, 1) := by decide +kernel
theorem dX12_pass_20 : decode cX12_pass 20 = .ok (.aload_n 0, 1) := by decide +kernel
theorem dX12_pass_21 : decode cX12_pass 21 = .ok (.getfield 141, 3) := by decide +kernel
theorem dX12_pass_24 : decode cX12_pass 24 = .ok (.iload_n 1, 1) := by decide +kernel
theorem dX12_pass_25 : decode cX12_pass 25 = .ok (.iadd, 1) := by decide +kernel
theorem dX12_pass_26 : decode cX12_pass 26 = .ok (.sipush 899, 3) := by decide +kernel
theorem dX12_pass_29 : decode cX12_pass 29 = .ok (.if_icmp .le 6, 3) := by decide +kernel
theorem dX12_pass_32 : decode cX12_pass 32 = .ok (.bipush (-4), 2) := by decide +kernel
theorem dX12_pass_34 : decode cX12_pass 34 = .ok (.ireturn, 1) := by decide +kernel
theorem dX12_pass_35 : decode cX12_pass 35 = .ok (.aload_n 0, 1) := by decide +kernel
theorem dX12_pass_36 : decode cX12_pass 36 = .ok (.invokevirtual 124, 3) := by decide +kernel
theorem dX12_pass_39 : decode cX12_pass 39 = .ok (.iconst 0, 1) := by decide +kernel
theorem dX12_pass_40 : decode cX12_pass 40 = .ok (.istore_n 2, 1) := by decide +kernel
theorem dX12_pass_41 : decode cX12_pass 41 = .ok (.iload_n 2, 1) := by decide +kernel
theorem dX12_pass_42 : decode cX12_pass 42 = .ok (.iload_n 1, 1) := by decide +kernel
theorem dX12_pass_43 : decode cX12_pass 43 = .ok (.if_icmp .ge 13, 3) := by decide +kernel
theorem dX12_pass_46 : decode cX12_pass 46 = .ok (.aload_n 0, 1) := by decide +kernel
theorem dX12_pass_47 : decode cX12_pass 47 = .ok (.invokevirtual 181, 3) := by decide +kernel
theorem dX12_pass_50 : decode cX12_pass 50 = .ok (.iinc 2 1, 3) := by decide +kernel
theorem dX12_pass_53 : decode cX12_pass 53 = .ok (.goto (-12), 3) := by decide +kernel
theorem dX12_pass_56 : decode cX12_pass 56 = .ok (.aload_n 0, 1) := by decide +kernel
theorem dX12_pass_57 : decode cX12_pass 57 = .ok (.getfield 141, 3) := by decide +kernel
theorem dX12_pass_60 : decode cX12_pass 60 = .ok (.ireturn, 1) := by decide +kernel
theorem dX12_walk_0 : decode cX12_walk 0 = .ok (.aload_n 0, 1) := by decide +kernel
theorem dX12_walk_1 : decode cX12_walk 1 = .ok (.iconst 0, 1) := by decide +kernel
theorem dX12_walk_2 : decode cX12_walk 2 = .ok (.putfield 100, 3) := by decide +kernel
theorem dX12_walk_5 : decode cX12_walk 5 = .ok (.aload_n 0, 1) := by decide +kernel
theorem dX12_walk_6 : decode cX12_walk 6 = .ok (.iload_n 1, 1) := by decide +kernel
theorem dX12_walk_7 : decode cX12_walk 7 = .ok (.invokevirtual 144, 3) := by decide +kernel
theorem dX12_walk_10 : decode cX12_walk 10 = .ok (.ifCond .ne 11, 3) := by decide +kernel
theorem dX12_walk_13 : decode cX12_walk 13 = .ok (.aload_n 0, 1) := by decide +kernel
theorem dX12_walk_14 : decode cX12_walk 14 = .ok (.iload_n 2, 1) := by decide +kernel
theorem dX12_walk_15 : decode cX12_walk 15 = .ok (.invokevirtual 120, 3) := by decide +kernel
theorem dX12_walk_18 : decode cX12_walk 18 = .ok (.ifCond .eq 5, 3) := by decide +kernel
theorem dX12_walk_21 : decode cX12_walk 21 = .ok (.iconst (-1), 1) := by decide +kernel
theorem dX12_walk_22 : decode cX12_walk 22 = .ok (.ireturn, 1) := by decide +kernel
theorem dX12_walk_23 : decode cX12_walk 23 = .ok (.aload_n 0, 1) := by decide +kernel
theorem dX12_walk_24 : decode cX12_walk 24 = .ok (.iload_n 1, 1) := by decide +kernel
theorem dX12_walk_25 : decode cX12_walk 25 = .ok (.invokevirtual 154, 3) := by decide +kernel
theorem dX12_walk_28 : decode cX12_walk 28 = .ok (.istore_n 3, 1) := by decide +kernel
theorem dX12_walk_29 : decode cX12_walk 29 = .ok (.iload_n 3, 1) := by decide +kernel
theorem dX12_walk_30 : decode cX12_walk 30 = .ok (.invokestatic 171, 3) := by decide +kernel
theorem dX12_walk_33 : decode cX12_walk 33 = .ok (.ifCond .ne 12, 3) := by decide +kernel
theorem dX12_walk_36 : decode cX12_walk 36 = .ok (.iload_n 3, 1) := by decide +kernel
theorem dX12_walk_37 : decode cX12_walk 37 = .ok (.bipush 22, 2) := by decide +kernel
theorem dX12_walk_39 : decode cX12_walk 39 = .ok (.if_icmp .eq 6, 3) := by decide +kernel
theorem dX12_walk_42 : decode cX12_walk 42 = .ok (.bipush (-3), 2) := by decide +kernel
theorem dX12_walk_44 : decode cX12_walk 44 = .ok (.ireturn, 1) := by decide +kernel
theorem dX12_walk_45 : decode cX12_walk 45 = .ok (.aload_n 0, 1) := by decide +kernel
theorem dX12_walk_46 : decode cX12_walk 46 = .ok (.iload_n 1, 1) := by decide +kernel
theorem dX12_walk_47 : decode cX12_walk 47 = .ok (.iload_n 2, 1) := by decide +kernel
theorem dX12_walk_48 : decode cX12_walk 48 = .ok (.invokevirtual 177, 3) := by decide +kernel
theorem dX12_walk_51 : decode cX12_walk 51 = .ok (.iload_n 3, 1) := by decide +kernel
theorem dX12_walk_52 : decode cX12_walk 52 = .ok (.ireturn, 1) := by decide +kernel
theorem dX12_run_0 : decode cX12_run 0 = .ok (.aload_n 0, 1) := by decide +kernel
theorem dX12_run_1 : decode cX12_run 1 = .ok (.iconst 0, 1) := by decide +kernel
theorem dX12_run_2 : decode cX12_run 2 = .ok (.putfield 100, 3) := by decide +kernel
theorem dX12_run_5 : decode cX12_run 5 = .ok (.aload_n 0, 1) := by decide +kernel
theorem dX12_run_6 : decode cX12_run 6 = .ok (.iload_n 1, 1) := by decide +kernel
theorem dX12_run_7 : decode cX12_run 7 = .ok (.invokevirtual 144, 3) := by decide +kernel
theorem dX12_run_10 : decode cX12_run 10 = .ok (.ifCond .eq 5, 3) := by decide +kernel
theorem dX12_run_13 : decode cX12_run 13 = .ok (.iconst (-1), 1) := by decide +kernel
theorem dX12_run_14 : decode cX12_run 14 = .ok (.ireturn, 1) := by decide +kernel
theorem dX12_run_15 : decode cX12_run 15 = .ok (.aload_n 0, 1) := by decide +kernel
theorem dX12_run_16 : decode cX12_run 16 = .ok (.iload_n 1, 1) := by decide +kernel
theorem dX12_run_17 : decode cX12_run 17 = .ok (.invokevirtual 154, 3) := by decide +kernel
theorem dX12_run_20 : decode cX12_run 20 = .ok (.istore_n 2, 1) := by decide +kernel
theorem dX12_run_21 : decode cX12_run 21 = .ok (.iload_n 2, 1) := by decide +kernel
theorem dX12_run_22 : decode cX12_run 22 = .ok (.bipush 23, 2) := by decide +kernel
theorem dX12_run_24 : decode cX12_run 24 = .ok (.if_icmp .ne 6, 3) := by decide +kernel
theorem dX12_run_27 : decode cX12_run 27 = .ok (.bipush (-3), 2) := by decide +kernel
theorem dX12_run_29 : decode cX12_run 29 = .ok (.ireturn, 1) := by decide +kernel
theorem dX12_run_30 : decode cX12_run 30 = .ok (.aload_n 0, 1) := by decide +kernel
theorem dX12_run_31 : decode cX12_run 31 = .ok (.iload_n 1, 1) := by decide +kernel
theorem dX12_run_32 : decode cX12_run 32 = .ok (.bipush 23, 2) := by decide +kernel
theorem dX12_run_34 : decode cX12_run 34 = .ok (.invokevirtual 177, 3) := by decide +kernel
theorem dX12_run_37 : decode cX12_run 37 = .ok (.iload_n 2, 1) := by decide +kernel
theorem dX12_run_38 : decode cX12_run 38 = .ok (.ireturn, 1) := by decide +kernel
theorem dX12_badSpan_0 : decode cX12_badSpan 0 = .ok (.iload_n 0, 1) := by decide +kernel
theorem dX12_badSpan_1 : decode cX12_badSpan 1 = .ok (.i2l, 1) := by decide +kernel
theorem dX12_badSpan_2 : decode cX12_badSpan 2 = .ok (.lconst 0, 1) := by decide +kernel
theorem dX12_badSpan_3 : decode cX12_badSpan 3 = .ok (.iload_n 1, 1) := by decide +kernel
theorem dX12_badSpan_4 : decode cX12_badSpan 4 = .ok (.i2l, 1) := by decide +kernel
theorem dX12_badSpan_5 : decode cX12_badSpan 5 = .ok (.invokestatic 103, 3) := by decide +kernel
theorem dX12_badSpan_8 : decode cX12_badSpan 8 = .ok (.ifCond .eq 8, 3) := by decide +kernel
theorem dX12_badSpan_11 : decode cX12_badSpan 11 = .ok (.iload_n 1, 1) := by decide +kernel
theorem dX12_badSpan_12 : decode cX12_badSpan 12 = .ok (.iload_n 2, 1) := by decide +kernel
theorem dX12_badSpan_13 : decode cX12_badSpan 13 = .ok (.if_icmp .le 7, 3) := by decide +kernel
theorem dX12_badSpan_16 : decode cX12_badSpan 16 = .ok (.iconst 1, 1) := by decide +kernel
theorem dX12_badSpan_17 : decode cX12_badSpan 17 = .ok (.goto 4, 3) := by decide +kernel
theorem dX12_badSpan_20 : decode cX12_badSpan 20 = .ok (.iconst 0, 1) := by decide +kernel
theorem dX12_badSpan_21 : decode cX12_badSpan 21 = .ok (.ireturn, 1) := by decide +kernel
theorem dX12_badLook_0 : decode cX12_badLook 0 = .ok (.iload_n 0, 1) := by decide +kernel
theorem dX12_badLook_1 : decode cX12_badLook 1 = .ok (.bipush (-9), 2) := by decide +kernel
theorem dX12_badLook_3 : decode cX12_badLook 3 = .ok (.if_icmp .eq 19, 3) := by decide +kernel
theorem dX12_badLook_6 : decode cX12_badLook 6 = .ok (.iload_n 0, 1) := by decide +kernel
theorem dX12_badLook_7 : decode cX12_badLook 7 = .ok (.i2l, 1) := by decide +kernel
theorem dX12_badLook_8 : decode cX12_badLook 8 = .ok (.lconst 0, 1) := by decide +kernel
theorem dX12_badLook_9 : decode cX12_badLook 9 = .ok (.ldc2_w 131, 3) := by decide +kernel
theorem dX12_badLook_12 : decode cX12_badLook 12 = .ok (.invokestatic 103, 3) := by decide +kernel
theorem dX12_badLook_15 : decode cX12_badLook 15 = .ok (.ifCond .ne 7, 3) := by decide +kernel
theorem dX12_badLook_18 : decode cX12_badLook 18 = .ok (.iconst 1, 1) := by decide +kernel
theorem dX12_badLook_19 : decode cX12_badLook 19 = .ok (.goto 4, 3) := by decide +kernel
theorem dX12_badLook_22 : decode cX12_badLook 22 = .ok (.iconst 0, 1) := by decide +kernel
theorem dX12_badLook_23 : decode cX12_badLook 23 = .ok (.ireturn, 1) := by decide +kernel
theorem dX12_paper_0 : decode cX12_paper 0 = .ok (.aload_n 0, 1) := by decide +kernel
theorem dX12_paper_1 : decode cX12_paper 1 = .ok (.iconst 0, 1) := by decide +kernel
theorem dX12_paper_2 : decode cX12_paper 2 = .ok (.putfield 100, 3) := by decide +kernel
theorem dX12_paper_5 : decode cX12_paper 5 = .ok (.aload_n 0, 1) := by decide +kernel
theorem dX12_paper_6 : decode cX12_paper 6 = .ok (.iload_n 1, 1) := by decide +kernel
theorem dX12_paper_7 : decode cX12_paper 7 = .ok (.invokevirtual 144, 3) := by decide +kernel
theorem dX12_paper_10 : decode cX12_paper 10 = .ok (.ifCond .eq 5, 3) := by decide +kernel
theorem dX12_paper_13 : decode cX12_paper 13 = .ok (.iconst (-1), 1) := by decide +kernel
theorem dX12_paper_14 : decode cX12_paper 14 = .ok (.ireturn, 1) := by decide +kernel
theorem dX12_paper_15 : decode cX12_paper 15 = .ok (.iload_n 2, 1) := by decide +kernel
theorem dX12_paper_16 : decode cX12_paper 16 = .ok (.invokestatic 184, 3) := by decide +kernel
theorem dX12_paper_19 : decode cX12_paper 19 = .ok (.ifCond .ne 47, 3) := by decide +kernel
theorem dX12_paper_22 : decode cX12_paper 22 = .ok (.iload_n 3, 1) := by decide +kernel
theorem dX12_paper_23 : decode cX12_paper 23 = .ok (.invokestatic 184, 3) := by decide +kernel
theorem dX12_paper_26 : decode cX12_paper 26 = .ok (.ifCond .ne 40, 3) := by decide +kernel
theorem dX12_paper_29 : decode cX12_paper 29 = .ok (.iload 4, 2) := by decide +kernel
theorem dX12_paper_31 : decode cX12_paper 31 = .ok (.iload 5, 2) := by decide +kernel
theorem dX12_paper_33 : decode cX12_paper 33 = .ok (.bipush 99, 2) := by decide +kernel
theorem dX12_paper_35 : decode cX12_paper 35 = .ok (.invokestatic 187, 3) := by decide +kernel
theorem dX12_paper_38 : decode cX12_paper 38 = .ok (.ifCond .ne 28, 3) := by decide +kernel
theorem dX12_paper_41 : decode cX12_paper 41 = .ok (.iload 6, 2) := by decide +kernel
theorem dX12_paper_43 : decode cX12_paper 43 = .ok (.iload 7, 2) := by decide +kernel
theorem dX12_paper_45 : decode cX12_paper 45 = .ok (.bipush 99, 2) := by decide +kernel
theorem dX12_paper_47 : decode cX12_paper 47 = .ok (.invokestatic 187, 3) := by decide +kernel
theorem dX12_paper_50 : decode cX12_paper 50 = .ok (.ifCond .ne 16, 3) := by decide +kernel
theorem dX12_paper_53 : decode cX12_paper 53 = .ok (.iload 8, 2) := by decide +kernel
theorem dX12_paper_55 : decode cX12_paper 55 = .ok (.iload 9, 2) := by decide +kernel
theorem dX12_paper_57 : decode cX12_paper 57 = .ok (.sipush 899, 3) := by decide +kernel
theorem dX12_paper_60 : decode cX12_paper 60 = .ok (.invokestatic 187, 3) := by decide +kernel
theorem dX12_paper_63 : decode cX12_paper 63 = .ok (.ifCond .eq 6, 3) := by decide +kernel
theorem dX12_paper_66 : decode cX12_paper 66 = .ok (.bipush (-2), 2) := by decide +kernel
theorem dX12_paper_68 : decode cX12_paper 68 = .ok (.ireturn, 1) := by decide +kernel
theorem dX12_paper_69 : decode cX12_paper 69 = .ok (.aload_n 0, 1) := by decide +kernel
theorem dX12_paper_70 : decode cX12_paper 70 = .ok (.getfield 113, 3) := by decide +kernel
theorem dX12_paper_73 : decode cX12_paper 73 = .ok (.bipush 60, 2) := by decide +kernel
theorem dX12_paper_75 : decode cX12_paper 75 = .ok (.if_icmp .ne 6, 3) := by decide +kernel
theorem dX12_paper_78 : decode cX12_paper 78 = .ok (.bipush (-4), 2) := by decide +kernel
theorem dX12_paper_80 : decode cX12_paper 80 = .ok (.ireturn, 1) := by decide +kernel
theorem dX12_paper_81 : decode cX12_paper 81 = .ok (.bipush 9, 2) := by decide +kernel
theorem dX12_paper_83 : decode cX12_paper 83 = .ok (.aload_n 0, 1) := by decide +kernel
theorem dX12_paper_84 : decode cX12_paper 84 = .ok (.getfield 113, 3) := by decide +kernel
theorem dX12_paper_87 : decode cX12_paper 87 = .ok (.imul, 1) := by decide +kernel
theorem dX12_paper_88 : decode cX12_paper 88 = .ok (.istore 10, 2) := by decide +kernel
theorem dX12_paper_90 : decode cX12_paper 90 = .ok (.aload_n 0, 1) := by decide +kernel
theorem dX12_paper_91 : decode cX12_paper 91 = .ok (.getfield 46, 3) := by decide +kernel
theorem dX12_paper_94 : decode cX12_paper 94 = .ok (.iload 10, 2) := by decide +kernel
theorem dX12_paper_96 : decode cX12_paper 96 = .ok (.iload_n 1, 1) := by decide +kernel
theorem dX12_paper_97 : decode cX12_paper 97 = .ok (.iastore, 1) := by decide +kernel
theorem dX12_paper_98 : decode cX12_paper 98 = .ok (.aload_n 0, 1) := by decide +kernel
theorem dX12_paper_99 : decode cX12_paper 99 = .ok (.getfield 46, 3) := by decide +kernel
theorem dX12_paper_102 : decode cX12_paper 102 = .ok (.iload 10, 2) := by decide +kernel
theorem dX12_paper_104 : decode cX12_paper 104 = .ok (.iconst 1, 1) := by decide +kernel
theorem dX12_paper_105 : decode cX12_paper 105 = .ok (.iadd, 1) := by decide +kernel
theorem dX12_paper_106 : decode cX12_paper 106 = .ok (.iload_n 2, 1) := by decide +kernel
theorem dX12_paper_107 : decode cX12_paper 107 = .ok (.iastore, 1) := by decide +kernel
theorem dX12_paper_108 : decode cX12_paper 108 = .ok (.aload_n 0, 1) := by decide +kernel
theorem dX12_paper_109 : decode cX12_paper 109 = .ok (.getfield 46, 3) := by decide +kernel
theorem dX12_paper_112 : decode cX12_paper 112 = .ok (.iload 10, 2) := by decide +kernel
theorem dX12_paper_114 : decode cX12_paper 114 = .ok (.iconst 2, 1) := by decide +kernel
theorem dX12_paper_115 : decode cX12_paper 115 = .ok (.iadd, 1) := by decide +kernel
theorem dX12_paper_116 : decode cX12_paper 116 = .ok (.iload_n 3, 1) := by decide +kernel
theorem dX12_paper_117 : decode cX12_paper 117 = .ok (.iastore, 1) := by decide +kernel
theorem dX12_paper_118 : decode cX12_paper 118 = .ok (.aload_n 0, 1) := by decide +kernel
theorem dX12_paper_119 : decode cX12_paper 119 = .ok (.getfield 46, 3) := by decide +kernel
theorem dX12_paper_122 : decode cX12_paper 122 = .ok (.iload 10, 2) := by decide +kernel
theorem dX12_paper_124 : decode cX12_paper 124 = .ok (.iconst 3, 1) := by decide +kernel
theorem dX12_paper_125 : decode cX12_paper 125 = .ok (.iadd, 1) := by decide +kernel
theorem dX12_paper_126 : decode cX12_paper 126 = .ok (.iload 4, 2) := by decide +kernel
theorem dX12_paper_128 : decode cX12_paper 128 = .ok (.iastore, 1) := by decide +kernel
theorem dX12_paper_129 : decode cX12_paper 129 = .ok (.aload_n 0, 1) := by decide +kernel
theorem dX12_paper_130 : decode cX12_paper 130 = .ok (.getfield 46, 3) := by decide +kernel
theorem dX12_paper_133 : decode cX12_paper 133 = .ok (.iload 10, 2) := by decide +kernel
theorem dX12_paper_135 : decode cX12_paper 135 = .ok (.iconst 4, 1) := by decide +kernel
theorem dX12_paper_136 : decode cX12_paper 136 = .ok (.iadd, 1) := by decide +kernel
theorem dX12_paper_137 : decode cX12_paper 137 = .ok (.iload 5, 2) := by decide +kernel
theorem dX12_paper_139 : decode cX12_paper 139 = .ok (.iastore, 1) := by decide +kernel
theorem dX12_paper_140 : decode cX12_paper 140 = .ok (.aload_n 0, 1) := by decide +kernel
theorem dX12_paper_141 : decode cX12_paper 141 = .ok (.getfield 46, 3) := by decide +kernel
theorem dX12_paper_144 : decode cX12_paper 144 = .ok (.iload 10, 2) := by decide +kernel
theorem dX12_paper_146 : decode cX12_paper 146 = .ok (.iconst 5, 1) := by decide +kernel
theorem dX12_paper_147 : decode cX12_paper 147 = .ok (.iadd, 1) := by decide +kernel
theorem dX12_paper_148 : decode cX12_paper 148 = .ok (.iload 6, 2) := by decide +kernel
theorem dX12_paper_150 : decode cX12_paper 150 = .ok (.iastore, 1) := by decide +kernel
theorem dX12_paper_151 : decode cX12_paper 151 = .ok (.aload_n 0, 1) := by decide +kernel
theorem dX12_paper_152 : decode cX12_paper 152 = .ok (.getfield 46, 3) := by decide +kernel
theorem dX12_paper_155 : decode cX12_paper 155 = .ok (.iload 10, 2) := by decide +kernel
theorem dX12_paper_157 : decode cX12_paper 157 = .ok (.bipush 6, 2) := by decide +kernel
theorem dX12_paper_159 : decode cX12_paper 159 = .ok (.iadd, 1) := by decide +kernel
theorem dX12_paper_160 : decode cX12_paper 160 = .ok (.iload 7, 2) := by decide +kernel
theorem dX12_paper_162 : decode cX12_paper 162 = .ok (.iastore, 1) := by decide +kernel
theorem dX12_paper_163 : decode cX12_paper 163 = .ok (.aload_n 0, 1) := by decide +kernel
theorem dX12_paper_164 : decode cX12_paper 164 = .ok (.getfield 46, 3) := by decide +kernel
theorem dX12_paper_167 : decode cX12_paper 167 = .ok (.iload 10, 2) := by decide +kernel
theorem dX12_paper_169 : decode cX12_paper 169 = .ok (.bipush 7, 2) := by decide +kernel
theorem dX12_paper_171 : decode cX12_paper 171 = .ok (.iadd, 1) := by decide +kernel
theorem dX12_paper_172 : decode cX12_paper 172 = .ok (.iload 8, 2) := by decide +kernel
theorem dX12_paper_174 : decode cX12_paper 174 = .ok (.iastore, 1) := by decide +kernel
theorem dX12_paper_175 : decode cX12_paper 175 = .ok (.aload_n 0, 1) := by decide +kernel
theorem dX12_paper_176 : decode cX12_paper 176 = .ok (.getfield 46, 3) := by decide +kernel
theorem dX12_paper_179 : decode cX12_paper 179 = .ok (.iload 10, 2) := by decide +kernel
theorem dX12_paper_181 : decode cX12_paper 181 = .ok (.bipush 8, 2) := by decide +kernel
theorem dX12_paper_183 : decode cX12_paper 183 = .ok (.iadd, 1) := by decide +kernel
theorem dX12_paper_184 : decode cX12_paper 184 = .ok (.iload 9, 2) := by decide +kernel
theorem dX12_paper_186 : decode cX12_paper 186 = .ok (.iastore, 1) := by decide +kernel
theorem dX12_paper_187 : decode cX12_paper 187 = .ok (.aload_n 0, 1) := by decide +kernel
theorem dX12_paper_188 : decode cX12_paper 188 = .ok (.dup, 1) := by decide +kernel
theorem dX12_paper_189 : decode cX12_paper 189 = .ok (.getfield 113, 3) := by decide +kernel
theorem dX12_paper_192 : decode cX12_paper 192 = .ok (.iconst 1, 1) := by decide +kernel
theorem dX12_paper_193 : decode cX12_paper 193 = .ok (.iadd, 1) := by decide +kernel
theorem dX12_paper_194 : decode cX12_paper 194 = .ok (.putfield 113, 3) := by decide +kernel
theorem dX12_paper_197 : decode cX12_paper 197 = .ok (.aload_n 0, 1) := by decide +kernel
theorem dX12_paper_198 : decode cX12_paper 198 = .ok (.getfield 113, 3) := by decide +kernel
theorem dX12_paper_201 : decode cX12_paper 201 = .ok (.iconst 1, 1) := by decide +kernel
theorem dX12_paper_202 : decode cX12_paper 202 = .ok (.isub, 1) := by decide +kernel
theorem dX12_paper_203 : decode cX12_paper 203 = .ok (.ireturn, 1) := by decide +kernel
theorem dX12_covers_0 : decode cX12_covers 0 = .ok (.bipush 9, 2) := by decide +kernel
theorem dX12_covers_2 : decode cX12_covers 2 = .ok (.iload_n 1, 1) := by decide +kernel
theorem dX12_covers_3 : decode cX12_covers 3 = .ok (.imul, 1) := by decide +kernel
theorem dX12_covers_4 : decode cX12_covers 4 = .ok (.istore 4, 2) := by decide +kernel
theorem dX12_covers_6 : decode cX12_covers 6 = .ok (.bipush 8, 2) := by decide +kernel
theorem dX12_covers_8 : decode cX12_covers 8 = .ok (.iload_n 2, 1) := by decide +kernel
theorem dX12_covers_9 : decode cX12_covers 9 = .ok (.imul, 1) := by decide +kernel
theorem dX12_covers_10 : decode cX12_covers 10 = .ok (.istore 5, 2) := by decide +kernel
theorem dX12_covers_12 : decode cX12_covers 12 = .ok (.aload_n 0, 1) := by decide +kernel
theorem dX12_covers_13 : decode cX12_covers 13 = .ok (.getfield 46, 3) := by decide +kernel
theorem dX12_covers_16 : decode cX12_covers 16 = .ok (.iload 4, 2) := by decide +kernel
theorem dX12_covers_18 : decode cX12_covers 18 = .ok (.iconst 1, 1) := by decide +kernel
theorem dX12_covers_19 : decode cX12_covers 19 = .ok (.iadd, 1) := by decide +kernel
theorem dX12_covers_20 : decode cX12_covers 20 = .ok (.iaload, 1) := by decide +kernel
theorem dX12_covers_21 : decode cX12_covers 21 = .ok (.bipush (-9), 2) := by decide +kernel
theorem dX12_covers_23 : decode cX12_covers 23 = .ok (.if_icmp .eq 24, 3) := by decide +kernel
theorem dX12_covers_26 : decode cX12_covers 26 = .ok (.aload_n 0, 1) := by decide +kernel
theorem dX12_covers_27 : decode cX12_covers 27 = .ok (.getfield 46, 3) := by decide +kernel
theorem dX12_covers_30 : decode cX12_covers 30 = .ok (.iload 4, 2) := by decide +kernel
theorem dX12_covers_32 : decode cX12_covers 32 = .ok (.iconst 1, 1) := by decide +kernel
theorem dX12_covers_33 : decode cX12_covers 33 = .ok (.iadd, 1) := by decide +kernel
theorem dX12_covers_34 : decode cX12_covers 34 = .ok (.iaload, 1) := by decide +kernel
theorem dX12_covers_35 : decode cX12_covers 35 = .ok (.aload_n 0, 1) := by decide +kernel
theorem dX12_covers_36 : decode cX12_covers 36 = .ok (.getfield 21, 3) := by decide +kernel
theorem dX12_covers_39 : decode cX12_covers 39 = .ok (.iload 5, 2) := by decide +kernel
theorem dX12_covers_41 : decode cX12_covers 41 = .ok (.iconst 1, 1) := by decide +kernel
theorem dX12_covers_42 : decode cX12_covers 42 = .ok (.iadd, 1) := by decide +kernel
theorem dX12_covers_43 : decode cX12_covers 43 = .ok (.iaload, 1) := by decide +kernel
theorem dX12_covers_44 : decode cX12_covers 44 = .ok (.if_icmp .ne 42, 3) := by decide +kernel
theorem dX12_covers_47 : decode cX12_covers 47 = .ok (.aload_n 0, 1) := by decide +kernel
theorem dX12_covers_48 : decode cX12_covers 48 = .ok (.getfield 46, 3) := by decide +kernel
theorem dX12_covers_51 : decode cX12_covers 51 = .ok (.iload 4, 2) := by decide +kernel
theorem dX12_covers_53 : decode cX12_covers 53 = .ok (.iconst 2, 1) := by decide +kernel
theorem dX12_covers_54 : decode cX12_covers 54 = .ok (.iadd, 1) := by decide +kernel
theorem dX12_covers_55 : decode cX12_covers 55 = .ok (.iaload, 1) := by decide +kernel
theorem dX12_covers_56 : decode cX12_covers 56 = .ok (.bipush (-9), 2) := by decide +kernel
theorem dX12_covers_58 : decode cX12_covers 58 = .ok (.if_icmp .eq 24, 3) := by decide +kernel
theorem dX12_covers_61 : decode cX12_covers 61 = .ok (.aload_n 0, 1) := by decide +kernel
theorem dX12_covers_62 : decode cX12_covers 62 = .ok (.getfield 46, 3) := by decide +kernel
theorem dX12_covers_65 : decode cX12_covers 65 = .ok (.iload 4, 2) := by decide +kernel
theorem dX12_covers_67 : decode cX12_covers 67 = .ok (.iconst 2, 1) := by decide +kernel
theorem dX12_covers_68 : decode cX12_covers 68 = .ok (.iadd, 1) := by decide +kernel
theorem dX12_covers_69 : decode cX12_covers 69 = .ok (.iaload, 1) := by decide +kernel
theorem dX12_covers_70 : decode cX12_covers 70 = .ok (.aload_n 0, 1) := by decide +kernel
theorem dX12_covers_71 : decode cX12_covers 71 = .ok (.getfield 21, 3) := by decide +kernel
theorem dX12_covers_74 : decode cX12_covers 74 = .ok (.iload 5, 2) := by decide +kernel
theorem dX12_covers_76 : decode cX12_covers 76 = .ok (.iconst 2, 1) := by decide +kernel
theorem dX12_covers_77 : decode cX12_covers 77 = .ok (.iadd, 1) := by decide +kernel
theorem dX12_covers_78 : decode cX12_covers 78 = .ok (.iaload, 1) := by decide +kernel
theorem dX12_covers_79 : decode cX12_covers 79 = .ok (.if_icmp .ne 7, 3) := by decide +kernel
theorem dX12_covers_82 : decode cX12_covers 82 = .ok (.iconst 1, 1) := by decide +kernel
theorem dX12_covers_83 : decode cX12_covers 83 = .ok (.goto 4, 3) := by decide +kernel
theorem dX12_covers_86 : decode cX12_covers 86 = .ok (.iconst 0, 1) := by decide +kernel
theorem dX12_covers_87 : decode cX12_covers 87 = .ok (.istore 6, 2) := by decide +kernel
theorem dX12_covers_89 : decode cX12_covers 89 = .ok (.iload 6, 2) := by decide +kernel
theorem dX12_covers_91 : decode cX12_covers 91 = .ok (.ifCond .eq 108, 3) := by decide +kernel
theorem dX12_covers_94 : decode cX12_covers 94 = .ok (.iload_n 3, 1) := by decide +kernel
theorem dX12_covers_95 : decode cX12_covers 95 = .ok (.i2l, 1) := by decide +kernel
theorem dX12_covers_96 : decode cX12_covers 96 = .ok (.aload_n 0, 1) := by decide +kernel
theorem dX12_covers_97 : decode cX12_covers 97 = .ok (.getfield 46, 3) := by decide +kernel
theorem dX12_covers_100 : decode cX12_covers 100 = .ok (.iload 4, 2) := by decide +kernel
theorem dX12_covers_102 : decode cX12_covers 102 = .ok (.bipush 7, 2) := by decide +kernel
theorem dX12_covers_104 : decode cX12_covers 104 = .ok (.iadd, 1) := by decide +kernel
theorem dX12_covers_105 : decode cX12_covers 105 = .ok (.iaload, 1) := by decide +kernel
theorem dX12_covers_106 : decode cX12_covers 106 = .ok (.i2l, 1) := by decide +kernel
theorem dX12_covers_107 : decode cX12_covers 107 = .ok (.aload_n 0, 1) := by decide +kernel
theorem dX12_covers_108 : decode cX12_covers 108 = .ok (.getfield 46, 3) := by decide +kernel
theorem dX12_covers_111 : decode cX12_covers 111 = .ok (.iload 4, 2) := by decide +kernel
theorem dX12_covers_113 : decode cX12_covers 113 = .ok (.bipush 8, 2) := by decide +kernel
theorem dX12_covers_115 : decode cX12_covers 115 = .ok (.iadd, 1) := by decide +kernel
theorem dX12_covers_116 : decode cX12_covers 116 = .ok (.iaload, 1) := by decide +kernel
theorem dX12_covers_117 : decode cX12_covers 117 = .ok (.i2l, 1) := by decide +kernel
theorem dX12_covers_118 : decode cX12_covers 118 = .ok (.invokestatic 103, 3) := by decide +kernel
theorem dX12_covers_121 : decode cX12_covers 121 = .ok (.ifCond .eq 78, 3) := by decide +kernel
theorem dX12_covers_124 : decode cX12_covers 124 = .ok (.aload_n 0, 1) := by decide +kernel
theorem dX12_covers_125 : decode cX12_covers 125 = .ok (.getfield 21, 3) := by decide +kernel
theorem dX12_covers_128 : decode cX12_covers 128 = .ok (.iload 5, 2) := by decide +kernel
theorem dX12_covers_130 : decode cX12_covers 130 = .ok (.iaload, 1) := by decide +kernel
theorem dX12_covers_131 : decode cX12_covers 131 = .ok (.i2l, 1) := by decide +kernel
theorem dX12_covers_132 : decode cX12_covers 132 = .ok (.aload_n 0, 1) := by decide +kernel
theorem dX12_covers_133 : decode cX12_covers 133 = .ok (.getfield 46, 3) := by decide +kernel
theorem dX12_covers_136 : decode cX12_covers 136 = .ok (.iload 4, 2) := by decide +kernel
theorem dX12_covers_138 : decode cX12_covers 138 = .ok (.iconst 3, 1) := by decide +kernel
theorem dX12_covers_139 : decode cX12_covers 139 = .ok (.iadd, 1) := by decide +kernel
theorem dX12_covers_140 : decode cX12_covers 140 = .ok (.iaload, 1) := by decide +kernel
theorem dX12_covers_141 : decode cX12_covers 141 = .ok (.i2l, 1) := by decide +kernel
theorem dX12_covers_142 : decode cX12_covers 142 = .ok (.aload_n 0, 1) := by decide +kernel
theorem dX12_covers_143 : decode cX12_covers 143 = .ok (.getfield 46, 3) := by decide +kernel
theorem dX12_covers_146 : decode cX12_covers 146 = .ok (.iload 4, 2) := by decide +kernel
theorem dX12_covers_148 : decode cX12_covers 148 = .ok (.iconst 4, 1) := by decide +kernel
theorem dX12_covers_149 : decode cX12_covers 149 = .ok (.iadd, 1) := by decide +kernel
theorem dX12_covers_150 : decode cX12_covers 150 = .ok (.iaload, 1) := by decide +kernel
theorem dX12_covers_151 : decode cX12_covers 151 = .ok (.i2l, 1) := by decide +kernel
theorem dX12_covers_152 : decode cX12_covers 152 = .ok (.invokestatic 103, 3) := by decide +kernel
theorem dX12_covers_155 : decode cX12_covers 155 = .ok (.ifCond .eq 44, 3) := by decide +kernel
theorem dX12_covers_158 : decode cX12_covers 158 = .ok (.aload_n 0, 1) := by decide +kernel
theorem dX12_covers_159 : decode cX12_covers 159 = .ok (.getfield 21, 3) := by decide +kernel
theorem dX12_covers_162 : decode cX12_covers 162 = .ok (.iload 5, 2) := by decide +kernel
theorem dX12_covers_164 : decode cX12_covers 164 = .ok (.iconst 3, 1) := by decide +kernel
theorem dX12_covers_165 : decode cX12_covers 165 = .ok (.iadd, 1) := by decide +kernel
theorem dX12_covers_166 : decode cX12_covers 166 = .ok (.iaload, 1) := by decide +kernel
theorem dX12_covers_167 : decode cX12_covers 167 = .ok (.i2l, 1) := by decide +kernel
theorem dX12_covers_168 : decode cX12_covers 168 = .ok (.aload_n 0, 1) := by decide +kernel
theorem dX12_covers_169 : decode cX12_covers 169 = .ok (.getfield 46, 3) := by decide +kernel
theorem dX12_covers_172 : decode cX12_covers 172 = .ok (.iload 4, 2) := by decide +kernel
theorem dX12_covers_174 : decode cX12_covers 174 = .ok (.iconst 5, 1) := by decide +kernel
theorem dX12_covers_175 : decode cX12_covers 175 = .ok (.iadd, 1) := by decide +kernel
theorem dX12_covers_176 : decode cX12_covers 176 = .ok (.iaload, 1) := by decide +kernel
theorem dX12_covers_177 : decode cX12_covers 177 = .ok (.i2l, 1) := by decide +kernel
theorem dX12_covers_178 : decode cX12_covers 178 = .ok (.aload_n 0, 1) := by decide +kernel
theorem dX12_covers_179 : decode cX12_covers 179 = .ok (.getfield 46, 3) := by decide +kernel
theorem dX12_covers_182 : decode cX12_covers 182 = .ok (.iload 4, 2) := by decide +kernel
theorem dX12_covers_184 : decode cX12_covers 184 = .ok (.bipush 6, 2) := by decide +kernel
theorem dX12_covers_186 : decode cX12_covers 186 = .ok (.iadd, 1) := by decide +kernel
theorem dX12_covers_187 : decode cX12_covers 187 = .ok (.iaload, 1) := by decide +kernel
theorem dX12_covers_188 : decode cX12_covers 188 = .ok (.i2l, 1) := by decide +kernel
theorem dX12_covers_189 : decode cX12_covers 189 = .ok (.invokestatic 103, 3) := by decide +kernel
theorem dX12_covers_192 : decode cX12_covers 192 = .ok (.ifCond .eq 7, 3) := by decide +kernel
theorem dX12_covers_195 : decode cX12_covers 195 = .ok (.iconst 1, 1) := by decide +kernel
theorem dX12_covers_196 : decode cX12_covers 196 = .ok (.goto 4, 3) := by decide +kernel
theorem dX12_covers_199 : decode cX12_covers 199 = .ok (.iconst 0, 1) := by decide +kernel
theorem dX12_covers_200 : decode cX12_covers 200 = .ok (.istore 7, 2) := by decide +kernel
theorem dX12_covers_202 : decode cX12_covers 202 = .ok (.aload_n 0, 1) := by decide +kernel
theorem dX12_covers_203 : decode cX12_covers 203 = .ok (.getfield 46, 3) := by decide +kernel
theorem dX12_covers_206 : decode cX12_covers 206 = .ok (.iload 4, 2) := by decide +kernel
theorem dX12_covers_208 : decode cX12_covers 208 = .ok (.iconst 1, 1) := by decide +kernel
theorem dX12_covers_209 : decode cX12_covers 209 = .ok (.iadd, 1) := by decide +kernel
theorem dX12_covers_210 : decode cX12_covers 210 = .ok (.iaload, 1) := by decide +kernel
theorem dX12_covers_211 : decode cX12_covers 211 = .ok (.bipush (-9), 2) := by decide +kernel
theorem dX12_covers_213 : decode cX12_covers 213 = .ok (.if_icmp .eq 68, 3) := by decide +kernel
theorem dX12_covers_216 : decode cX12_covers 216 = .ok (.aload_n 0, 1) := by decide +kernel
theorem dX12_covers_217 : decode cX12_covers 217 = .ok (.getfield 46, 3) := by decide +kernel
theorem dX12_covers_220 : decode cX12_covers 220 = .ok (.iload 4, 2) := by decide +kernel
theorem dX12_covers_222 : decode cX12_covers 222 = .ok (.iconst 2, 1) := by decide +kernel
theorem dX12_covers_223 : decode cX12_covers 223 = .ok (.iadd, 1) := by decide +kernel
theorem dX12_covers_224 : decode cX12_covers 224 = .ok (.iaload, 1) := by decide +kernel
theorem dX12_covers_225 : decode cX12_covers 225 = .ok (.bipush (-9), 2) := by decide +kernel
theorem dX12_covers_227 : decode cX12_covers 227 = .ok (.if_icmp .eq 54, 3) := by decide +kernel
theorem dX12_covers_230 : decode cX12_covers 230 = .ok (.aload_n 0, 1) := by decide +kernel
theorem dX12_covers_231 : decode cX12_covers 231 = .ok (.getfield 46, 3) := by decide +kernel
theorem dX12_covers_234 : decode cX12_covers 234 = .ok (.iload 4, 2) := by decide +kernel
theorem dX12_covers_236 : decode cX12_covers 236 = .ok (.iconst 4, 1) := by decide +kernel
theorem dX12_covers_237 : decode cX12_covers 237 = .ok (.iadd, 1) := by decide +kernel
theorem dX12_covers_238 : decode cX12_covers 238 = .ok (.iaload, 1) := by decide +kernel
theorem dX12_covers_239 : decode cX12_covers 239 = .ok (.aload_n 0, 1) := by decide +kernel
theorem dX12_covers_240 : decode cX12_covers 240 = .ok (.getfield 46, 3) := by decide +kernel
theorem dX12_covers_243 : decode cX12_covers 243 = .ok (.iload 4, 2) := by decide +kernel
theorem dX12_covers_245 : decode cX12_covers 245 = .ok (.iconst 3, 1) := by decide +kernel
theorem dX12_covers_246 : decode cX12_covers 246 = .ok (.iadd, 1) := by decide +kernel
theorem dX12_covers_247 : decode cX12_covers 247 = .ok (.iaload, 1) := by decide +kernel
theorem dX12_covers_248 : decode cX12_covers 248 = .ok (.isub, 1) := by decide +kernel
theorem dX12_covers_249 : decode cX12_covers 249 = .ok (.iconst 5, 1) := by decide +kernel
theorem dX12_covers_250 : decode cX12_covers 250 = .ok (.if_icmp .gt 31, 3) := by decide +kernel
theorem dX12_covers_253 : decode cX12_covers 253 = .ok (.aload_n 0, 1) := by decide +kernel
theorem dX12_covers_254 : decode cX12_covers 254 = .ok (.getfield 46, 3) := by decide +kernel
theorem dX12_covers_257 : decode cX12_covers 257 = .ok (.iload 4, 2) := by decide +kernel
theorem dX12_covers_259 : decode cX12_covers 259 = .ok (.bipush 6, 2) := by decide +kernel
theorem dX12_covers_261 : decode cX12_covers 261 = .ok (.iadd, 1) := by decide +kernel
theorem dX12_covers_262 : decode cX12_covers 262 = .ok (.iaload, 1) := by decide +kernel
theorem dX12_covers_263 : decode cX12_covers 263 = .ok (.aload_n 0, 1) := by decide +kernel
theorem dX12_covers_264 : decode cX12_covers 264 = .ok (.getfield 46, 3) := by decide +kernel
theorem dX12_covers_267 : decode cX12_covers 267 = .ok (.iload 4, 2) := by decide +kernel
theorem dX12_covers_269 : decode cX12_covers 269 = .ok (.iconst 5, 1) := by decide +kernel
theorem dX12_covers_270 : decode cX12_covers 270 = .ok (.iadd, 1) := by decide +kernel
theorem dX12_covers_271 : decode cX12_covers 271 = .ok (.iaload, 1) := by decide +kernel
theorem dX12_covers_272 : decode cX12_covers 272 = .ok (.isub, 1) := by decide +kernel
theorem dX12_covers_273 : decode cX12_covers 273 = .ok (.iconst 2, 1) := by decide +kernel
theorem dX12_covers_274 : decode cX12_covers 274 = .ok (.if_icmp .gt 7, 3) := by decide +kernel
theorem dX12_covers_277 : decode cX12_covers 277 = .ok (.iconst 1, 1) := by decide +kernel
theorem dX12_covers_278 : decode cX12_covers 278 = .ok (.goto 4, 3) := by decide +kernel
theorem dX12_covers_281 : decode cX12_covers 281 = .ok (.iconst 0, 1) := by decide +kernel
theorem dX12_covers_282 : decode cX12_covers 282 = .ok (.istore 8, 2) := by decide +kernel
theorem dX12_covers_284 : decode cX12_covers 284 = .ok (.iload 7, 2) := by decide +kernel
theorem dX12_covers_286 : decode cX12_covers 286 = .ok (.ifCond .ne 7, 3) := by decide +kernel
theorem dX12_covers_289 : decode cX12_covers 289 = .ok (.iconst 0, 1) := by decide +kernel
theorem dX12_covers_290 : decode cX12_covers 290 = .ok (.goto 13, 3) := by decide +kernel
theorem dX12_covers_293 : decode cX12_covers 293 = .ok (.iload 8, 2) := by decide +kernel
theorem dX12_covers_295 : decode cX12_covers 295 = .ok (.ifCond .eq 7, 3) := by decide +kernel
theorem dX12_covers_298 : decode cX12_covers 298 = .ok (.iconst 2, 1) := by decide +kernel
theorem dX12_covers_299 : decode cX12_covers 299 = .ok (.goto 4, 3) := by decide +kernel
theorem dX12_covers_302 : decode cX12_covers 302 = .ok (.iconst 1, 1) := by decide +kernel
theorem dX12_covers_303 : decode cX12_covers 303 = .ok (.ireturn, 1) := by decide +kernel
theorem dX12_cover_0 : decode cX12_cover 0 = .ok (.aload_n 0, 1) := by decide +kernel
theorem dX12_cover_1 : decode cX12_cover 1 = .ok (.iconst 0, 1) := by decide +kernel
theorem dX12_cover_2 : decode cX12_cover 2 = .ok (.putfield 100, 3) := by decide +kernel
theorem dX12_cover_5 : decode cX12_cover 5 = .ok (.aload_n 0, 1) := by decide +kernel
theorem dX12_cover_6 : decode cX12_cover 6 = .ok (.iload_n 1, 1) := by decide +kernel
theorem dX12_cover_7 : decode cX12_cover 7 = .ok (.invokevirtual 191, 3) := by decide +kernel
theorem dX12_cover_10 : decode cX12_cover 10 = .ok (.ifCond .ne 11, 3) := by decide +kernel
theorem dX12_cover_13 : decode cX12_cover 13 = .ok (.aload_n 0, 1) := by decide +kernel
theorem dX12_cover_14 : decode cX12_cover 14 = .ok (.iload_n 2, 1) := by decide +kernel
theorem dX12_cover_15 : decode cX12_cover 15 = .ok (.invokevirtual 144, 3) := by decide +kernel
theorem dX12_cover_18 : decode cX12_cover 18 = .ok (.ifCond .eq 5, 3) := by decide +kernel
theorem dX12_cover_21 : decode cX12_cover 21 = .ok (.iconst (-1), 1) := by decide +kernel
theorem dX12_cover_22 : decode cX12_cover 22 = .ok (.ireturn, 1) := by decide +kernel
theorem dX12_cover_23 : decode cX12_cover 23 = .ok (.iload_n 3, 1) := by decide +kernel
theorem dX12_cover_24 : decode cX12_cover 24 = .ok (.invokestatic 194, 3) := by decide +kernel
theorem dX12_cover_27 : decode cX12_cover 27 = .ok (.ifCond .eq 8, 3) := by decide +kernel
theorem dX12_cover_30 : decode cX12_cover 30 = .ok (.bipush (-2), 2) := by decide +kernel
theorem dX12_cover_32 : decode cX12_cover 32 = .ok (.goto 10, 3) := by decide +kernel
theorem dX12_cover_35 : decode cX12_cover 35 = .ok (.aload_n 0, 1) := by decide +kernel
theorem dX12_cover_36 : decode cX12_cover 36 = .ok (.iload_n 1, 1) := by decide +kernel
theorem dX12_cover_37 : decode cX12_cover 37 = .ok (.iload_n 2, 1) := by decide +kernel
theorem dX12_cover_38 : decode cX12_cover 38 = .ok (.iload_n 3, 1) := by decide +kernel
theorem dX12_cover_39 : decode cX12_cover 39 = .ok (.invokevirtual 197, 3) := by decide +kernel
theorem dX12_cover_42 : decode cX12_cover 42 = .ok (.ireturn, 1) := by decide +kernel
theorem dX12_same_0 : decode cX12_same 0 = .ok (.aload_n 0, 1) := by decide +kernel
theorem dX12_same_1 : decode cX12_same 1 = .ok (.iconst 0, 1) := by decide +kernel
theorem dX12_same_2 : decode cX12_same 2 = .ok (.putfield 100, 3) := by decide +kernel
theorem dX12_same_5 : decode cX12_same 5 = .ok (.aload_n 0, 1) := by decide +kernel
theorem dX12_same_6 : decode cX12_same 6 = .ok (.iload_n 1, 1) := by decide +kernel
theorem dX12_same_7 : decode cX12_same 7 = .ok (.invokevirtual 191, 3) := by decide +kernel
theorem dX12_same_10 : decode cX12_same 10 = .ok (.ifCond .eq 5, 3) := by decide +kernel
theorem dX12_same_13 : decode cX12_same 13 = .ok (.iconst (-1), 1) := by decide +kernel
theorem dX12_same_14 : decode cX12_same 14 = .ok (.ireturn, 1) := by decide +kernel
theorem dX12_same_15 : decode cX12_same 15 = .ok (.iload_n 2, 1) := by decide +kernel
theorem dX12_same_16 : decode cX12_same 16 = .ok (.invokestatic 194, 3) := by decide +kernel
theorem dX12_same_19 : decode cX12_same 19 = .ok (.ifCond .eq 6, 3) := by decide +kernel
theorem dX12_same_22 : decode cX12_same 22 = .ok (.bipush (-2), 2) := by decide +kernel
theorem dX12_same_24 : decode cX12_same 24 = .ok (.ireturn, 1) := by decide +kernel
theorem dX12_same_25 : decode cX12_same 25 = .ok (.iconst 0, 1) := by decide +kernel
theorem dX12_same_26 : decode cX12_same 26 = .ok (.istore_n 3, 1) := by decide +kernel
theorem dX12_same_27 : decode cX12_same 27 = .ok (.iconst 0, 1) := by decide +kernel
theorem dX12_same_28 : decode cX12_same 28 = .ok (.istore 4, 2) := by decide +kernel
theorem dX12_same_30 : decode cX12_same 30 = .ok (.iload 4, 2) := by decide +kernel
theorem dX12_same_32 : decode cX12_same 32 = .ok (.aload_n 0, 1) := by decide +kernel
theorem dX12_same_33 : decode cX12_same 33 = .ok (.getfield 107, 3) := by decide +kernel
theorem dX12_same_36 : decode cX12_same 36 = .ok (.if_icmp .ge 28, 3) := by decide +kernel
theorem dX12_same_39 : decode cX12_same 39 = .ok (.iload_n 3, 1) := by decide +kernel
theorem dX12_same_40 : decode cX12_same 40 = .ok (.aload_n 0, 1) := by decide +kernel
theorem dX12_same_41 : decode cX12_same 41 = .ok (.iload_n 1, 1) := by decide +kernel
theorem dX12_same_42 : decode cX12_same 42 = .ok (.iload 4, 2) := by decide +kernel
theorem dX12_same_44 : decode cX12_same 44 = .ok (.iload_n 2, 1) := by decide +kernel
theorem dX12_same_45 : decode cX12_same 45 = .ok (.invokevirtual 197, 3) := by decide +kernel
theorem dX12_same_48 : decode cX12_same 48 = .ok (.ifCond .le 7, 3) := by decide +kernel
theorem dX12_same_51 : decode cX12_same 51 = .ok (.iconst 1, 1) := by decide +kernel
theorem dX12_same_52 : decode cX12_same 52 = .ok (.goto 4, 3) := by decide +kernel
theorem dX12_same_55 : decode cX12_same 55 = .ok (.iconst 0, 1) := by decide +kernel
theorem dX12_same_56 : decode cX12_same 56 = .ok (.iadd, 1) := by decide +kernel
theorem dX12_same_57 : decode cX12_same 57 = .ok (.istore_n 3, 1) := by decide +kernel
theorem dX12_same_58 : decode cX12_same 58 = .ok (.iinc 4 1, 3) := by decide +kernel
theorem dX12_same_61 : decode cX12_same 61 = .ok (.goto (-31), 3) := by decide +kernel
theorem dX12_same_64 : decode cX12_same 64 = .ok (.iload_n 3, 1) := by decide +kernel
theorem dX12_same_65 : decode cX12_same 65 = .ok (.ireturn, 1) := by decide +kernel
theorem dX12_shown_0 : decode cX12_shown 0 = .ok (.aload_n 0, 1) := by decide +kernel
theorem dX12_shown_1 : decode cX12_shown 1 = .ok (.iconst 0, 1) := by decide +kernel
theorem dX12_shown_2 : decode cX12_shown 2 = .ok (.putfield 100, 3) := by decide +kernel
theorem dX12_shown_5 : decode cX12_shown 5 = .ok (.aload_n 0, 1) := by decide +kernel
theorem dX12_shown_6 : decode cX12_shown 6 = .ok (.iload_n 1, 1) := by decide +kernel
theorem dX12_shown_7 : decode cX12_shown 7 = .ok (.invokevirtual 191, 3) := by decide +kernel
theorem dX12_shown_10 : decode cX12_shown 10 = .ok (.ifCond .eq 5, 3) := by decide +kernel
theorem dX12_shown_13 : decode cX12_shown 13 = .ok (.iconst (-1), 1) := by decide +kernel
theorem dX12_shown_14 : decode cX12_shown 14 = .ok (.ireturn, 1) := by decide +kernel
theorem dX12_shown_15 : decode cX12_shown 15 = .ok (.iload_n 2, 1) := by decide +kernel
theorem dX12_shown_16 : decode cX12_shown 16 = .ok (.invokestatic 194, 3) := by decide +kernel
theorem dX12_shown_19 : decode cX12_shown 19 = .ok (.ifCond .eq 6, 3) := by decide +kernel
theorem dX12_shown_22 : decode cX12_shown 22 = .ok (.bipush (-2), 2) := by decide +kernel
theorem dX12_shown_24 : decode cX12_shown 24 = .ok (.ireturn, 1) := by decide +kernel
theorem dX12_shown_25 : decode cX12_shown 25 = .ok (.iconst 0, 1) := by decide +kernel
theorem dX12_shown_26 : decode cX12_shown 26 = .ok (.istore_n 3, 1) := by decide +kernel
theorem dX12_shown_27 : decode cX12_shown 27 = .ok (.iconst 0, 1) := by decide +kernel
theorem dX12_shown_28 : decode cX12_shown 28 = .ok (.istore 4, 2) := by decide +kernel
theorem dX12_shown_30 : decode cX12_shown 30 = .ok (.iload 4, 2) := by decide +kernel
theorem dX12_shown_32 : decode cX12_shown 32 = .ok (.aload_n 0, 1) := by decide +kernel
theorem dX12_shown_33 : decode cX12_shown 33 = .ok (.getfield 107, 3) := by decide +kernel
theorem dX12_shown_36 : decode cX12_shown 36 = .ok (.if_icmp .ge 112, 3) := by decide +kernel
theorem dX12_shown_39 : decode cX12_shown 39 = .ok (.iconst 0, 1) := by decide +kernel
theorem dX12_shown_40 : decode cX12_shown 40 = .ok (.istore 5, 2) := by decide +kernel
theorem dX12_shown_42 : decode cX12_shown 42 = .ok (.iconst 0, 1) := by decide +kernel
theorem dX12_shown_43 : decode cX12_shown 43 = .ok (.istore 6, 2) := by decide +kernel
theorem dX12_shown_45 : decode cX12_shown 45 = .ok (.iload 6, 2) := by decide +kernel
theorem dX12_shown_47 : decode cX12_shown 47 = .ok (.aload_n 0, 1) := by decide +kernel
theorem dX12_shown_48 : decode cX12_shown 48 = .ok (.getfield 168, 3) := by decide +kernel
theorem dX12_shown_51 : decode cX12_shown 51 = .ok (.if_icmp .ge 78, 3) := by decide +kernel
theorem dX12_shown_54 : decode cX12_shown 54 = .ok (.iload 5, 2) := by decide +kernel
theorem dX12_shown_56 : decode cX12_shown 56 = .ok (.ifCond .ne 60, 3) := by decide +kernel
theorem dX12_shown_59 : decode cX12_shown 59 = .ok (.aload_n 0, 1) := by decide +kernel
theorem dX12_shown_60 : decode cX12_shown 60 = .ok (.getfield 61, 3) := by decide +kernel
theorem dX12_shown_63 : decode cX12_shown 63 = .ok (.bipush 6, 2) := by decide +kernel
theorem dX12_shown_65 : decode cX12_shown 65 = .ok (.iload 6, 2) := by decide +kernel
theorem dX12_shown_67 : decode cX12_shown 67 = .ok (.imul, 1) := by decide +kernel
theorem dX12_shown_68 : decode cX12_shown 68 = .ok (.iconst 1, 1) := by decide +kernel
theorem dX12_shown_69 : decode cX12_shown 69 = .ok (.iadd, 1) := by decide +kernel
theorem dX12_shown_70 : decode cX12_shown 70 = .ok (.iaload, 1) := by decide +kernel
theorem dX12_shown_71 : decode cX12_shown 71 = .ok (.iload 4, 2) := by decide +kernel
theorem dX12_shown_73 : decode cX12_shown 73 = .ok (.if_icmp .ne 47, 3) := by decide +kernel
theorem dX12_shown_76 : decode cX12_shown 76 = .ok (.aload_n 0, 1) := by decide +kernel
theorem dX12_shown_77 : decode cX12_shown 77 = .ok (.getfield 61, 3) := by decide +kernel
theorem dX12_shown_80 : decode cX12_shown 80 = .ok (.bipush 6, 2) := by decide +kernel
theorem dX12_shown_82 : decode cX12_shown 82 = .ok (.iload 6, 2) := by decide +kernel
theorem dX12_shown_84 : decode cX12_shown 84 = .ok (.imul, 1) := by decide +kernel
theorem dX12_shown_85 : decode cX12_shown 85 = .ok (.iconst 2, 1) := by decide +kernel
theorem dX12_shown_86 : decode cX12_shown 86 = .ok (.iadd, 1) := by decide +kernel
theorem dX12_shown_87 : decode cX12_shown 87 = .ok (.iaload, 1) := by decide +kernel
theorem dX12_shown_88 : decode cX12_shown 88 = .ok (.iload_n 1, 1) := by decide +kernel
theorem dX12_shown_89 : decode cX12_shown 89 = .ok (.if_icmp .ne 31, 3) := by decide +kernel
theorem dX12_shown_92 : decode cX12_shown 92 = .ok (.aload_n 0, 1) := by decide +kernel
theorem dX12_shown_93 : decode cX12_shown 93 = .ok (.getfield 61, 3) := by decide +kernel
theorem dX12_shown_96 : decode cX12_shown 96 = .ok (.bipush 6, 2) := by decide +kernel
theorem dX12_shown_98 : decode cX12_shown 98 = .ok (.iload 6, 2) := by decide +kernel
theorem dX12_shown_100 : decode cX12_shown 100 = .ok (.imul, 1) := by decide +kernel
theorem dX12_shown_101 : decode cX12_shown 101 = .ok (.iaload, 1) := by decide +kernel
theorem dX12_shown_102 : decode cX12_shown 102 = .ok (.i2l, 1) := by decide +kernel
theorem dX12_shown_103 : decode cX12_shown 103 = .ok (.iload_n 2, 1) := by decide +kernel
theorem dX12_shown_104 : decode cX12_shown 104 = .ok (.bipush 13, 2) := by decide +kernel
theorem dX12_shown_106 : decode cX12_shown 106 = .ok (.isub, 1) := by decide +kernel
theorem dX12_shown_107 : decode cX12_shown 107 = .ok (.i2l, 1) := by decide +kernel
theorem dX12_shown_108 : decode cX12_shown 108 = .ok (.iload_n 2, 1) := by decide +kernel
theorem dX12_shown_109 : decode cX12_shown 109 = .ok (.i2l, 1) := by decide +kernel
theorem dX12_shown_110 : decode cX12_shown 110 = .ok (.invokestatic 103, 3) := by decide +kernel
theorem dX12_shown_113 : decode cX12_shown 113 = .ok (.ifCond .eq 7, 3) := by decide +kernel
theorem dX12_shown_116 : decode cX12_shown 116 = .ok (.iconst 1, 1) := by decide +kernel
theorem dX12_shown_117 : decode cX12_shown 117 = .ok (.goto 4, 3) := by decide +kernel
theorem dX12_shown_120 : decode cX12_shown 120 = .ok (.iconst 0, 1) := by decide +kernel
theorem dX12_shown_121 : decode cX12_shown 121 = .ok (.istore 5, 2) := by decide +kernel
theorem dX12_shown_123 : decode cX12_shown 123 = .ok (.iinc 6 1, 3) := by decide +kernel
theorem dX12_shown_126 : decode cX12_shown 126 = .ok (.goto (-81), 3) := by decide +kernel
theorem dX12_shown_129 : decode cX12_shown 129 = .ok (.iload_n 3, 1) := by decide +kernel
theorem dX12_shown_130 : decode cX12_shown 130 = .ok (.iload 5, 2) := by decide +kernel
theorem dX12_shown_132 : decode cX12_shown 132 = .ok (.ifCond .eq 7, 3) := by decide +kernel
theorem dX12_shown_135 : decode cX12_shown 135 = .ok (.iconst 1, 1) := by decide +kernel
theorem dX12_shown_136 : decode cX12_shown 136 = .ok (.goto 4, 3) := by decide +kernel
theorem dX12_shown_139 : decode cX12_shown 139 = .ok (.iconst 0, 1) := by decide +kernel
theorem dX12_shown_140 : decode cX12_shown 140 = .ok (.iadd, 1) := by decide +kernel
theorem dX12_shown_141 : decode cX12_shown 141 = .ok (.istore_n 3, 1) := by decide +kernel
theorem dX12_shown_142 : decode cX12_shown 142 = .ok (.iinc 4 1, 3) := by decide +kernel
theorem dX12_shown_145 : decode cX12_shown 145 = .ok (.goto (-115), 3) := by decide +kernel
theorem dX12_shown_148 : decode cX12_shown 148 = .ok (.iload_n 3, 1) := by decide +kernel
theorem dX12_shown_149 : decode cX12_shown 149 = .ok (.ireturn, 1) := by decide +kernel
theorem dX12_act_0 : decode cX12_act 0 = .ok (.aload_n 0, 1) := by decide +kernel
theorem dX12_act_1 : decode cX12_act 1 = .ok (.iconst 0, 1) := by decide +kernel
theorem dX12_act_2 : decode cX12_act 2 = .ok (.putfield 100, 3) := by decide +kernel
theorem dX12_act_5 : decode cX12_act 5 = .ok (.iload_n 1, 1) := by decide +kernel
theorem dX12_act_6 : decode cX12_act 6 = .ok (.invokestatic 194, 3) := by decide +kernel
theorem dX12_act_9 : decode cX12_act 9 = .ok (.ifCond .eq 6, 3) := by decide +kernel
theorem dX12_act_12 : decode cX12_act 12 = .ok (.bipush (-2), 2) := by decide +kernel
theorem dX12_act_14 : decode cX12_act 14 = .ok (.ireturn, 1) := by decide +kernel
theorem dX12_act_15 : decode cX12_act 15 = .ok (.aload_n 0, 1) := by decide +kernel
theorem dX12_act_16 : decode cX12_act 16 = .ok (.getfield 201, 3) := by decide +kernel
theorem dX12_act_19 : decode cX12_act 19 = .ok (.bipush 8, 2) := by decide +kernel
theorem dX12_act_21 : decode cX12_act 21 = .ok (.if_icmp .ne 6, 3) := by decide +kernel
theorem dX12_act_24 : decode cX12_act 24 = .ok (.bipush (-4), 2) := by decide +kernel
theorem dX12_act_26 : decode cX12_act 26 = .ok (.ireturn, 1) := by decide +kernel
theorem dX12_act_27 : decode cX12_act 27 = .ok (.aload_n 0, 1) := by decide +kernel
theorem dX12_act_28 : decode cX12_act 28 = .ok (.getfield 49, 3) := by decide +kernel
theorem dX12_act_31 : decode cX12_act 31 = .ok (.aload_n 0, 1) := by decide +kernel
theorem dX12_act_32 : decode cX12_act 32 = .ok (.getfield 201, 3) := by decide +kernel
theorem dX12_act_35 : decode cX12_act 35 = .ok (.iload_n 1, 1) := by decide +kernel
theorem dX12_act_36 : decode cX12_act 36 = .ok (.iastore, 1) := by decide +kernel
theorem dX12_act_37 : decode cX12_act 37 = .ok (.aload_n 0, 1) := by decide +kernel
theorem dX12_act_38 : decode cX12_act 38 = .ok (.dup, 1) := by decide +kernel
theorem dX12_act_39 : decode cX12_act 39 = .ok (.getfield 201, 3) := by decide +kernel
theorem dX12_act_42 : decode cX12_act 42 = .ok (.iconst 1, 1) := by decide +kernel
theorem dX12_act_43 : decode cX12_act 43 = .ok (.iadd, 1) := by decide +kernel
theorem dX12_act_44 : decode cX12_act 44 = .ok (.putfield 201, 3) := by decide +kernel
theorem dX12_act_47 : decode cX12_act 47 = .ok (.aload_n 0, 1) := by decide +kernel
theorem dX12_act_48 : decode cX12_act 48 = .ok (.getfield 201, 3) := by decide +kernel
theorem dX12_act_51 : decode cX12_act 51 = .ok (.iconst 1, 1) := by decide +kernel
theorem dX12_act_52 : decode cX12_act 52 = .ok (.isub, 1) := by decide +kernel
theorem dX12_act_53 : decode cX12_act 53 = .ok (.ireturn, 1) := by decide +kernel
theorem dX12_sign_0 : decode cX12_sign 0 = .ok (.aload_n 0, 1) := by decide +kernel
theorem dX12_sign_1 : decode cX12_sign 1 = .ok (.iconst 0, 1) := by decide +kernel
theorem dX12_sign_2 : decode cX12_sign 2 = .ok (.putfield 100, 3) := by decide +kernel
theorem dX12_sign_5 : decode cX12_sign 5 = .ok (.iload_n 1, 1) := by decide +kernel
theorem dX12_sign_6 : decode cX12_sign 6 = .ok (.i2l, 1) := by decide +kernel
theorem dX12_sign_7 : decode cX12_sign 7 = .ok (.lconst 0, 1) := by decide +kernel
theorem dX12_sign_8 : decode cX12_sign 8 = .ok (.aload_n 0, 1) := by decide +kernel
theorem dX12_sign_9 : decode cX12_sign 9 = .ok (.getfield 201, 3) := by decide +kernel
theorem dX12_sign_12 : decode cX12_sign 12 = .ok (.iconst 1, 1) := by decide +kernel
theorem dX12_sign_13 : decode cX12_sign 13 = .ok (.isub, 1) := by decide +kernel
theorem dX12_sign_14 : decode cX12_sign 14 = .ok (.i2l, 1) := by decide +kernel
theorem dX12_sign_15 : decode cX12_sign 15 = .ok (.invokestatic 103, 3) := by decide +kernel
theorem dX12_sign_18 : decode cX12_sign 18 = .ok (.ifCond .ne 5, 3) := by decide +kernel
theorem dX12_sign_21 : decode cX12_sign 21 = .ok (.iconst (-1), 1) := by decide +kernel
theorem dX12_sign_22 : decode cX12_sign 22 = .ok (.ireturn, 1) := by decide +kernel
theorem dX12_sign_23 : decode cX12_sign 23 = .ok (.iload_n 2, 1) := by decide +kernel
theorem dX12_sign_24 : decode cX12_sign 24 = .ok (.i2l, 1) := by decide +kernel
theorem dX12_sign_25 : decode cX12_sign 25 = .ok (.ldc2_w 204, 3) := by decide +kernel
theorem dX12_sign_28 : decode cX12_sign 28 = .ok (.ldc2_w 206, 3) := by decide +kernel
theorem dX12_sign_31 : decode cX12_sign 31 = .ok (.invokestatic 103, 3) := by decide +kernel
theorem dX12_sign_34 : decode cX12_sign 34 = .ok (.ifCond .ne 6, 3) := by decide +kernel
theorem dX12_sign_37 : decode cX12_sign 37 = .ok (.bipush (-2), 2) := by decide +kernel
theorem dX12_sign_39 : decode cX12_sign 39 = .ok (.ireturn, 1) := by decide +kernel
theorem dX12_sign_40 : decode cX12_sign 40 = .ok (.aload_n 0, 1) := by decide +kernel
theorem dX12_sign_41 : decode cX12_sign 41 = .ok (.getfield 52, 3) := by decide +kernel
theorem dX12_sign_44 : decode cX12_sign 44 = .ok (.iload_n 1, 1) := by decide +kernel
theorem dX12_sign_45 : decode cX12_sign 45 = .ok (.iaload, 1) := by decide +kernel
theorem dX12_sign_46 : decode cX12_sign 46 = .ok (.bipush 60, 2) := by decide +kernel
theorem dX12_sign_48 : decode cX12_sign 48 = .ok (.if_icmp .ne 6, 3) := by decide +kernel
theorem dX12_sign_51 : decode cX12_sign 51 = .ok (.bipush (-4), 2) := by decide +kernel
theorem dX12_sign_53 : decode cX12_sign 53 = .ok (.ireturn, 1) := by decide +kernel
theorem dX12_sign_54 : decode cX12_sign 54 = .ok (.aload_n 0, 1) := by decide +kernel
theorem dX12_sign_55 : decode cX12_sign 55 = .ok (.getfield 55, 3) := by decide +kernel
theorem dX12_sign_58 : decode cX12_sign 58 = .ok (.bipush 60, 2) := by decide +kernel
theorem dX12_sign_60 : decode cX12_sign 60 = .ok (.iload_n 1, 1) := by decide +kernel
theorem dX12_sign_61 : decode cX12_sign 61 = .ok (.imul, 1) := by decide +kernel
theorem dX12_sign_62 : decode cX12_sign 62 = .ok (.aload_n 0, 1) := by decide +kernel
theorem dX12_sign_63 : decode cX12_sign 63 = .ok (.getfield 52, 3) := by decide +kernel
theorem dX12_sign_66 : decode cX12_sign 66 = .ok (.iload_n 1, 1) := by decide +kernel
theorem dX12_sign_67 : decode cX12_sign 67 = .ok (.iaload, 1) := by decide +kernel
theorem dX12_sign_68 : decode cX12_sign 68 = .ok (.iadd, 1) := by decide +kernel
theorem dX12_sign_69 : decode cX12_sign 69 = .ok (.iload_n 2, 1) := by decide +kernel
theorem dX12_sign_70 : decode cX12_sign 70 = .ok (.iastore, 1) := by decide +kernel
theorem dX12_sign_71 : decode cX12_sign 71 = .ok (.aload_n 0, 1) := by decide +kernel
theorem dX12_sign_72 : decode cX12_sign 72 = .ok (.getfield 52, 3) := by decide +kernel
theorem dX12_sign_75 : decode cX12_sign 75 = .ok (.iload_n 1, 1) := by decide +kernel
theorem dX12_sign_76 : decode cX12_sign 76 = .ok (.dup2, 1) := by decide +kernel
theorem dX12_sign_77 : decode cX12_sign 77 = .ok (.iaload, 1) := by decide +kernel
theorem dX12_sign_78 : decode cX12_sign 78 = .ok (.iconst 1, 1) := by decide +kernel
theorem dX12_sign_79 : decode cX12_sign 79 = .ok (.iadd, 1) := by decide +kernel
theorem dX12_sign_80 : decode cX12_sign 80 = .ok (.iastore, 1) := by decide +kernel
theorem dX12_sign_81 : decode cX12_sign 81 = .ok (.aload_n 0, 1) := by decide +kernel
theorem dX12_sign_82 : decode cX12_sign 82 = .ok (.getfield 52, 3) := by decide +kernel
theorem dX12_sign_85 : decode cX12_sign 85 = .ok (.iload_n 1, 1) := by decide +kernel
theorem dX12_sign_86 : decode cX12_sign 86 = .ok (.iaload, 1) := by decide +kernel
theorem dX12_sign_87 : decode cX12_sign 87 = .ok (.ireturn, 1) := by decide +kernel
theorem dX12_hasDigits_0 : decode cX12_hasDigits 0 = .ok (.iload_n 0, 1) := by decide +kernel
theorem dX12_hasDigits_1 : decode cX12_hasDigits 1 = .ok (.bipush 97, 2) := by decide +kernel
theorem dX12_hasDigits_3 : decode cX12_hasDigits 3 = .ok (.if_icmp .eq 27, 3) := by decide +kernel
theorem dX12_hasDigits_6 : decode cX12_hasDigits 6 = .ok (.iload_n 0, 1) := by decide +kernel
theorem dX12_hasDigits_7 : decode cX12_hasDigits 7 = .ok (.bipush 65, 2) := by decide +kernel
theorem dX12_hasDigits_9 : decode cX12_hasDigits 9 = .ok (.if_icmp .eq 21, 3) := by decide +kernel
theorem dX12_hasDigits_12 : decode cX12_hasDigits 12 = .ok (.iload_n 0, 1) := by decide +kernel
theorem dX12_hasDigits_13 : decode cX12_hasDigits 13 = .ok (.bipush 121, 2) := by decide +kernel
theorem dX12_hasDigits_15 : decode cX12_hasDigits 15 = .ok (.if_icmp .eq 15, 3) := by decide +kernel
theorem dX12_hasDigits_18 : decode cX12_hasDigits 18 = .ok (.iload_n 0, 1) := by decide +kernel
theorem dX12_hasDigits_19 : decode cX12_hasDigits 19 = .ok (.bipush 89, 2) := by decide +kernel
theorem dX12_hasDigits_21 : decode cX12_hasDigits 21 = .ok (.if_icmp .eq 9, 3) := by decide +kernel
theorem dX12_hasDigits_24 : decode cX12_hasDigits 24 = .ok (.iload_n 0, 1) := by decide +kernel
theorem dX12_hasDigits_25 : decode cX12_hasDigits 25 = .ok (.bipush 116, 2) := by decide +kernel
theorem dX12_hasDigits_27 : decode cX12_hasDigits 27 = .ok (.if_icmp .ne 7, 3) := by decide +kernel
theorem dX12_hasDigits_30 : decode cX12_hasDigits 30 = .ok (.iconst 1, 1) := by decide +kernel
theorem dX12_hasDigits_31 : decode cX12_hasDigits 31 = .ok (.goto 4, 3) := by decide +kernel
theorem dX12_hasDigits_34 : decode cX12_hasDigits 34 = .ok (.iconst 0, 1) := by decide +kernel
theorem dX12_hasDigits_35 : decode cX12_hasDigits 35 = .ok (.ireturn, 1) := by decide +kernel
theorem dX12_faultOf_0 : decode cX12_faultOf 0 = .ok (.iconst 1, 1) := by decide +kernel
theorem dX12_faultOf_1 : decode cX12_faultOf 1 = .ok (.istore_n 2, 1) := by decide +kernel
theorem dX12_faultOf_2 : decode cX12_faultOf 2 = .ok (.iconst 0, 1) := by decide +kernel
theorem dX12_faultOf_3 : decode cX12_faultOf 3 = .ok (.istore_n 3, 1) := by decide +kernel
theorem dX12_faultOf_4 : decode cX12_faultOf 4 = .ok (.iconst 0, 1) := by decide +kernel
theorem dX12_faultOf_5 : decode cX12_faultOf 5 = .ok (.istore 4, 2) := by decide +kernel
theorem dX12_faultOf_7 : decode cX12_faultOf 7 = .ok (.iload 4, 2) := by decide +kernel
theorem dX12_faultOf_9 : decode cX12_faultOf 9 = .ok (.aload_n 0, 1) := by decide +kernel
theorem dX12_faultOf_10 : decode cX12_faultOf 10 = .ok (.getfield 52, 3) := by decide +kernel
theorem dX12_faultOf_13 : decode cX12_faultOf 13 = .ok (.iload_n 1, 1) := by decide +kernel
theorem dX12_faultOf_14 : decode cX12_faultOf 14 = .ok (.iaload, 1) := by decide +kernel
theorem dX12_faultOf_15 : decode cX12_faultOf 15 = .ok (.if_icmp .ge 131, 3) := by decide +kernel
theorem dX12_faultOf_18 : decode cX12_faultOf 18 = .ok (.aload_n 0, 1) := by decide +kernel
theorem dX12_faultOf_19 : decode cX12_faultOf 19 = .ok (.getfield 55, 3) := by decide +kernel
theorem dX12_faultOf_22 : decode cX12_faultOf 22 = .ok (.bipush 60, 2) := by decide +kernel
theorem dX12_faultOf_24 : decode cX12_faultOf 24 = .ok (.iload_n 1, 1) := by decide +kernel
theorem dX12_faultOf_25 : decode cX12_faultOf 25 = .ok (.imul, 1) := by decide +kernel
theorem dX12_faultOf_26 : decode cX12_faultOf 26 = .ok (.iload 4, 2) := by decide +kernel
theorem dX12_faultOf_28 : decode cX12_faultOf 28 = .ok (.iadd, 1) := by decide +kernel
theorem dX12_faultOf_29 : decode cX12_faultOf 29 = .ok (.iaload, 1) := by decide +kernel
theorem dX12_faultOf_30 : decode cX12_faultOf 30 = .ok (.istore 5, 2) := by decide +kernel
theorem dX12_faultOf_32 : decode cX12_faultOf 32 = .ok (.iload_n 3, 1) := by decide +kernel
theorem dX12_faultOf_33 : decode cX12_faultOf 33 = .ok (.ifCond .le 27, 3) := by decide +kernel
theorem dX12_faultOf_36 : decode cX12_faultOf 36 = .ok (.iload 5, 2) := by decide +kernel
theorem dX12_faultOf_38 : decode cX12_faultOf 38 = .ok (.i2l, 1) := by decide +kernel
theorem dX12_faultOf_39 : decode cX12_faultOf 39 = .ok (.ldc2_w 208, 3) := by decide +kernel
theorem dX12_faultOf_42 : decode cX12_faultOf 42 = .ok (.ldc2_w 210, 3) := by decide +kernel
theorem dX12_faultOf_45 : decode cX12_faultOf 45 = .ok (.invokestatic 103, 3) := by decide +kernel
theorem dX12_faultOf_48 : decode cX12_faultOf 48 = .ok (.ifCond .ne 6, 3) := by decide +kernel
theorem dX12_faultOf_51 : decode cX12_faultOf 51 = .ok (.iload 4, 2) := by decide +kernel
theorem dX12_faultOf_53 : decode cX12_faultOf 53 = .ok (.ireturn, 1) := by decide +kernel
theorem dX12_faultOf_54 : decode cX12_faultOf 54 = .ok (.iinc 3 (-1), 3) := by decide +kernel
theorem dX12_faultOf_57 : decode cX12_faultOf 57 = .ok (.goto 83, 3) := by decide +kernel
theorem dX12_faultOf_60 : decode cX12_faultOf 60 = .ok (.iload_n 2, 1) := by decide +kernel
theorem dX12_faultOf_61 : decode cX12_faultOf 61 = .ok (.ifCond .ne 6, 3) := by decide +kernel
theorem dX12_faultOf_64 : decode cX12_faultOf 64 = .ok (.iload 4, 2) := by decide +kernel
theorem dX12_faultOf_66 : decode cX12_faultOf 66 = .ok (.ireturn, 1) := by decide +kernel
theorem dX12_faultOf_67 : decode cX12_faultOf 67 = .ok (.iload 5, 2) := by decide +kernel
theorem dX12_faultOf_69 : decode cX12_faultOf 69 = .ok (.bipush 38, 2) := by decide +kernel
theorem dX12_faultOf_71 : decode cX12_faultOf 71 = .ok (.if_icmp .eq 10, 3) := by decide +kernel
theorem dX12_faultOf_74 : decode cX12_faultOf 74 = .ok (.iload 5, 2) := by decide +kernel
theorem dX12_faultOf_76 : decode cX12_faultOf 76 = .ok (.bipush 124, 2) := by decide +kernel
theorem dX12_faultOf_78 : decode cX12_faultOf 78 = .ok (.if_icmp .ne 9, 3) := by decide +kernel
theorem dX12_faultOf_81 : decode cX12_faultOf 81 = .ok (.iinc 2 1, 3) := by decide +kernel
theorem dX12_faultOf_84 : decode cX12_faultOf 84 = .ok (.goto 56, 3) := by decide +kernel
theorem dX12_faultOf_87 : decode cX12_faultOf 87 = .ok (.iload 5, 2) := by decide +kernel
theorem dX12_faultOf_89 : decode cX12_faultOf 89 = .ok (.invokestatic 212, 3) := by decide +kernel
theorem dX12_faultOf_92 : decode cX12_faultOf 92 = .ok (.ifCond .eq 11, 3) := by decide +kernel
theorem dX12_faultOf_95 : decode cX12_faultOf 95 = .ok (.iinc 2 (-1), 3) := by decide +kernel
theorem dX12_faultOf_98 : decode cX12_faultOf 98 = .ok (.iconst 2, 1) := by decide +kernel
theorem dX12_faultOf_99 : decode cX12_faultOf 99 = .ok (.istore_n 3, 1) := by decide +kernel
theorem dX12_faultOf_100 : decode cX12_faultOf 100 = .ok (.goto 40, 3) := by decide +kernel
theorem dX12_faultOf_103 : decode cX12_faultOf 103 = .ok (.iload 5, 2) := by decide +kernel
theorem dX12_faultOf_105 : decode cX12_faultOf 105 = .ok (.bipush 112, 2) := by decide +kernel
theorem dX12_faultOf_107 : decode cX12_faultOf 107 = .ok (.if_icmp .eq 17, 3) := by decide +kernel
theorem dX12_faultOf_110 : decode cX12_faultOf 110 = .ok (.iload 5, 2) := by decide +kernel
theorem dX12_faultOf_112 : decode cX12_faultOf 112 = .ok (.bipush 115, 2) := by decide +kernel
theorem dX12_faultOf_114 : decode cX12_faultOf 114 = .ok (.if_icmp .eq 10, 3) := by decide +kernel
theorem dX12_faultOf_117 : decode cX12_faultOf 117 = .ok (.iload 5, 2) := by decide +kernel
theorem dX12_faultOf_119 : decode cX12_faultOf 119 = .ok (.bipush 104, 2) := by decide +kernel
theorem dX12_faultOf_121 : decode cX12_faultOf 121 = .ok (.if_icmp .ne 9, 3) := by decide +kernel
theorem dX12_faultOf_124 : decode cX12_faultOf 124 = .ok (.iinc 2 (-1), 3) := by decide +kernel
theorem dX12_faultOf_127 : decode cX12_faultOf 127 = .ok (.goto 13, 3) := by decide +kernel
theorem dX12_faultOf_130 : decode cX12_faultOf 130 = .ok (.iload 5, 2) := by decide +kernel
theorem dX12_faultOf_132 : decode cX12_faultOf 132 = .ok (.bipush 33, 2) := by decide +kernel
theorem dX12_faultOf_134 : decode cX12_faultOf 134 = .ok (.if_icmp .eq 6, 3) := by decide +kernel
theorem dX12_faultOf_137 : decode cX12_faultOf 137 = .ok (.iload 4, 2) := by decide +kernel
theorem dX12_faultOf_139 : decode cX12_faultOf 139 = .ok (.ireturn, 1) := by decide +kernel
theorem dX12_faultOf_140 : decode cX12_faultOf 140 = .ok (.iinc 4 1, 3) := by decide +kernel
theorem dX12_faultOf_143 : decode cX12_faultOf 143 = .ok (.goto (-136), 3) := by decide +kernel
theorem dX12_faultOf_146 : decode cX12_faultOf 146 = .ok (.iload_n 2, 1) := by decide +kernel
theorem dX12_faultOf_147 : decode cX12_faultOf 147 = .ok (.ifCond .ne 12, 3) := by decide +kernel
theorem dX12_faultOf_150 : decode cX12_faultOf 150 = .ok (.iload_n 3, 1) := by decide +kernel
theorem dX12_faultOf_151 : decode cX12_faultOf 151 = .ok (.ifCond .ne 8, 3) := by decide +kernel
theorem dX12_faultOf_154 : decode cX12_faultOf 154 = .ok (.bipush (-9), 2) := by decide +kernel
theorem dX12_faultOf_156 : decode cX12_faultOf 156 = .ok (.goto 9, 3) := by decide +kernel
theorem dX12_faultOf_159 : decode cX12_faultOf 159 = .ok (.aload_n 0, 1) := by decide +kernel
theorem dX12_faultOf_160 : decode cX12_faultOf 160 = .ok (.getfield 52, 3) := by decide +kernel
theorem dX12_faultOf_163 : decode cX12_faultOf 163 = .ok (.iload_n 1, 1) := by decide +kernel
theorem dX12_faultOf_164 : decode cX12_faultOf 164 = .ok (.iaload, 1) := by decide +kernel
theorem dX12_faultOf_165 : decode cX12_faultOf 165 = .ok (.ireturn, 1) := by decide +kernel
theorem dX12_fault_0 : decode cX12_fault 0 = .ok (.aload_n 0, 1) := by decide +kernel
theorem dX12_fault_1 : decode cX12_fault 1 = .ok (.iconst 0, 1) := by decide +kernel
theorem dX12_fault_2 : decode cX12_fault 2 = .ok (.putfield 100, 3) := by decide +kernel
theorem dX12_fault_5 : decode cX12_fault 5 = .ok (.iload_n 1, 1) := by decide +kernel
theorem dX12_fault_6 : decode cX12_fault 6 = .ok (.i2l, 1) := by decide +kernel
theorem dX12_fault_7 : decode cX12_fault 7 = .ok (.lconst 0, 1) := by decide +kernel
theorem dX12_fault_8 : decode cX12_fault 8 = .ok (.aload_n 0, 1) := by decide +kernel
theorem dX12_fault_9 : decode cX12_fault 9 = .ok (.getfield 201, 3) := by decide +kernel
theorem dX12_fault_12 : decode cX12_fault 12 = .ok (.iconst 1, 1) := by decide +kernel
theorem dX12_fault_13 : decode cX12_fault 13 = .ok (.isub, 1) := by decide +kernel
theorem dX12_fault_14 : decode cX12_fault 14 = .ok (.i2l, 1) := by decide +kernel
theorem dX12_fault_15 : decode cX12_fault 15 = .ok (.invokestatic 103, 3) := by decide +kernel
theorem dX12_fault_18 : decode cX12_fault 18 = .ok (.ifCond .eq 11, 3) := by decide +kernel
theorem dX12_fault_21 : decode cX12_fault 21 = .ok (.aload_n 0, 1) := by decide +kernel
theorem dX12_fault_22 : decode cX12_fault 22 = .ok (.iload_n 1, 1) := by decide +kernel
theorem dX12_fault_23 : decode cX12_fault 23 = .ok (.invokevirtual 215, 3) := by decide +kernel
theorem dX12_fault_26 : decode cX12_fault 26 = .ok (.goto 4, 3) := by decide +kernel
theorem dX12_fault_29 : decode cX12_fault 29 = .ok (.iconst (-1), 1) := by decide +kernel
theorem dX12_fault_30 : decode cX12_fault 30 = .ok (.ireturn, 1) := by decide +kernel
theorem dX12_forceOf_0 : decode cX12_forceOf 0 = .ok (.bipush (-9), 2) := by decide +kernel
theorem dX12_forceOf_2 : decode cX12_forceOf 2 = .ok (.istore_n 2, 1) := by decide +kernel
theorem dX12_forceOf_3 : decode cX12_forceOf 3 = .ok (.iconst 0, 1) := by decide +kernel
theorem dX12_forceOf_4 : decode cX12_forceOf 4 = .ok (.istore_n 3, 1) := by decide +kernel
theorem dX12_forceOf_5 : decode cX12_forceOf 5 = .ok (.iload_n 3, 1) := by decide +kernel
theorem dX12_forceOf_6 : decode cX12_forceOf 6 = .ok (.aload_n 0, 1) := by decide +kernel
theorem dX12_forceOf_7 : decode cX12_forceOf 7 = .ok (.getfield 201, 3) := by decide +kernel
theorem dX12_forceOf_10 : decode cX12_forceOf 10 = .ok (.if_icmp .ge 68, 3) := by decide +kernel
theorem dX12_forceOf_13 : decode cX12_forceOf 13 = .ok (.aload_n 0, 1) := by decide +kernel
theorem dX12_forceOf_14 : decode cX12_forceOf 14 = .ok (.getfield 49, 3) := by decide +kernel
theorem dX12_forceOf_17 : decode cX12_forceOf 17 = .ok (.iload_n 3, 1) := by decide +kernel
theorem dX12_forceOf_18 : decode cX12_forceOf 18 = .ok (.iaload, 1) := by decide +kernel
theorem dX12_forceOf_19 : decode cX12_forceOf 19 = .ok (.iload_n 1, 1) := by decide +kernel
theorem dX12_forceOf_20 : decode cX12_forceOf 20 = .ok (.if_icmp .gt 17, 3) := by decide +kernel
theorem dX12_forceOf_23 : decode cX12_forceOf 23 = .ok (.aload_n 0, 1) := by decide +kernel
theorem dX12_forceOf_24 : decode cX12_forceOf 24 = .ok (.iload_n 3, 1) := by decide +kernel
theorem dX12_forceOf_25 : decode cX12_forceOf 25 = .ok (.invokevirtual 215, 3) := by decide +kernel
theorem dX12_forceOf_28 : decode cX12_forceOf 28 = .ok (.bipush (-9), 2) := by decide +kernel
theorem dX12_forceOf_30 : decode cX12_forceOf 30 = .ok (.if_icmp .ne 7, 3) := by decide +kernel
theorem dX12_forceOf_33 : decode cX12_forceOf 33 = .ok (.iconst 1, 1) := by decide +kernel
theorem dX12_forceOf_34 : decode cX12_forceOf 34 = .ok (.goto 4, 3) := by decide +kernel
theorem dX12_forceOf_37 : decode cX12_forceOf 37 = .ok (.iconst 0, 1) := by decide +kernel
theorem dX12_forceOf_38 : decode cX12_forceOf 38 = .ok (.istore 4, 2) := by decide +kernel
theorem dX12_forceOf_40 : decode cX12_forceOf 40 = .ok (.iload 4, 2) := by decide +kernel
theorem dX12_forceOf_42 : decode cX12_forceOf 42 = .ok (.ifCond .eq 28, 3) := by decide +kernel
theorem dX12_forceOf_45 : decode cX12_forceOf 45 = .ok (.iload_n 2, 1) := by decide +kernel
theorem dX12_forceOf_46 : decode cX12_forceOf 46 = .ok (.bipush (-9), 2) := by decide +kernel
theorem dX12_forceOf_48 : decode cX12_forceOf 48 = .ok (.if_icmp .eq 18, 3) := by decide +kernel
theorem dX12_forceOf_51 : decode cX12_forceOf 51 = .ok (.aload_n 0, 1) := by decide +kernel
theorem dX12_forceOf_52 : decode cX12_forceOf 52 = .ok (.getfield 49, 3) := by decide +kernel
theorem dX12_forceOf_55 : decode cX12_forceOf 55 = .ok (.iload_n 3, 1) := by decide +kernel
theorem dX12_forceOf_56 : decode cX12_forceOf 56 = .ok (.iaload, 1) := by decide +kernel
theorem dX12_forceOf_57 : decode cX12_forceOf 57 = .ok (.aload_n 0, 1) := by decide +kernel
theorem dX12_forceOf_58 : decode cX12_forceOf 58 = .ok (.getfield 49, 3) := by decide +kernel
theorem dX12_forceOf_61 : decode cX12_forceOf 61 = .ok (.iload_n 2, 1) := by decide +kernel
theorem dX12_forceOf_62 : decode cX12_forceOf 62 = .ok (.iaload, 1) := by decide +kernel
theorem dX12_forceOf_63 : decode cX12_forceOf 63 = .ok (.if_icmp .lt 7, 3) := by decide +kernel
theorem dX12_forceOf_66 : decode cX12_forceOf 66 = .ok (.iload_n 3, 1) := by decide +kernel
theorem dX12_forceOf_67 : decode cX12_forceOf 67 = .ok (.goto 4, 3) := by decide +kernel
theorem dX12_forceOf_70 : decode cX12_forceOf 70 = .ok (.iload_n 2, 1) := by decide +kernel
theorem dX12_forceOf_71 : decode cX12_forceOf 71 = .ok (.istore_n 2, 1) := by decide +kernel
theorem dX12_forceOf_72 : decode cX12_forceOf 72 = .ok (.iinc 3 1, 3) := by decide +kernel
theorem dX12_forceOf_75 : decode cX12_forceOf 75 = .ok (.goto (-70), 3) := by decide +kernel
theorem dX12_forceOf_78 : decode cX12_forceOf 78 = .ok (.iload_n 2, 1) := by decide +kernel
theorem dX12_forceOf_79 : decode cX12_forceOf 79 = .ok (.ireturn, 1) := by decide +kernel
theorem dX12_force_0 : decode cX12_force 0 = .ok (.aload_n 0, 1) := by decide +kernel
theorem dX12_force_1 : decode cX12_force 1 = .ok (.iconst 0, 1) := by decide +kernel
theorem dX12_force_2 : decode cX12_force 2 = .ok (.putfield 100, 3) := by decide +kernel
theorem dX12_force_5 : decode cX12_force 5 = .ok (.iload_n 1, 1) := by decide +kernel
theorem dX12_force_6 : decode cX12_force 6 = .ok (.invokestatic 194, 3) := by decide +kernel
theorem dX12_force_9 : decode cX12_force 9 = .ok (.ifCond .eq 8, 3) := by decide +kernel
theorem dX12_force_12 : decode cX12_force 12 = .ok (.bipush (-2), 2) := by decide +kernel
theorem dX12_force_14 : decode cX12_force 14 = .ok (.goto 8, 3) := by decide +kernel
theorem dX12_force_17 : decode cX12_force 17 = .ok (.aload_n 0, 1) := by decide +kernel
theorem dX12_force_18 : decode cX12_force 18 = .ok (.iload_n 1, 1) := by decide +kernel
theorem dX12_force_19 : decode cX12_force 19 = .ok (.invokevirtual 218, 3) := by decide +kernel
theorem dX12_force_22 : decode cX12_force 22 = .ok (.ireturn, 1) := by decide +kernel
theorem dX12_test_0 : decode cX12_test 0 = .ok (.iload_n 1, 1) := by decide +kernel
theorem dX12_test_1 : decode cX12_test 1 = .ok (.lookupswitch 180 #[(65, 86), (89, 126), (97, 67), (112, 168), (115, 171), (116, 147), (121, 105)], 67) := by decide +kernel
theorem dX12_test_68 : decode cX12_test 68 = .ok (.aload_n 0, 1) := by decide +kernel
theorem dX12_test_69 : decode cX12_test 69 = .ok (.getfield 21, 3) := by decide +kernel
theorem dX12_test_72 : decode cX12_test 72 = .ok (.bipush 8, 2) := by decide +kernel
theorem dX12_test_74 : decode cX12_test 74 = .ok (.iload_n 3, 1) := by decide +kernel
theorem dX12_test_75 : decode cX12_test 75 = .ok (.imul, 1) := by decide +kernel
theorem dX12_test_76 : decode cX12_test 76 = .ok (.iaload, 1) := by decide +kernel
theorem dX12_test_77 : decode cX12_test 77 = .ok (.iload_n 2, 1) := by decide +kernel
theorem dX12_test_78 : decode cX12_test 78 = .ok (.if_icmp .lt 7, 3) := by decide +kernel
theorem dX12_test_81 : decode cX12_test 81 = .ok (.iconst 1, 1) := by decide +kernel
theorem dX12_test_82 : decode cX12_test 82 = .ok (.goto 4, 3) := by decide +kernel
theorem dX12_test_85 : decode cX12_test 85 = .ok (.iconst 0, 1) := by decide +kernel
theorem dX12_test_86 : decode cX12_test 86 = .ok (.ireturn, 1) := by decide +kernel
theorem dX12_test_87 : decode cX12_test 87 = .ok (.aload_n 0, 1) := by decide +kernel
theorem dX12_test_88 : decode cX12_test 88 = .ok (.getfield 21, 3) := by decide +kernel
theorem dX12_test_91 : decode cX12_test 91 = .ok (.bipush 8, 2) := by decide +kernel
theorem dX12_test_93 : decode cX12_test 93 = .ok (.iload_n 3, 1) := by decide +kernel
theorem dX12_test_94 : decode cX12_test 94 = .ok (.imul, 1) := by decide +kernel
theorem dX12_test_95 : decode cX12_test 95 = .ok (.iaload, 1) := by decide +kernel
theorem dX12_test_96 : decode cX12_test 96 = .ok (.iload_n 2, 1) := by decide +kernel
theorem dX12_test_97 : decode cX12_test 97 = .ok (.if_icmp .ge 7, 3) := by decide +kernel
theorem dX12_test_100 : decode cX12_test 100 = .ok (.iconst 1, 1) := by decide +kernel
theorem dX12_test_101 : decode cX12_test 101 = .ok (.goto 4, 3) := by decide +kernel
theorem dX12_test_104 : decode cX12_test 104 = .ok (.iconst 0, 1) := by decide +kernel
theorem dX12_test_105 : decode cX12_test 105 = .ok (.ireturn, 1) := by decide +kernel
theorem dX12_test_106 : decode cX12_test 106 = .ok (.aload_n 0, 1) := by decide +kernel
theorem dX12_test_107 : decode cX12_test 107 = .ok (.getfield 21, 3) := by decide +kernel
theorem dX12_test_110 : decode cX12_test 110 = .ok (.bipush 8, 2) := by decide +kernel
theorem dX12_test_112 : decode cX12_test 112 = .ok (.iload_n 3, 1) := by decide +kernel
theorem dX12_test_113 : decode cX12_test 113 = .ok (.imul, 1) := by decide +kernel
theorem dX12_test_114 : decode cX12_test 114 = .ok (.iconst 5, 1) := by decide +kernel
theorem dX12_test_115 : decode cX12_test 115 = .ok (.iadd, 1) := by decide +kernel
theorem dX12_test_116 : decode cX12_test 116 = .ok (.iaload, 1) := by decide +kernel
theorem dX12_test_117 : decode cX12_test 117 = .ok (.iload_n 2, 1) := by decide +kernel
theorem dX12_test_118 : decode cX12_test 118 = .ok (.if_icmp .lt 7, 3) := by decide +kernel
theorem dX12_test_121 : decode cX12_test 121 = .ok (.iconst 1, 1) := by decide +kernel
theorem dX12_test_122 : decode cX12_test 122 = .ok (.goto 4, 3) := by decide +kernel
theorem dX12_test_125 : decode cX12_test 125 = .ok (.iconst 0, 1) := by decide +kernel
theorem dX12_test_126 : decode cX12_test 126 = .ok (.ireturn, 1) := by decide +kernel
theorem dX12_test_127 : decode cX12_test 127 = .ok (.aload_n 0, 1) := by decide +kernel
theorem dX12_test_128 : decode cX12_test 128 = .ok (.getfield 21, 3) := by decide +kernel
theorem dX12_test_131 : decode cX12_test 131 = .ok (.bipush 8, 2) := by decide +kernel
theorem dX12_test_133 : decode cX12_test 133 = .ok (.iload_n 3, 1) := by decide +kernel
theorem dX12_test_134 : decode cX12_test 134 = .ok (.imul, 1) := by decide +kernel
theorem dX12_test_135 : decode cX12_test 135 = .ok (.iconst 5, 1) := by decide +kernel
theorem dX12_test_136 : decode cX12_test 136 = .ok (.iadd, 1) := by decide +kernel
theorem dX12_test_137 : decode cX12_test 137 = .ok (.iaload, 1) := by decide +kernel
theorem dX12_test_138 : decode cX12_test 138 = .ok (.iload_n 2, 1) := by decide +kernel
theorem dX12_test_139 : decode cX12_test 139 = .ok (.if_icmp .ge 7, 3) := by decide +kernel
theorem dX12_test_142 : decode cX12_test 142 = .ok (.iconst 1, 1) := by decide +kernel
theorem dX12_test_143 : decode cX12_test 143 = .ok (.goto 4, 3) := by decide +kernel
theorem dX12_test_146 : decode cX12_test 146 = .ok (.iconst 0, 1) := by decide +kernel
theorem dX12_test_147 : decode cX12_test 147 = .ok (.ireturn, 1) := by decide +kernel
theorem dX12_test_148 : decode cX12_test 148 = .ok (.aload_n 0, 1) := by decide +kernel
theorem dX12_test_149 : decode cX12_test 149 = .ok (.getfield 21, 3) := by decide +kernel
theorem dX12_test_152 : decode cX12_test 152 = .ok (.bipush 8, 2) := by decide +kernel
theorem dX12_test_154 : decode cX12_test 154 = .ok (.iload_n 3, 1) := by decide +kernel
theorem dX12_test_155 : decode cX12_test 155 = .ok (.imul, 1) := by decide +kernel
theorem dX12_test_156 : decode cX12_test 156 = .ok (.iconst 4, 1) := by decide +kernel
theorem dX12_test_157 : decode cX12_test 157 = .ok (.iadd, 1) := by decide +kernel
theorem dX12_test_158 : decode cX12_test 158 = .ok (.iaload, 1) := by decide +kernel
theorem dX12_test_159 : decode cX12_test 159 = .ok (.iload_n 2, 1) := by decide +kernel
theorem dX12_test_160 : decode cX12_test 160 = .ok (.if_icmp .ne 7, 3) := by decide +kernel
theorem dX12_test_163 : decode cX12_test 163 = .ok (.iconst 1, 1) := by decide +kernel
theorem dX12_test_164 : decode cX12_test 164 = .ok (.goto 4, 3) := by decide +kernel
theorem dX12_test_167 : decode cX12_test 167 = .ok (.iconst 0, 1) := by decide +kernel
theorem dX12_test_168 : decode cX12_test 168 = .ok (.ireturn, 1) := by decide +kernel
theorem dX12_test_169 : decode cX12_test 169 = .ok (.iload 4, 2) := by decide +kernel
theorem dX12_test_171 : decode cX12_test 171 = .ok (.ireturn, 1) := by decide +kernel
theorem dX12_test_172 : decode cX12_test 172 = .ok (.aload_n 0, 1) := by decide +kernel
theorem dX12_test_173 : decode cX12_test 173 = .ok (.iload_n 3, 1) := by decide +kernel
theorem dX12_test_174 : decode cX12_test 174 = .ok (.invokevirtual 154, 3) := by decide +kernel
theorem dX12_test_177 : decode cX12_test 177 = .ok (.invokestatic 151, 3) := by decide +kernel
theorem dX12_test_180 : decode cX12_test 180 = .ok (.ireturn, 1) := by decide +kernel
theorem dX12_test_181 : decode cX12_test 181 = .ok (.aload_n 0, 1) := by decide +kernel
theorem dX12_test_182 : decode cX12_test 182 = .ok (.iload_n 3, 1) := by decide +kernel
theorem dX12_test_183 : decode cX12_test 183 = .ok (.invokevirtual 154, 3) := by decide +kernel
theorem dX12_test_186 : decode cX12_test 186 = .ok (.aload_n 0, 1) := by decide +kernel
theorem dX12_test_187 : decode cX12_test 187 = .ok (.getfield 21, 3) := by decide +kernel
theorem dX12_test_190 : decode cX12_test 190 = .ok (.bipush 8, 2) := by decide +kernel
theorem dX12_test_192 : decode cX12_test 192 = .ok (.iload_n 3, 1) := by decide +kernel
theorem dX12_test_193 : decode cX12_test 193 = .ok (.imul, 1) := by decide +kernel
theorem dX12_test_194 : decode cX12_test 194 = .ok (.bipush 6, 2) := by decide +kernel
theorem dX12_test_196 : decode cX12_test 196 = .ok (.iadd, 1) := by decide +kernel
theorem dX12_test_197 : decode cX12_test 197 = .ok (.iaload, 1) := by decide +kernel
theorem dX12_test_198 : decode cX12_test 198 = .ok (.if_icmp .ne 7, 3) := by decide +kernel
theorem dX12_test_201 : decode cX12_test 201 = .ok (.iconst 1, 1) := by decide +kernel
theorem dX12_test_202 : decode cX12_test 202 = .ok (.goto 4, 3) := by decide +kernel
theorem dX12_test_205 : decode cX12_test 205 = .ok (.iconst 0, 1) := by decide +kernel
theorem dX12_test_206 : decode cX12_test 206 = .ok (.ireturn, 1) := by decide +kernel
theorem dX12_mayBe_0 : decode cX12_mayBe 0 = .ok (.aload_n 0, 1) := by decide +kernel
theorem dX12_mayBe_1 : decode cX12_mayBe 1 = .ok (.aload_n 0, 1) := by decide +kernel
theorem dX12_mayBe_2 : decode cX12_mayBe 2 = .ok (.getfield 141, 3) := by decide +kernel
theorem dX12_mayBe_5 : decode cX12_mayBe 5 = .ok (.invokevirtual 218, 3) := by decide +kernel
theorem dX12_mayBe_8 : decode cX12_mayBe 8 = .ok (.istore_n 3, 1) := by decide +kernel
theorem dX12_mayBe_9 : decode cX12_mayBe 9 = .ok (.iload_n 3, 1) := by decide +kernel
theorem dX12_mayBe_10 : decode cX12_mayBe 10 = .ok (.bipush (-9), 2) := by decide +kernel
theorem dX12_mayBe_12 : decode cX12_mayBe 12 = .ok (.if_icmp .ne 5, 3) := by decide +kernel
theorem dX12_mayBe_15 : decode cX12_mayBe 15 = .ok (.iconst 0, 1) := by decide +kernel
theorem dX12_mayBe_16 : decode cX12_mayBe 16 = .ok (.ireturn, 1) := by decide +kernel
theorem dX12_mayBe_17 : decode cX12_mayBe 17 = .ok (.iconst 0, 1) := by decide +kernel
theorem dX12_mayBe_18 : decode cX12_mayBe 18 = .ok (.istore 4, 2) := by decide +kernel
theorem dX12_mayBe_20 : decode cX12_mayBe 20 = .ok (.iconst 0, 1) := by decide +kernel
theorem dX12_mayBe_21 : decode cX12_mayBe 21 = .ok (.istore 5, 2) := by decide +kernel
theorem dX12_mayBe_23 : decode cX12_mayBe 23 = .ok (.aload_n 0, 1) := by decide +kernel
theorem dX12_mayBe_24 : decode cX12_mayBe 24 = .ok (.getfield 52, 3) := by decide +kernel
theorem dX12_mayBe_27 : decode cX12_mayBe 27 = .ok (.iload_n 3, 1) := by decide +kernel
theorem dX12_mayBe_28 : decode cX12_mayBe 28 = .ok (.iaload, 1) := by decide +kernel
theorem dX12_mayBe_29 : decode cX12_mayBe 29 = .ok (.iconst 1, 1) := by decide +kernel
theorem dX12_mayBe_30 : decode cX12_mayBe 30 = .ok (.isub, 1) := by decide +kernel
theorem dX12_mayBe_31 : decode cX12_mayBe 31 = .ok (.istore 6, 2) := by decide +kernel
theorem dX12_mayBe_33 : decode cX12_mayBe 33 = .ok (.iload 6, 2) := by decide +kernel
theorem dX12_mayBe_35 : decode cX12_mayBe 35 = .ok (.ifCond .lt 248, 3) := by decide +kernel
theorem dX12_mayBe_38 : decode cX12_mayBe 38 = .ok (.aload_n 0, 1) := by decide +kernel
theorem dX12_mayBe_39 : decode cX12_mayBe 39 = .ok (.getfield 55, 3) := by decide +kernel
theorem dX12_mayBe_42 : decode cX12_mayBe 42 = .ok (.bipush 60, 2) := by decide +kernel
theorem dX12_mayBe_44 : decode cX12_mayBe 44 = .ok (.iload_n 3, 1) := by decide +kernel
theorem dX12_mayBe_45 : decode cX12_mayBe 45 = .ok (.imul, 1) := by decide +kernel
theorem dX12_mayBe_46 : decode cX12_mayBe 46 = .ok (.iload 6, 2) := by decide +kernel
theorem dX12_mayBe_48 : decode cX12_mayBe 48 = .ok (.iadd, 1) := by decide +kernel
theorem dX12_mayBe_49 : decode cX12_mayBe 49 = .ok (.iaload, 1) := by decide +kernel
theorem dX12_mayBe_50 : decode cX12_mayBe 50 = .ok (.istore 7, 2) := by decide +kernel
theorem dX12_mayBe_52 : decode cX12_mayBe 52 = .ok (.iload 7, 2) := by decide +kernel
theorem dX12_mayBe_54 : decode cX12_mayBe 54 = .ok (.i2l, 1) := by decide +kernel
theorem dX12_mayBe_55 : decode cX12_mayBe 55 = .ok (.ldc2_w 208, 3) := by decide +kernel
theorem dX12_mayBe_58 : decode cX12_mayBe 58 = .ok (.ldc2_w 210, 3) := by decide +kernel
theorem dX12_mayBe_61 : decode cX12_mayBe 61 = .ok (.invokestatic 103, 3) := by decide +kernel
theorem dX12_mayBe_64 : decode cX12_mayBe 64 = .ok (.ifCond .eq 59, 3) := by decide +kernel
theorem dX12_mayBe_67 : decode cX12_mayBe 67 = .ok (.iload 6, 2) := by decide +kernel
theorem dX12_mayBe_69 : decode cX12_mayBe 69 = .ok (.ifCond .le 38, 3) := by decide +kernel
theorem dX12_mayBe_72 : decode cX12_mayBe 72 = .ok (.aload_n 0, 1) := by decide +kernel
theorem dX12_mayBe_73 : decode cX12_mayBe 73 = .ok (.getfield 55, 3) := by decide +kernel
theorem dX12_mayBe_76 : decode cX12_mayBe 76 = .ok (.bipush 60, 2) := by decide +kernel
theorem dX12_mayBe_78 : decode cX12_mayBe 78 = .ok (.iload_n 3, 1) := by decide +kernel
theorem dX12_mayBe_79 : decode cX12_mayBe 79 = .ok (.imul, 1) := by decide +kernel
theorem dX12_mayBe_80 : decode cX12_mayBe 80 = .ok (.iload 6, 2) := by decide +kernel
theorem dX12_mayBe_82 : decode cX12_mayBe 82 = .ok (.iadd, 1) := by decide +kernel
theorem dX12_mayBe_83 : decode cX12_mayBe 83 = .ok (.iconst 1, 1) := by decide +kernel
theorem dX12_mayBe_84 : decode cX12_mayBe 84 = .ok (.isub, 1) := by decide +kernel
theorem dX12_mayBe_85 : decode cX12_mayBe 85 = .ok (.iaload, 1) := by decide +kernel
theorem dX12_mayBe_86 : decode cX12_mayBe 86 = .ok (.i2l, 1) := by decide +kernel
theorem dX12_mayBe_87 : decode cX12_mayBe 87 = .ok (.ldc2_w 208, 3) := by decide +kernel
theorem dX12_mayBe_90 : decode cX12_mayBe 90 = .ok (.ldc2_w 210, 3) := by decide +kernel
theorem dX12_mayBe_93 : decode cX12_mayBe 93 = .ok (.invokestatic 103, 3) := by decide +kernel
theorem dX12_mayBe_96 : decode cX12_mayBe 96 = .ok (.ifCond .eq 11, 3) := by decide +kernel
theorem dX12_mayBe_99 : decode cX12_mayBe 99 = .ok (.iload 7, 2) := by decide +kernel
theorem dX12_mayBe_101 : decode cX12_mayBe 101 = .ok (.bipush 48, 2) := by decide +kernel
theorem dX12_mayBe_103 : decode cX12_mayBe 103 = .ok (.isub, 1) := by decide +kernel
theorem dX12_mayBe_104 : decode cX12_mayBe 104 = .ok (.goto 14, 3) := by decide +kernel
theorem dX12_mayBe_107 : decode cX12_mayBe 107 = .ok (.iload 5, 2) := by decide +kernel
theorem dX12_mayBe_109 : decode cX12_mayBe 109 = .ok (.bipush 10, 2) := by decide +kernel
theorem dX12_mayBe_111 : decode cX12_mayBe 111 = .ok (.iload 7, 2) := by decide +kernel
theorem dX12_mayBe_113 : decode cX12_mayBe 113 = .ok (.bipush 48, 2) := by decide +kernel
theorem dX12_mayBe_115 : decode cX12_mayBe 115 = .ok (.isub, 1) := by decide +kernel
theorem dX12_mayBe_116 : decode cX12_mayBe 116 = .ok (.imul, 1) := by decide +kernel
theorem dX12_mayBe_117 : decode cX12_mayBe 117 = .ok (.iadd, 1) := by decide +kernel
theorem dX12_mayBe_118 : decode cX12_mayBe 118 = .ok (.istore 5, 2) := by decide +kernel
theorem dX12_mayBe_120 : decode cX12_mayBe 120 = .ok (.goto 157, 3) := by decide +kernel
theorem dX12_mayBe_123 : decode cX12_mayBe 123 = .ok (.iload 7, 2) := by decide +kernel
theorem dX12_mayBe_125 : decode cX12_mayBe 125 = .ok (.bipush 33, 2) := by decide +kernel
theorem dX12_mayBe_127 : decode cX12_mayBe 127 = .ok (.if_icmp .ne 32, 3) := by decide +kernel
theorem dX12_mayBe_130 : decode cX12_mayBe 130 = .ok (.aload_n 0, 1) := by decide +kernel
theorem dX12_mayBe_131 : decode cX12_mayBe 131 = .ok (.getfield 58, 3) := by decide +kernel
theorem dX12_mayBe_134 : decode cX12_mayBe 134 = .ok (.iload 4, 2) := by decide +kernel
theorem dX12_mayBe_136 : decode cX12_mayBe 136 = .ok (.iconst 1, 1) := by decide +kernel
theorem dX12_mayBe_137 : decode cX12_mayBe 137 = .ok (.isub, 1) := by decide +kernel
theorem dX12_mayBe_138 : decode cX12_mayBe 138 = .ok (.aload_n 0, 1) := by decide +kernel
theorem dX12_mayBe_139 : decode cX12_mayBe 139 = .ok (.getfield 58, 3) := by decide +kernel
theorem dX12_mayBe_142 : decode cX12_mayBe 142 = .ok (.iload 4, 2) := by decide +kernel
theorem dX12_mayBe_144 : decode cX12_mayBe 144 = .ok (.iconst 1, 1) := by decide +kernel
theorem dX12_mayBe_145 : decode cX12_mayBe 145 = .ok (.isub, 1) := by decide +kernel
theorem dX12_mayBe_146 : decode cX12_mayBe 146 = .ok (.baload, 1) := by decide +kernel
theorem dX12_mayBe_147 : decode cX12_mayBe 147 = .ok (.ifCond .ne 7, 3) := by decide +kernel
theorem dX12_mayBe_150 : decode cX12_mayBe 150 = .ok (.iconst 1, 1) := by decide +kernel
theorem dX12_mayBe_151 : decode cX12_mayBe 151 = .ok (.goto 4, 3) := by decide +kernel
theorem dX12_mayBe_154 : decode cX12_mayBe 154 = .ok (.iconst 0, 1) := by decide +kernel
theorem dX12_mayBe_155 : decode cX12_mayBe 155 = .ok (.bastore, 1) := by decide +kernel
theorem dX12_mayBe_156 : decode cX12_mayBe 156 = .ok (.goto 121, 3) := by decide +kernel
theorem dX12_mayBe_159 : decode cX12_mayBe 159 = .ok (.iload 7, 2) := by decide +kernel
theorem dX12_mayBe_161 : decode cX12_mayBe 161 = .ok (.bipush 38, 2) := by decide +kernel
theorem dX12_mayBe_163 : decode cX12_mayBe 163 = .ok (.if_icmp .ne 45, 3) := by decide +kernel
theorem dX12_mayBe_166 : decode cX12_mayBe 166 = .ok (.iinc 4 (-1), 3) := by decide +kernel
theorem dX12_mayBe_169 : decode cX12_mayBe 169 = .ok (.aload_n 0, 1) := by decide +kernel
theorem dX12_mayBe_170 : decode cX12_mayBe 170 = .ok (.getfield 58, 3) := by decide +kernel
theorem dX12_mayBe_173 : decode cX12_mayBe 173 = .ok (.iload 4, 2) := by decide +kernel
theorem dX12_mayBe_175 : decode cX12_mayBe 175 = .ok (.iconst 1, 1) := by decide +kernel
theorem dX12_mayBe_176 : decode cX12_mayBe 176 = .ok (.isub, 1) := by decide +kernel
theorem dX12_mayBe_177 : decode cX12_mayBe 177 = .ok (.aload_n 0, 1) := by decide +kernel
theorem dX12_mayBe_178 : decode cX12_mayBe 178 = .ok (.getfield 58, 3) := by decide +kernel
theorem dX12_mayBe_181 : decode cX12_mayBe 181 = .ok (.iload 4, 2) := by decide +kernel
theorem dX12_mayBe_183 : decode cX12_mayBe 183 = .ok (.baload, 1) := by decide +kernel
theorem dX12_mayBe_184 : decode cX12_mayBe 184 = .ok (.ifCond .eq 19, 3) := by decide +kernel
theorem dX12_mayBe_187 : decode cX12_mayBe 187 = .ok (.aload_n 0, 1) := by decide +kernel
theorem dX12_mayBe_188 : decode cX12_mayBe 188 = .ok (.getfield 58, 3) := by decide +kernel
theorem dX12_mayBe_191 : decode cX12_mayBe 191 = .ok (.iload 4, 2) := by decide +kernel
theorem dX12_mayBe_193 : decode cX12_mayBe 193 = .ok (.iconst 1, 1) := by decide +kernel
theorem dX12_mayBe_194 : decode cX12_mayBe 194 = .ok (.isub, 1) := by decide +kernel
theorem dX12_mayBe_195 : decode cX12_mayBe 195 = .ok (.baload, 1) := by decide +kernel
theorem dX12_mayBe_196 : decode cX12_mayBe 196 = .ok (.ifCond .eq 7, 3) := by decide +kernel
theorem dX12_mayBe_199 : decode cX12_mayBe 199 = .ok (.iconst 1, 1) := by decide +kernel
theorem dX12_mayBe_200 : decode cX12_mayBe 200 = .ok (.goto 4, 3) := by decide +kernel
theorem dX12_mayBe_203 : decode cX12_mayBe 203 = .ok (.iconst 0, 1) := by decide +kernel
theorem dX12_mayBe_204 : decode cX12_mayBe 204 = .ok (.bastore, 1) := by decide +kernel
theorem dX12_mayBe_205 : decode cX12_mayBe 205 = .ok (.goto 72, 3) := by decide +kernel
theorem dX12_mayBe_208 : decode cX12_mayBe 208 = .ok (.iload 7, 2) := by decide +kernel
theorem dX12_mayBe_210 : decode cX12_mayBe 210 = .ok (.bipush 124, 2) := by decide +kernel
theorem dX12_mayBe_212 : decode cX12_mayBe 212 = .ok (.if_icmp .ne 45, 3) := by decide +kernel
theorem dX12_mayBe_215 : decode cX12_mayBe 215 = .ok (.iinc 4 (-1), 3) := by decide +kernel
theorem dX12_mayBe_218 : decode cX12_mayBe 218 = .ok (.aload_n 0, 1) := by decide +kernel
theorem dX12_mayBe_219 : decode cX12_mayBe 219 = .ok (.getfield 58, 3) := by decide +kernel
theorem dX12_mayBe_222 : decode cX12_mayBe 222 = .ok (.iload 4, 2) := by decide +kernel
theorem dX12_mayBe_224 : decode cX12_mayBe 224 = .ok (.iconst 1, 1) := by decide +kernel
theorem dX12_mayBe_225 : decode cX12_mayBe 225 = .ok (.isub, 1) := by decide +kernel
theorem dX12_mayBe_226 : decode cX12_mayBe 226 = .ok (.aload_n 0, 1) := by decide +kernel
theorem dX12_mayBe_227 : decode cX12_mayBe 227 = .ok (.getfield 58, 3) := by decide +kernel
theorem dX12_mayBe_230 : decode cX12_mayBe 230 = .ok (.iload 4, 2) := by decide +kernel
theorem dX12_mayBe_232 : decode cX12_mayBe 232 = .ok (.baload, 1) := by decide +kernel
theorem dX12_mayBe_233 : decode cX12_mayBe 233 = .ok (.ifCond .ne 15, 3) := by decide +kernel
theorem dX12_mayBe_236 : decode cX12_mayBe 236 = .ok (.aload_n 0, 1) := by decide +kernel
theorem dX12_mayBe_237 : decode cX12_mayBe 237 = .ok (.getfield 58, 3) := by decide +kernel
theorem dX12_mayBe_240 : decode cX12_mayBe 240 = .ok (.iload 4, 2) := by decide +kernel
theorem dX12_mayBe_242 : decode cX12_mayBe 242 = .ok (.iconst 1, 1) := by decide +kernel
theorem dX12_mayBe_243 : decode cX12_mayBe 243 = .ok (.isub, 1) := by decide +kernel
theorem dX12_mayBe_244 : decode cX12_mayBe 244 = .ok (.baload, 1) := by decide +kernel
theorem dX12_mayBe_245 : decode cX12_mayBe 245 = .ok (.ifCond .eq 7, 3) := by decide +kernel
theorem dX12_mayBe_248 : decode cX12_mayBe 248 = .ok (.iconst 1, 1) := by decide +kernel
theorem dX12_mayBe_249 : decode cX12_mayBe 249 = .ok (.goto 4, 3) := by decide +kernel
theorem dX12_mayBe_252 : decode cX12_mayBe 252 = .ok (.iconst 0, 1) := by decide +kernel
theorem dX12_mayBe_253 : decode cX12_mayBe 253 = .ok (.bastore, 1) := by decide +kernel
theorem dX12_mayBe_254 : decode cX12_mayBe 254 = .ok (.goto 23, 3) := by decide +kernel
theorem dX12_mayBe_257 : decode cX12_mayBe 257 = .ok (.aload_n 0, 1) := by decide +kernel
theorem dX12_mayBe_258 : decode cX12_mayBe 258 = .ok (.getfield 58, 3) := by decide +kernel
theorem dX12_mayBe_261 : decode cX12_mayBe 261 = .ok (.iload 4, 2) := by decide +kernel
theorem dX12_mayBe_263 : decode cX12_mayBe 263 = .ok (.aload_n 0, 1) := by decide +kernel
theorem dX12_mayBe_264 : decode cX12_mayBe 264 = .ok (.iload 7, 2) := by decide +kernel
theorem dX12_mayBe_266 : decode cX12_mayBe 266 = .ok (.iload 5, 2) := by decide +kernel
theorem dX12_mayBe_268 : decode cX12_mayBe 268 = .ok (.iload_n 1, 1) := by decide +kernel
theorem dX12_mayBe_269 : decode cX12_mayBe 269 = .ok (.iload_n 2, 1) := by decide +kernel
theorem dX12_mayBe_270 : decode cX12_mayBe 270 = .ok (.invokevirtual 221, 3) := by decide +kernel
theorem dX12_mayBe_273 : decode cX12_mayBe 273 = .ok (.bastore, 1) := by decide +kernel
theorem dX12_mayBe_274 : decode cX12_mayBe 274 = .ok (.iinc 4 1, 3) := by decide +kernel
theorem dX12_mayBe_277 : decode cX12_mayBe 277 = .ok (.iinc 6 (-1), 3) := by decide +kernel
theorem dX12_mayBe_280 : decode cX12_mayBe 280 = .ok (.goto (-247), 3) := by decide +kernel
theorem dX12_mayBe_283 : decode cX12_mayBe 283 = .ok (.aload_n 0, 1) := by decide +kernel
theorem dX12_mayBe_284 : decode cX12_mayBe 284 = .ok (.getfield 58, 3) := by decide +kernel
theorem dX12_mayBe_287 : decode cX12_mayBe 287 = .ok (.iconst 0, 1) := by decide +kernel
theorem dX12_mayBe_288 : decode cX12_mayBe 288 = .ok (.baload, 1) := by decide +kernel
theorem dX12_mayBe_289 : decode cX12_mayBe 289 = .ok (.ireturn, 1) := by decide +kernel
theorem dX12_truly_0 : decode cX12_truly 0 = .ok (.iconst 0, 1) := by decide +kernel
theorem dX12_truly_1 : decode cX12_truly 1 = .ok (.istore_n 2, 1) := by decide +kernel
theorem dX12_truly_2 : decode cX12_truly 2 = .ok (.iconst 0, 1) := by decide +kernel
theorem dX12_truly_3 : decode cX12_truly 3 = .ok (.istore_n 3, 1) := by decide +kernel
theorem dX12_truly_4 : decode cX12_truly 4 = .ok (.iload_n 3, 1) := by decide +kernel
theorem dX12_truly_5 : decode cX12_truly 5 = .ok (.aload_n 0, 1) := by decide +kernel
theorem dX12_truly_6 : decode cX12_truly 6 = .ok (.getfield 113, 3) := by decide +kernel
theorem dX12_truly_9 : decode cX12_truly 9 = .ok (.if_icmp .ge 45, 3) := by decide +kernel
theorem dX12_truly_12 : decode cX12_truly 12 = .ok (.iload_n 2, 1) := by decide +kernel
theorem dX12_truly_13 : decode cX12_truly 13 = .ok (.ifCond .ne 29, 3) := by decide +kernel
theorem dX12_truly_16 : decode cX12_truly 16 = .ok (.aload_n 0, 1) := by decide +kernel
theorem dX12_truly_17 : decode cX12_truly 17 = .ok (.getfield 46, 3) := by decide +kernel
theorem dX12_truly_20 : decode cX12_truly 20 = .ok (.bipush 9, 2) := by decide +kernel
theorem dX12_truly_22 : decode cX12_truly 22 = .ok (.iload_n 3, 1) := by decide +kernel
theorem dX12_truly_23 : decode cX12_truly 23 = .ok (.imul, 1) := by decide +kernel
theorem dX12_truly_24 : decode cX12_truly 24 = .ok (.iaload, 1) := by decide +kernel
theorem dX12_truly_25 : decode cX12_truly 25 = .ok (.iload_n 1, 1) := by decide +kernel
theorem dX12_truly_26 : decode cX12_truly 26 = .ok (.if_icmp .ne 20, 3) := by decide +kernel
theorem dX12_truly_29 : decode cX12_truly 29 = .ok (.aload_n 0, 1) := by decide +kernel
theorem dX12_truly_30 : decode cX12_truly 30 = .ok (.iload_n 3, 1) := by decide +kernel
theorem dX12_truly_31 : decode cX12_truly 31 = .ok (.iload_n 1, 1) := by decide +kernel
theorem dX12_truly_32 : decode cX12_truly 32 = .ok (.aload_n 0, 1) := by decide +kernel
theorem dX12_truly_33 : decode cX12_truly 33 = .ok (.getfield 141, 3) := by decide +kernel
theorem dX12_truly_36 : decode cX12_truly 36 = .ok (.invokevirtual 197, 3) := by decide +kernel
theorem dX12_truly_39 : decode cX12_truly 39 = .ok (.ifCond .le 7, 3) := by decide +kernel
theorem dX12_truly_42 : decode cX12_truly 42 = .ok (.iconst 1, 1) := by decide +kernel
theorem dX12_truly_43 : decode cX12_truly 43 = .ok (.goto 4, 3) := by decide +kernel
theorem dX12_truly_46 : decode cX12_truly 46 = .ok (.iconst 0, 1) := by decide +kernel
theorem dX12_truly_47 : decode cX12_truly 47 = .ok (.istore_n 2, 1) := by decide +kernel
theorem dX12_truly_48 : decode cX12_truly 48 = .ok (.iinc 3 1, 3) := by decide +kernel
theorem dX12_truly_51 : decode cX12_truly 51 = .ok (.goto (-47), 3) := by decide +kernel
theorem dX12_truly_54 : decode cX12_truly 54 = .ok (.aload_n 0, 1) := by decide +kernel
theorem dX12_truly_55 : decode cX12_truly 55 = .ok (.iload_n 1, 1) := by decide +kernel
theorem dX12_truly_56 : decode cX12_truly 56 = .ok (.iload_n 2, 1) := by decide +kernel
theorem dX12_truly_57 : decode cX12_truly 57 = .ok (.invokevirtual 225, 3) := by decide +kernel
theorem dX12_truly_60 : decode cX12_truly 60 = .ok (.ireturn, 1) := by decide +kernel
theorem dX12_asShown_0 : decode cX12_asShown 0 = .ok (.aload_n 0, 1) := by decide +kernel
theorem dX12_asShown_1 : decode cX12_asShown 1 = .ok (.iload_n 1, 1) := by decide +kernel
theorem dX12_asShown_2 : decode cX12_asShown 2 = .ok (.iload_n 2, 1) := by decide +kernel
theorem dX12_asShown_3 : decode cX12_asShown 3 = .ok (.bipush (-9), 2) := by decide +kernel
theorem dX12_asShown_5 : decode cX12_asShown 5 = .ok (.if_icmp .eq 20, 3) := by decide +kernel
theorem dX12_asShown_8 : decode cX12_asShown 8 = .ok (.aload_n 0, 1) := by decide +kernel
theorem dX12_asShown_9 : decode cX12_asShown 9 = .ok (.iload_n 2, 1) := by decide +kernel
theorem dX12_asShown_10 : decode cX12_asShown 10 = .ok (.iload_n 1, 1) := by decide +kernel
theorem dX12_asShown_11 : decode cX12_asShown 11 = .ok (.aload_n 0, 1) := by decide +kernel
theorem dX12_asShown_12 : decode cX12_asShown 12 = .ok (.getfield 141, 3) := by decide +kernel
theorem dX12_asShown_15 : decode cX12_asShown 15 = .ok (.invokevirtual 197, 3) := by decide +kernel
theorem dX12_asShown_18 : decode cX12_asShown 18 = .ok (.ifCond .le 7, 3) := by decide +kernel
theorem dX12_asShown_21 : decode cX12_asShown 21 = .ok (.iconst 1, 1) := by decide +kernel
theorem dX12_asShown_22 : decode cX12_asShown 22 = .ok (.goto 4, 3) := by decide +kernel
theorem dX12_asShown_25 : decode cX12_asShown 25 = .ok (.iconst 0, 1) := by decide +kernel
theorem dX12_asShown_26 : decode cX12_asShown 26 = .ok (.invokevirtual 225, 3) := by decide +kernel
theorem dX12_asShown_29 : decode cX12_asShown 29 = .ok (.ireturn, 1) := by decide +kernel
theorem dX12_may_0 : decode cX12_may 0 = .ok (.aload_n 0, 1) := by decide +kernel
theorem dX12_may_1 : decode cX12_may 1 = .ok (.iconst 0, 1) := by decide +kernel
theorem dX12_may_2 : decode cX12_may 2 = .ok (.putfield 100, 3) := by decide +kernel
theorem dX12_may_5 : decode cX12_may 5 = .ok (.aload_n 0, 1) := by decide +kernel
theorem dX12_may_6 : decode cX12_may 6 = .ok (.iload_n 1, 1) := by decide +kernel
theorem dX12_may_7 : decode cX12_may 7 = .ok (.invokevirtual 144, 3) := by decide +kernel
theorem dX12_may_10 : decode cX12_may 10 = .ok (.ifCond .ne 17, 3) := by decide +kernel
theorem dX12_may_13 : decode cX12_may 13 = .ok (.iload_n 2, 1) := by decide +kernel
theorem dX12_may_14 : decode cX12_may 14 = .ok (.bipush (-9), 2) := by decide +kernel
theorem dX12_may_16 : decode cX12_may 16 = .ok (.if_icmp .eq 13, 3) := by decide +kernel
theorem dX12_may_19 : decode cX12_may 19 = .ok (.aload_n 0, 1) := by decide +kernel
theorem dX12_may_20 : decode cX12_may 20 = .ok (.iload_n 2, 1) := by decide +kernel
theorem dX12_may_21 : decode cX12_may 21 = .ok (.invokevirtual 191, 3) := by decide +kernel
theorem dX12_may_24 : decode cX12_may 24 = .ok (.ifCond .eq 5, 3) := by decide +kernel
theorem dX12_may_27 : decode cX12_may 27 = .ok (.iconst (-1), 1) := by decide +kernel
theorem dX12_may_28 : decode cX12_may 28 = .ok (.ireturn, 1) := by decide +kernel
theorem dX12_may_29 : decode cX12_may 29 = .ok (.aload_n 0, 1) := by decide +kernel
theorem dX12_may_30 : decode cX12_may 30 = .ok (.iload_n 1, 1) := by decide +kernel
theorem dX12_may_31 : decode cX12_may 31 = .ok (.iload_n 2, 1) := by decide +kernel
theorem dX12_may_32 : decode cX12_may 32 = .ok (.invokevirtual 229, 3) := by decide +kernel
theorem dX12_may_35 : decode cX12_may 35 = .ok (.ifCond .eq 7, 3) := by decide +kernel
theorem dX12_may_38 : decode cX12_may 38 = .ok (.iconst 1, 1) := by decide +kernel
theorem dX12_may_39 : decode cX12_may 39 = .ok (.goto 4, 3) := by decide +kernel
theorem dX12_may_42 : decode cX12_may 42 = .ok (.iconst 0, 1) := by decide +kernel
theorem dX12_may_43 : decode cX12_may 43 = .ok (.ireturn, 1) := by decide +kernel
theorem dX12_mayTruly_0 : decode cX12_mayTruly 0 = .ok (.aload_n 0, 1) := by decide +kernel
theorem dX12_mayTruly_1 : decode cX12_mayTruly 1 = .ok (.iconst 0, 1) := by decide +kernel
theorem dX12_mayTruly_2 : decode cX12_mayTruly 2 = .ok (.putfield 100, 3) := by decide +kernel
theorem dX12_mayTruly_5 : decode cX12_mayTruly 5 = .ok (.aload_n 0, 1) := by decide +kernel
theorem dX12_mayTruly_6 : decode cX12_mayTruly 6 = .ok (.iload_n 1, 1) := by decide +kernel
theorem dX12_mayTruly_7 : decode cX12_mayTruly 7 = .ok (.invokevirtual 144, 3) := by decide +kernel
theorem dX12_mayTruly_10 : decode cX12_mayTruly 10 = .ok (.ifCond .eq 7, 3) := by decide +kernel
theorem dX12_mayTruly_13 : decode cX12_mayTruly 13 = .ok (.iconst (-1), 1) := by decide +kernel
theorem dX12_mayTruly_14 : decode cX12_mayTruly 14 = .ok (.goto 16, 3) := by decide +kernel
theorem dX12_mayTruly_17 : decode cX12_mayTruly 17 = .ok (.aload_n 0, 1) := by decide +kernel
theorem dX12_mayTruly_18 : decode cX12_mayTruly 18 = .ok (.iload_n 1, 1) := by decide +kernel
theorem dX12_mayTruly_19 : decode cX12_mayTruly 19 = .ok (.invokevirtual 233, 3) := by decide +kernel
theorem dX12_mayTruly_22 : decode cX12_mayTruly 22 = .ok (.ifCond .eq 7, 3) := by decide +kernel
theorem dX12_mayTruly_25 : decode cX12_mayTruly 25 = .ok (.iconst 1, 1) := by decide +kernel
theorem dX12_mayTruly_26 : decode cX12_mayTruly 26 = .ok (.goto 4, 3) := by decide +kernel
theorem dX12_mayTruly_29 : decode cX12_mayTruly 29 = .ok (.iconst 0, 1) := by decide +kernel
theorem dX12_mayTruly_30 : decode cX12_mayTruly 30 = .ok (.ireturn, 1) := by decide +kernel
theorem dX12_take_0 : decode cX12_take 0 = .ok (.aload_n 0, 1) := by decide +kernel
theorem dX12_take_1 : decode cX12_take 1 = .ok (.iconst 0, 1) := by decide +kernel
theorem dX12_take_2 : decode cX12_take 2 = .ok (.putfield 100, 3) := by decide +kernel
theorem dX12_take_5 : decode cX12_take 5 = .ok (.aload_n 0, 1) := by decide +kernel
theorem dX12_take_6 : decode cX12_take 6 = .ok (.iload_n 1, 1) := by decide +kernel
theorem dX12_take_7 : decode cX12_take 7 = .ok (.invokevirtual 144, 3) := by decide +kernel
theorem dX12_take_10 : decode cX12_take 10 = .ok (.ifCond .ne 17, 3) := by decide +kernel
theorem dX12_take_13 : decode cX12_take 13 = .ok (.iload_n 2, 1) := by decide +kernel
theorem dX12_take_14 : decode cX12_take 14 = .ok (.bipush (-9), 2) := by decide +kernel
theorem dX12_take_16 : decode cX12_take 16 = .ok (.if_icmp .eq 13, 3) := by decide +kernel
theorem dX12_take_19 : decode cX12_take 19 = .ok (.aload_n 0, 1) := by decide +kernel
theorem dX12_take_20 : decode cX12_take 20 = .ok (.iload_n 2, 1) := by decide +kernel
theorem dX12_take_21 : decode cX12_take 21 = .ok (.invokevirtual 191, 3) := by decide +kernel
theorem dX12_take_24 : decode cX12_take 24 = .ok (.ifCond .eq 5, 3) := by decide +kernel
theorem dX12_take_27 : decode cX12_take 27 = .ok (.iconst (-1), 1) := by decide +kernel
theorem dX12_take_28 : decode cX12_take 28 = .ok (.ireturn, 1) := by decide +kernel
theorem dX12_take_29 : decode cX12_take 29 = .ok (.aload_n 0, 1) := by decide +kernel
theorem dX12_take_30 : decode cX12_take 30 = .ok (.iload_n 1, 1) := by decide +kernel
theorem dX12_take_31 : decode cX12_take 31 = .ok (.invokevirtual 154, 3) := by decide +kernel
theorem dX12_take_34 : decode cX12_take 34 = .ok (.istore_n 3, 1) := by decide +kernel
theorem dX12_take_35 : decode cX12_take 35 = .ok (.iload_n 3, 1) := by decide +kernel
theorem dX12_take_36 : decode cX12_take 36 = .ok (.invokestatic 171, 3) := by decide +kernel
theorem dX12_take_39 : decode cX12_take 39 = .ok (.ifCond .ne 27, 3) := by decide +kernel
theorem dX12_take_42 : decode cX12_take 42 = .ok (.aload_n 0, 1) := by decide +kernel
theorem dX12_take_43 : decode cX12_take 43 = .ok (.iload_n 3, 1) := by decide +kernel
theorem dX12_take_44 : decode cX12_take 44 = .ok (.invokevirtual 236, 3) := by decide +kernel
theorem dX12_take_47 : decode cX12_take 47 = .ok (.ifCond .eq 16, 3) := by decide +kernel
theorem dX12_take_50 : decode cX12_take 50 = .ok (.aload_n 0, 1) := by decide +kernel
theorem dX12_take_51 : decode cX12_take 51 = .ok (.getfield 31, 3) := by decide +kernel
theorem dX12_take_54 : decode cX12_take 54 = .ok (.iload_n 3, 1) := by decide +kernel
theorem dX12_take_55 : decode cX12_take 55 = .ok (.bipush 10, 2) := by decide +kernel
theorem dX12_take_57 : decode cX12_take 57 = .ok (.isub, 1) := by decide +kernel
theorem dX12_take_58 : decode cX12_take 58 = .ok (.iaload, 1) := by decide +kernel
theorem dX12_take_59 : decode cX12_take 59 = .ok (.iconst 1, 1) := by decide +kernel
theorem dX12_take_60 : decode cX12_take 60 = .ok (.if_icmp .eq 6, 3) := by decide +kernel
theorem dX12_take_63 : decode cX12_take 63 = .ok (.bipush (-3), 2) := by decide +kernel
theorem dX12_take_65 : decode cX12_take 65 = .ok (.ireturn, 1) := by decide +kernel
theorem dX12_take_66 : decode cX12_take 66 = .ok (.aload_n 0, 1) := by decide +kernel
theorem dX12_take_67 : decode cX12_take 67 = .ok (.getfield 168, 3) := by decide +kernel
theorem dX12_take_70 : decode cX12_take 70 = .ok (.bipush 60, 2) := by decide +kernel
theorem dX12_take_72 : decode cX12_take 72 = .ok (.if_icmp .ne 6, 3) := by decide +kernel
theorem dX12_take_75 : decode cX12_take 75 = .ok (.bipush (-4), 2) := by decide +kernel
theorem dX12_take_77 : decode cX12_take 77 = .ok (.ireturn, 1) := by decide +kernel
theorem dX12_take_78 : decode cX12_take 78 = .ok (.bipush 6, 2) := by decide +kernel
theorem dX12_take_80 : decode cX12_take 80 = .ok (.aload_n 0, 1) := by decide +kernel
theorem dX12_take_81 : decode cX12_take 81 = .ok (.getfield 168, 3) := by decide +kernel
theorem dX12_take_84 : decode cX12_take 84 = .ok (.imul, 1) := by decide +kernel
theorem dX12_take_85 : decode cX12_take 85 = .ok (.istore 4, 2) := by decide +kernel
theorem dX12_take_87 : decode cX12_take 87 = .ok (.aload_n 0, 1) := by decide +kernel
theorem dX12_take_88 : decode cX12_take 88 = .ok (.getfield 61, 3) := by decide +kernel
theorem dX12_take_91 : decode cX12_take 91 = .ok (.iload 4, 2) := by decide +kernel
theorem dX12_take_93 : decode cX12_take 93 = .ok (.aload_n 0, 1) := by decide +kernel
theorem dX12_take_94 : decode cX12_take 94 = .ok (.getfield 141, 3) := by decide +kernel
theorem dX12_take_97 : decode cX12_take 97 = .ok (.iastore, 1) := by decide +kernel
theorem dX12_take_98 : decode cX12_take 98 = .ok (.aload_n 0, 1) := by decide +kernel
theorem dX12_take_99 : decode cX12_take 99 = .ok (.getfield 61, 3) := by decide +kernel
theorem dX12_take_102 : decode cX12_take 102 = .ok (.iload 4, 2) := by decide +kernel
theorem dX12_take_104 : decode cX12_take 104 = .ok (.iconst 1, 1) := by decide +kernel
theorem dX12_take_105 : decode cX12_take 105 = .ok (.iadd, 1) := by decide +kernel
theorem dX12_take_106 : decode cX12_take 106 = .ok (.iload_n 1, 1) := by decide +kernel
theorem dX12_take_107 : decode cX12_take 107 = .ok (.iastore, 1) := by decide +kernel
theorem dX12_take_108 : decode cX12_take 108 = .ok (.aload_n 0, 1) := by decide +kernel
theorem dX12_take_109 : decode cX12_take 109 = .ok (.getfield 61, 3) := by decide +kernel
theorem dX12_take_112 : decode cX12_take 112 = .ok (.iload 4, 2) := by decide +kernel
theorem dX12_take_114 : decode cX12_take 114 = .ok (.iconst 2, 1) := by decide +kernel
theorem dX12_take_115 : decode cX12_take 115 = .ok (.iadd, 1) := by decide +kernel
theorem dX12_take_116 : decode cX12_take 116 = .ok (.iload_n 2, 1) := by decide +kernel
theorem dX12_take_117 : decode cX12_take 117 = .ok (.iastore, 1) := by decide +kernel
theorem dX12_take_118 : decode cX12_take 118 = .ok (.aload_n 0, 1) := by decide +kernel
theorem dX12_take_119 : decode cX12_take 119 = .ok (.getfield 61, 3) := by decide +kernel
theorem dX12_take_122 : decode cX12_take 122 = .ok (.iload 4, 2) := by decide +kernel
theorem dX12_take_124 : decode cX12_take 124 = .ok (.iconst 3, 1) := by decide +kernel
theorem dX12_take_125 : decode cX12_take 125 = .ok (.iadd, 1) := by decide +kernel
theorem dX12_take_126 : decode cX12_take 126 = .ok (.iload_n 3, 1) := by decide +kernel
theorem dX12_take_127 : decode cX12_take 127 = .ok (.iastore, 1) := by decide +kernel
theorem dX12_take_128 : decode cX12_take 128 = .ok (.aload_n 0, 1) := by decide +kernel
theorem dX12_take_129 : decode cX12_take 129 = .ok (.getfield 61, 3) := by decide +kernel
theorem dX12_take_132 : decode cX12_take 132 = .ok (.iload 4, 2) := by decide +kernel
theorem dX12_take_134 : decode cX12_take 134 = .ok (.iconst 4, 1) := by decide +kernel
theorem dX12_take_135 : decode cX12_take 135 = .ok (.iadd, 1) := by decide +kernel
theorem dX12_take_136 : decode cX12_take 136 = .ok (.aload_n 0, 1) := by decide +kernel
theorem dX12_take_137 : decode cX12_take 137 = .ok (.iload_n 1, 1) := by decide +kernel
theorem dX12_take_138 : decode cX12_take 138 = .ok (.iload_n 2, 1) := by decide +kernel
theorem dX12_take_139 : decode cX12_take 139 = .ok (.invokevirtual 229, 3) := by decide +kernel
theorem dX12_take_142 : decode cX12_take 142 = .ok (.ifCond .eq 7, 3) := by decide +kernel
theorem dX12_take_145 : decode cX12_take 145 = .ok (.iconst 1, 1) := by decide +kernel
theorem dX12_take_146 : decode cX12_take 146 = .ok (.goto 4, 3) := by decide +kernel
theorem dX12_take_149 : decode cX12_take 149 = .ok (.iconst 0, 1) := by decide +kernel
theorem dX12_take_150 : decode cX12_take 150 = .ok (.iastore, 1) := by decide +kernel
theorem dX12_take_151 : decode cX12_take 151 = .ok (.aload_n 0, 1) := by decide +kernel
theorem dX12_take_152 : decode cX12_take 152 = .ok (.getfield 61, 3) := by decide +kernel
theorem dX12_take_155 : decode cX12_take 155 = .ok (.iload 4, 2) := by decide +kernel
theorem dX12_take_157 : decode cX12_take 157 = .ok (.iconst 5, 1) := by decide +kernel
theorem dX12_take_158 : decode cX12_take 158 = .ok (.iadd, 1) := by decide +kernel
theorem dX12_take_159 : decode cX12_take 159 = .ok (.aload_n 0, 1) := by decide +kernel
theorem dX12_take_160 : decode cX12_take 160 = .ok (.iload_n 1, 1) := by decide +kernel
theorem dX12_take_161 : decode cX12_take 161 = .ok (.invokevirtual 233, 3) := by decide +kernel
theorem dX12_take_164 : decode cX12_take 164 = .ok (.ifCond .eq 7, 3) := by decide +kernel
theorem dX12_take_167 : decode cX12_take 167 = .ok (.iconst 1, 1) := by decide +kernel
theorem dX12_take_168 : decode cX12_take 168 = .ok (.goto 4, 3) := by decide +kernel
theorem dX12_take_171 : decode cX12_take 171 = .ok (.iconst 0, 1) := by decide +kernel
theorem dX12_take_172 : decode cX12_take 172 = .ok (.iastore, 1) := by decide +kernel
theorem dX12_take_173 : decode cX12_take 173 = .ok (.aload_n 0, 1) := by decide +kernel
theorem dX12_take_174 : decode cX12_take 174 = .ok (.dup, 1) := by decide +kernel
theorem dX12_take_175 : decode cX12_take 175 = .ok (.getfield 168, 3) := by decide +kernel
theorem dX12_take_178 : decode cX12_take 178 = .ok (.iconst 1, 1) := by decide +kernel
theorem dX12_take_179 : decode cX12_take 179 = .ok (.iadd, 1) := by decide +kernel
theorem dX12_take_180 : decode cX12_take 180 = .ok (.putfield 168, 3) := by decide +kernel
theorem dX12_take_183 : decode cX12_take 183 = .ok (.aload_n 0, 1) := by decide +kernel
theorem dX12_take_184 : decode cX12_take 184 = .ok (.iload_n 1, 1) := by decide +kernel
theorem dX12_take_185 : decode cX12_take 185 = .ok (.bipush 20, 2) := by decide +kernel
theorem dX12_take_187 : decode cX12_take 187 = .ok (.invokevirtual 177, 3) := by decide +kernel
theorem dX12_take_190 : decode cX12_take 190 = .ok (.aload_n 0, 1) := by decide +kernel
theorem dX12_take_191 : decode cX12_take 191 = .ok (.getfield 168, 3) := by decide +kernel
theorem dX12_take_194 : decode cX12_take 194 = .ok (.iconst 1, 1) := by decide +kernel
theorem dX12_take_195 : decode cX12_take 195 = .ok (.isub, 1) := by decide +kernel
theorem dX12_take_196 : decode cX12_take 196 = .ok (.ireturn, 1) := by decide +kernel
theorem dX12_taking_0 : decode cX12_taking 0 = .ok (.aload_n 0, 1) := by decide +kernel
theorem dX12_taking_1 : decode cX12_taking 1 = .ok (.iconst 0, 1) := by decide +kernel
theorem dX12_taking_2 : decode cX12_taking 2 = .ok (.putfield 100, 3) := by decide +kernel
theorem dX12_taking_5 : decode cX12_taking 5 = .ok (.iload_n 1, 1) := by decide +kernel
theorem dX12_taking_6 : decode cX12_taking 6 = .ok (.i2l, 1) := by decide +kernel
theorem dX12_taking_7 : decode cX12_taking 7 = .ok (.lconst 0, 1) := by decide +kernel
theorem dX12_taking_8 : decode cX12_taking 8 = .ok (.aload_n 0, 1) := by decide +kernel
theorem dX12_taking_9 : decode cX12_taking 9 = .ok (.getfield 168, 3) := by decide +kernel
theorem dX12_taking_12 : decode cX12_taking 12 = .ok (.iconst 1, 1) := by decide +kernel
theorem dX12_taking_13 : decode cX12_taking 13 = .ok (.isub, 1) := by decide +kernel
theorem dX12_taking_14 : decode cX12_taking 14 = .ok (.i2l, 1) := by decide +kernel
theorem dX12_taking_15 : decode cX12_taking 15 = .ok (.invokestatic 103, 3) := by decide +kernel
theorem dX12_taking_18 : decode cX12_taking 18 = .ok (.ifCond .ne 5, 3) := by decide +kernel
theorem dX12_taking_21 : decode cX12_taking 21 = .ok (.iconst (-1), 1) := by decide +kernel
theorem dX12_taking_22 : decode cX12_taking 22 = .ok (.ireturn, 1) := by decide +kernel
theorem dX12_taking_23 : decode cX12_taking 23 = .ok (.iload_n 2, 1) := by decide +kernel
theorem dX12_taking_24 : decode cX12_taking 24 = .ok (.i2l, 1) := by decide +kernel
theorem dX12_taking_25 : decode cX12_taking 25 = .ok (.lconst 0, 1) := by decide +kernel
theorem dX12_taking_26 : decode cX12_taking 26 = .ok (.ldc2_w 137, 3) := by decide +kernel
theorem dX12_taking_29 : decode cX12_taking 29 = .ok (.invokestatic 103, 3) := by decide +kernel
theorem dX12_taking_32 : decode cX12_taking 32 = .ok (.ifCond .eq 17, 3) := by decide +kernel
theorem dX12_taking_35 : decode cX12_taking 35 = .ok (.aload_n 0, 1) := by decide +kernel
theorem dX12_taking_36 : decode cX12_taking 36 = .ok (.getfield 61, 3) := by decide +kernel
theorem dX12_taking_39 : decode cX12_taking 39 = .ok (.bipush 6, 2) := by decide +kernel
theorem dX12_taking_41 : decode cX12_taking 41 = .ok (.iload_n 1, 1) := by decide +kernel
theorem dX12_taking_42 : decode cX12_taking 42 = .ok (.imul, 1) := by decide +kernel
theorem dX12_taking_43 : decode cX12_taking 43 = .ok (.iload_n 2, 1) := by decide +kernel
theorem dX12_taking_44 : decode cX12_taking 44 = .ok (.iadd, 1) := by decide +kernel
theorem dX12_taking_45 : decode cX12_taking 45 = .ok (.iaload, 1) := by decide +kernel
theorem dX12_taking_46 : decode cX12_taking 46 = .ok (.goto 5, 3) := by decide +kernel
theorem dX12_taking_49 : decode cX12_taking 49 = .ok (.bipush (-2), 2) := by decide +kernel
theorem dX12_taking_51 : decode cX12_taking 51 = .ok (.ireturn, 1) := by decide +kernel
theorem dX12_isWronged_0 : decode cX12_isWronged 0 = .ok (.bipush (-9), 2) := by decide +kernel
theorem dX12_isWronged_2 : decode cX12_isWronged 2 = .ok (.istore_n 2, 1) := by decide +kernel
theorem dX12_isWronged_3 : decode cX12_isWronged 3 = .ok (.iconst 0, 1) := by decide +kernel
theorem dX12_isWronged_4 : decode cX12_isWronged 4 = .ok (.istore_n 3, 1) := by decide +kernel
theorem dX12_isWronged_5 : decode cX12_isWronged 5 = .ok (.iload_n 3, 1) := by decide +kernel
theorem dX12_isWronged_6 : decode cX12_isWronged 6 = .ok (.aload_n 0, 1) := by decide +kernel
theorem dX12_isWronged_7 : decode cX12_isWronged 7 = .ok (.getfield 168, 3) := by decide +kernel
theorem dX12_isWronged_10 : decode cX12_isWronged 10 = .ok (.if_icmp .ge 30, 3) := by decide +kernel
theorem dX12_isWronged_13 : decode cX12_isWronged 13 = .ok (.aload_n 0, 1) := by decide +kernel
theorem dX12_isWronged_14 : decode cX12_isWronged 14 = .ok (.getfield 61, 3) := by decide +kernel
theorem dX12_isWronged_17 : decode cX12_isWronged 17 = .ok (.bipush 6, 2) := by decide +kernel
theorem dX12_isWronged_19 : decode cX12_isWronged 19 = .ok (.iload_n 3, 1) := by decide +kernel
theorem dX12_isWronged_20 : decode cX12_isWronged 20 = .ok (.imul, 1) := by decide +kernel
theorem dX12_isWronged_21 : decode cX12_isWronged 21 = .ok (.iconst 1, 1) := by decide +kernel
theorem dX12_isWronged_22 : decode cX12_isWronged 22 = .ok (.iadd, 1) := by decide +kernel
theorem dX12_isWronged_23 : decode cX12_isWronged 23 = .ok (.iaload, 1) := by decide +kernel
theorem dX12_isWronged_24 : decode cX12_isWronged 24 = .ok (.iload_n 1, 1) := by decide +kernel
theorem dX12_isWronged_25 : decode cX12_isWronged 25 = .ok (.if_icmp .ne 7, 3) := by decide +kernel
theorem dX12_isWronged_28 : decode cX12_isWronged 28 = .ok (.iload_n 3, 1) := by decide +kernel
theorem dX12_isWronged_29 : decode cX12_isWronged 29 = .ok (.goto 4, 3) := by decide +kernel
theorem dX12_isWronged_32 : decode cX12_isWronged 32 = .ok (.iload_n 2, 1) := by decide +kernel
theorem dX12_isWronged_33 : decode cX12_isWronged 33 = .ok (.istore_n 2, 1) := by decide +kernel
theorem dX12_isWronged_34 : decode cX12_isWronged 34 = .ok (.iinc 3 1, 3) := by decide +kernel
theorem dX12_isWronged_37 : decode cX12_isWronged 37 = .ok (.goto (-32), 3) := by decide +kernel
theorem dX12_isWronged_40 : decode cX12_isWronged 40 = .ok (.aload_n 0, 1) := by decide +kernel
theorem dX12_isWronged_41 : decode cX12_isWronged 41 = .ok (.iload_n 1, 1) := by decide +kernel
theorem dX12_isWronged_42 : decode cX12_isWronged 42 = .ok (.invokevirtual 154, 3) := by decide +kernel
theorem dX12_isWronged_45 : decode cX12_isWronged 45 = .ok (.istore_n 3, 1) := by decide +kernel
theorem dX12_isWronged_46 : decode cX12_isWronged 46 = .ok (.iload_n 3, 1) := by decide +kernel
theorem dX12_isWronged_47 : decode cX12_isWronged 47 = .ok (.bipush 20, 2) := by decide +kernel
theorem dX12_isWronged_49 : decode cX12_isWronged 49 = .ok (.if_icmp .eq 28, 3) := by decide +kernel
theorem dX12_isWronged_52 : decode cX12_isWronged 52 = .ok (.iload_n 3, 1) := by decide +kernel
theorem dX12_isWronged_53 : decode cX12_isWronged 53 = .ok (.bipush 21, 2) := by decide +kernel
theorem dX12_isWronged_55 : decode cX12_isWronged 55 = .ok (.if_icmp .eq 22, 3) := by decide +kernel
theorem dX12_isWronged_58 : decode cX12_isWronged 58 = .ok (.iload_n 3, 1) := by decide +kernel
theorem dX12_isWronged_59 : decode cX12_isWronged 59 = .ok (.invokestatic 151, 3) := by decide +kernel
theorem dX12_isWronged_62 : decode cX12_isWronged 62 = .ok (.ifCond .eq 19, 3) := by decide +kernel
theorem dX12_isWronged_65 : decode cX12_isWronged 65 = .ok (.aload_n 0, 1) := by decide +kernel
theorem dX12_isWronged_66 : decode cX12_isWronged 66 = .ok (.getfield 31, 3) := by decide +kernel
theorem dX12_isWronged_69 : decode cX12_isWronged 69 = .ok (.iload_n 3, 1) := by decide +kernel
theorem dX12_isWronged_70 : decode cX12_isWronged 70 = .ok (.bipush 10, 2) := by decide +kernel
theorem dX12_isWronged_72 : decode cX12_isWronged 72 = .ok (.isub, 1) := by decide +kernel
theorem dX12_isWronged_73 : decode cX12_isWronged 73 = .ok (.iaload, 1) := by decide +kernel
theorem dX12_isWronged_74 : decode cX12_isWronged 74 = .ok (.ifCond .ne 7, 3) := by decide +kernel
theorem dX12_isWronged_77 : decode cX12_isWronged 77 = .ok (.iconst 1, 1) := by decide +kernel
theorem dX12_isWronged_78 : decode cX12_isWronged 78 = .ok (.goto 4, 3) := by decide +kernel
theorem dX12_isWronged_81 : decode cX12_isWronged 81 = .ok (.iconst 0, 1) := by decide +kernel
theorem dX12_isWronged_82 : decode cX12_isWronged 82 = .ok (.istore 4, 2) := by decide +kernel
theorem dX12_isWronged_84 : decode cX12_isWronged 84 = .ok (.iload_n 2, 1) := by decide +kernel
theorem dX12_isWronged_85 : decode cX12_isWronged 85 = .ok (.bipush (-9), 2) := by decide +kernel
theorem dX12_isWronged_87 : decode cX12_isWronged 87 = .ok (.if_icmp .eq 26, 3) := by decide +kernel
theorem dX12_isWronged_90 : decode cX12_isWronged 90 = .ok (.aload_n 0, 1) := by decide +kernel
theorem dX12_isWronged_91 : decode cX12_isWronged 91 = .ok (.getfield 61, 3) := by decide +kernel
theorem dX12_isWronged_94 : decode cX12_isWronged 94 = .ok (.bipush 6, 2) := by decide +kernel
theorem dX12_isWronged_96 : decode cX12_isWronged 96 = .ok (.iload_n 2, 1) := by decide +kernel
theorem dX12_isWronged_97 : decode cX12_isWronged 97 = .ok (.imul, 1) := by decide +kernel
theorem dX12_isWronged_98 : decode cX12_isWronged 98 = .ok (.iconst 5, 1) := by decide +kernel
theorem dX12_isWronged_99 : decode cX12_isWronged 99 = .ok (.iadd, 1) := by decide +kernel
theorem dX12_isWronged_100 : decode cX12_isWronged 100 = .ok (.iaload, 1) := by decide +kernel
theorem dX12_isWronged_101 : decode cX12_isWronged 101 = .ok (.ifCond .ne 12, 3) := by decide +kernel
theorem dX12_isWronged_104 : decode cX12_isWronged 104 = .ok (.iload 4, 2) := by decide +kernel
theorem dX12_isWronged_106 : decode cX12_isWronged 106 = .ok (.ifCond .eq 7, 3) := by decide +kernel
theorem dX12_isWronged_109 : decode cX12_isWronged 109 = .ok (.iconst 1, 1) := by decide +kernel
theorem dX12_isWronged_110 : decode cX12_isWronged 110 = .ok (.goto 4, 3) := by decide +kernel
theorem dX12_isWronged_113 : decode cX12_isWronged 113 = .ok (.iconst 0, 1) := by decide +kernel
theorem dX12_isWronged_114 : decode cX12_isWronged 114 = .ok (.ireturn, 1) := by decide +kernel
theorem dX12_wronged_0 : decode cX12_wronged 0 = .ok (.aload_n 0, 1) := by decide +kernel
theorem dX12_wronged_1 : decode cX12_wronged 1 = .ok (.iconst 0, 1) := by decide +kernel
theorem dX12_wronged_2 : decode cX12_wronged 2 = .ok (.putfield 100, 3) := by decide +kernel
theorem dX12_wronged_5 : decode cX12_wronged 5 = .ok (.iconst 0, 1) := by decide +kernel
theorem dX12_wronged_6 : decode cX12_wronged 6 = .ok (.istore_n 1, 1) := by decide +kernel
theorem dX12_wronged_7 : decode cX12_wronged 7 = .ok (.iconst 0, 1) := by decide +kernel
theorem dX12_wronged_8 : decode cX12_wronged 8 = .ok (.istore_n 2, 1) := by decide +kernel
theorem dX12_wronged_9 : decode cX12_wronged 9 = .ok (.iload_n 2, 1) := by decide +kernel
theorem dX12_wronged_10 : decode cX12_wronged 10 = .ok (.aload_n 0, 1) := by decide +kernel
theorem dX12_wronged_11 : decode cX12_wronged 11 = .ok (.getfield 107, 3) := by decide +kernel
theorem dX12_wronged_14 : decode cX12_wronged 14 = .ok (.if_icmp .ge 25, 3) := by decide +kernel
theorem dX12_wronged_17 : decode cX12_wronged 17 = .ok (.iload_n 1, 1) := by decide +kernel
theorem dX12_wronged_18 : decode cX12_wronged 18 = .ok (.aload_n 0, 1) := by decide +kernel
theorem dX12_wronged_19 : decode cX12_wronged 19 = .ok (.iload_n 2, 1) := by decide +kernel
theorem dX12_wronged_20 : decode cX12_wronged 20 = .ok (.invokevirtual 239, 3) := by decide +kernel
theorem dX12_wronged_23 : decode cX12_wronged 23 = .ok (.ifCond .eq 7, 3) := by decide +kernel
theorem dX12_wronged_26 : decode cX12_wronged 26 = .ok (.iconst 1, 1) := by decide +kernel
theorem dX12_wronged_27 : decode cX12_wronged 27 = .ok (.goto 4, 3) := by decide +kernel
theorem dX12_wronged_30 : decode cX12_wronged 30 = .ok (.iconst 0, 1) := by decide +kernel
theorem dX12_wronged_31 : decode cX12_wronged 31 = .ok (.iadd, 1) := by decide +kernel
theorem dX12_wronged_32 : decode cX12_wronged 32 = .ok (.istore_n 1, 1) := by decide +kernel
theorem dX12_wronged_33 : decode cX12_wronged 33 = .ok (.iinc 2 1, 3) := by decide +kernel
theorem dX12_wronged_36 : decode cX12_wronged 36 = .ok (.goto (-27), 3) := by decide +kernel
theorem dX12_wronged_39 : decode cX12_wronged 39 = .ok (.iload_n 1, 1) := by decide +kernel
theorem dX12_wronged_40 : decode cX12_wronged 40 = .ok (.ireturn, 1) := by decide +kernel
theorem dX12_wrongedMan_0 : decode cX12_wrongedMan 0 = .ok (.aload_n 0, 1) := by decide +kernel
theorem dX12_wrongedMan_1 : decode cX12_wrongedMan 1 = .ok (.iconst 0, 1) := by decide +kernel
theorem dX12_wrongedMan_2 : decode cX12_wrongedMan 2 = .ok (.putfield 100, 3) := by decide +kernel
theorem dX12_wrongedMan_5 : decode cX12_wrongedMan 5 = .ok (.iconst 0, 1) := by decide +kernel
theorem dX12_wrongedMan_6 : decode cX12_wrongedMan 6 = .ok (.istore_n 2, 1) := by decide +kernel
theorem dX12_wrongedMan_7 : decode cX12_wrongedMan 7 = .ok (.iconst 0, 1) := by decide +kernel
theorem dX12_wrongedMan_8 : decode cX12_wrongedMan 8 = .ok (.istore_n 3, 1) := by decide +kernel
theorem dX12_wrongedMan_9 : decode cX12_wrongedMan 9 = .ok (.iload_n 3, 1) := by decide +kernel
theorem dX12_wrongedMan_10 : decode cX12_wrongedMan 10 = .ok (.aload_n 0, 1) := by decide +kernel
theorem dX12_wrongedMan_11 : decode cX12_wrongedMan 11 = .ok (.getfield 107, 3) := by decide +kernel
theorem dX12_wrongedMan_14 : decode cX12_wrongedMan 14 = .ok (.if_icmp .ge 27, 3) := by decide +kernel
theorem dX12_wrongedMan_17 : decode cX12_wrongedMan 17 = .ok (.aload_n 0, 1) := by decide +kernel
theorem dX12_wrongedMan_18 : decode cX12_wrongedMan 18 = .ok (.iload_n 3, 1) := by decide +kernel
theorem dX12_wrongedMan_19 : decode cX12_wrongedMan 19 = .ok (.invokevirtual 239, 3) := by decide +kernel
theorem dX12_wrongedMan_22 : decode cX12_wrongedMan 22 = .ok (.ifCond .eq 13, 3) := by decide +kernel
theorem dX12_wrongedMan_25 : decode cX12_wrongedMan 25 = .ok (.iload_n 2, 1) := by decide +kernel
theorem dX12_wrongedMan_26 : decode cX12_wrongedMan 26 = .ok (.iload_n 1, 1) := by decide +kernel
theorem dX12_wrongedMan_27 : decode cX12_wrongedMan 27 = .ok (.if_icmp .ne 5, 3) := by decide +kernel
theorem dX12_wrongedMan_30 : decode cX12_wrongedMan 30 = .ok (.iload_n 3, 1) := by decide +kernel
theorem dX12_wrongedMan_31 : decode cX12_wrongedMan 31 = .ok (.ireturn, 1) := by decide +kernel
theorem dX12_wrongedMan_32 : decode cX12_wrongedMan 32 = .ok (.iinc 2 1, 3) := by decide +kernel
theorem dX12_wrongedMan_35 : decode cX12_wrongedMan 35 = .ok (.iinc 3 1, 3) := by decide +kernel
theorem dX12_wrongedMan_38 : decode cX12_wrongedMan 38 = .ok (.goto (-29), 3) := by decide +kernel
theorem dX12_wrongedMan_41 : decode cX12_wrongedMan 41 = .ok (.bipush (-9), 2) := by decide +kernel
theorem dX12_wrongedMan_43 : decode cX12_wrongedMan 43 = .ok (.ireturn, 1) := by decide +kernel
theorem dX12_letGo_0 : decode cX12_letGo 0 = .ok (.aload_n 0, 1) := by decide +kernel
theorem dX12_letGo_1 : decode cX12_letGo 1 = .ok (.iconst 0, 1) := by decide +kernel
theorem dX12_letGo_2 : decode cX12_letGo 2 = .ok (.putfield 100, 3) := by decide +kernel
theorem dX12_letGo_5 : decode cX12_letGo 5 = .ok (.aload_n 0, 1) := by decide +kernel
theorem dX12_letGo_6 : decode cX12_letGo 6 = .ok (.iload_n 1, 1) := by decide +kernel
theorem dX12_letGo_7 : decode cX12_letGo 7 = .ok (.invokevirtual 144, 3) := by decide +kernel
theorem dX12_letGo_10 : decode cX12_letGo 10 = .ok (.ifCond .eq 5, 3) := by decide +kernel
theorem dX12_letGo_13 : decode cX12_letGo 13 = .ok (.iconst (-1), 1) := by decide +kernel
theorem dX12_letGo_14 : decode cX12_letGo 14 = .ok (.ireturn, 1) := by decide +kernel
theorem dX12_letGo_15 : decode cX12_letGo 15 = .ok (.aload_n 0, 1) := by decide +kernel
theorem dX12_letGo_16 : decode cX12_letGo 16 = .ok (.iload_n 1, 1) := by decide +kernel
theorem dX12_letGo_17 : decode cX12_letGo 17 = .ok (.invokevirtual 154, 3) := by decide +kernel
theorem dX12_letGo_20 : decode cX12_letGo 20 = .ok (.istore_n 2, 1) := by decide +kernel
theorem dX12_letGo_21 : decode cX12_letGo 21 = .ok (.iload_n 2, 1) := by decide +kernel
theorem dX12_letGo_22 : decode cX12_letGo 22 = .ok (.bipush 20, 2) := by decide +kernel
theorem dX12_letGo_24 : decode cX12_letGo 24 = .ok (.if_icmp .eq 20, 3) := by decide +kernel
theorem dX12_letGo_27 : decode cX12_letGo 27 = .ok (.iload_n 2, 1) := by decide +kernel
theorem dX12_letGo_28 : decode cX12_letGo 28 = .ok (.bipush 21, 2) := by decide +kernel
theorem dX12_letGo_30 : decode cX12_letGo 30 = .ok (.if_icmp .eq 14, 3) := by decide +kernel
theorem dX12_letGo_33 : decode cX12_letGo 33 = .ok (.aload_n 0, 1) := by decide +kernel
theorem dX12_letGo_34 : decode cX12_letGo 34 = .ok (.iload_n 2, 1) := by decide +kernel
theorem dX12_letGo_35 : decode cX12_letGo 35 = .ok (.invokevirtual 236, 3) := by decide +kernel
theorem dX12_letGo_38 : decode cX12_letGo 38 = .ok (.ifCond .ne 6, 3) := by decide +kernel
theorem dX12_letGo_41 : decode cX12_letGo 41 = .ok (.bipush (-3), 2) := by decide +kernel
theorem dX12_letGo_43 : decode cX12_letGo 43 = .ok (.ireturn, 1) := by decide +kernel
theorem dX12_letGo_44 : decode cX12_letGo 44 = .ok (.aload_n 0, 1) := by decide +kernel
theorem dX12_letGo_45 : decode cX12_letGo 45 = .ok (.iload_n 1, 1) := by decide +kernel
theorem dX12_letGo_46 : decode cX12_letGo 46 = .ok (.aload_n 0, 1) := by decide +kernel
theorem dX12_letGo_47 : decode cX12_letGo 47 = .ok (.getfield 21, 3) := by decide +kernel
theorem dX12_letGo_50 : decode cX12_letGo 50 = .ok (.bipush 8, 2) := by decide +kernel
theorem dX12_letGo_52 : decode cX12_letGo 52 = .ok (.iload_n 1, 1) := by decide +kernel
theorem dX12_letGo_53 : decode cX12_letGo 53 = .ok (.imul, 1) := by decide +kernel
theorem dX12_letGo_54 : decode cX12_letGo 54 = .ok (.bipush 6, 2) := by decide +kernel
theorem dX12_letGo_56 : decode cX12_letGo 56 = .ok (.iadd, 1) := by decide +kernel
theorem dX12_letGo_57 : decode cX12_letGo 57 = .ok (.iaload, 1) := by decide +kernel
theorem dX12_letGo_58 : decode cX12_letGo 58 = .ok (.invokevirtual 177, 3) := by decide +kernel
theorem dX12_letGo_61 : decode cX12_letGo 61 = .ok (.iload_n 2, 1) := by decide +kernel
theorem dX12_letGo_62 : decode cX12_letGo 62 = .ok (.ireturn, 1) := by decide +kernel
theorem dX12_quiet_0 : decode cX12_quiet 0 = .ok (.aload_n 0, 1) := by decide +kernel
theorem dX12_quiet_1 : decode cX12_quiet 1 = .ok (.iconst 0, 1) := by decide +kernel
theorem dX12_quiet_2 : decode cX12_quiet 2 = .ok (.putfield 100, 3) := by decide +kernel
theorem dX12_quiet_5 : decode cX12_quiet 5 = .ok (.iconst 0, 1) := by decide +kernel
theorem dX12_quiet_6 : decode cX12_quiet 6 = .ok (.istore_n 1, 1) := by decide +kernel
theorem dX12_quiet_7 : decode cX12_quiet 7 = .ok (.aload_n 0, 1) := by decide +kernel
theorem dX12_quiet_8 : decode cX12_quiet 8 = .ok (.getfield 165, 3) := by decide +kernel
theorem dX12_quiet_11 : decode cX12_quiet 11 = .ok (.istore_n 2, 1) := by decide +kernel
theorem dX12_quiet_12 : decode cX12_quiet 12 = .ok (.iload_n 2, 1) := by decide +kernel
theorem dX12_quiet_13 : decode cX12_quiet 13 = .ok (.aload_n 0, 1) := by decide +kernel
theorem dX12_quiet_14 : decode cX12_quiet 14 = .ok (.getfield 168, 3) := by decide +kernel
theorem dX12_quiet_17 : decode cX12_quiet 17 = .ok (.if_icmp .ge 34, 3) := by decide +kernel
theorem dX12_quiet_20 : decode cX12_quiet 20 = .ok (.iload_n 1, 1) := by decide +kernel
theorem dX12_quiet_21 : decode cX12_quiet 21 = .ok (.aload_n 0, 1) := by decide +kernel
theorem dX12_quiet_22 : decode cX12_quiet 22 = .ok (.getfield 61, 3) := by decide +kernel
theorem dX12_quiet_25 : decode cX12_quiet 25 = .ok (.bipush 6, 2) := by decide +kernel
theorem dX12_quiet_27 : decode cX12_quiet 27 = .ok (.iload_n 2, 1) := by decide +kernel
theorem dX12_quiet_28 : decode cX12_quiet 28 = .ok (.imul, 1) := by decide +kernel
theorem dX12_quiet_29 : decode cX12_quiet 29 = .ok (.iconst 3, 1) := by decide +kernel
theorem dX12_quiet_30 : decode cX12_quiet 30 = .ok (.iadd, 1) := by decide +kernel
theorem dX12_quiet_31 : decode cX12_quiet 31 = .ok (.iaload, 1) := by decide +kernel
theorem dX12_quiet_32 : decode cX12_quiet 32 = .ok (.invokestatic 171, 3) := by decide +kernel
theorem dX12_quiet_35 : decode cX12_quiet 35 = .ok (.ifCond .eq 7, 3) := by decide +kernel
theorem dX12_quiet_38 : decode cX12_quiet 38 = .ok (.iconst 1, 1) := by decide +kernel
theorem dX12_quiet_39 : decode cX12_quiet 39 = .ok (.goto 4, 3) := by decide +kernel
theorem dX12_quiet_42 : decode cX12_quiet 42 = .ok (.iconst 0, 1) := by decide +kernel
theorem dX12_quiet_43 : decode cX12_quiet 43 = .ok (.iadd, 1) := by decide +kernel
theorem dX12_quiet_44 : decode cX12_quiet 44 = .ok (.istore_n 1, 1) := by decide +kernel
theorem dX12_quiet_45 : decode cX12_quiet 45 = .ok (.iinc 2 1, 3) := by decide +kernel
theorem dX12_quiet_48 : decode cX12_quiet 48 = .ok (.goto (-36), 3) := by decide +kernel
theorem dX12_quiet_51 : decode cX12_quiet 51 = .ok (.aload_n 0, 1) := by decide +kernel
theorem dX12_quiet_52 : decode cX12_quiet 52 = .ok (.aload_n 0, 1) := by decide +kernel
theorem dX12_quiet_53 : decode cX12_quiet 53 = .ok (.getfield 168, 3) := by decide +kernel
theorem dX12_quiet_56 : decode cX12_quiet 56 = .ok (.putfield 165, 3) := by decide +kernel
theorem dX12_quiet_59 : decode cX12_quiet 59 = .ok (.iload_n 1, 1) := by decide +kernel
theorem dX12_quiet_60 : decode cX12_quiet 60 = .ok (.ireturn, 1) := by decide +kernel
theorem dX12_heard_0 : decode cX12_heard 0 = .ok (.aload_n 0, 1) := by decide +kernel
theorem dX12_heard_1 : decode cX12_heard 1 = .ok (.iconst 0, 1) := by decide +kernel
theorem dX12_heard_2 : decode cX12_heard 2 = .ok (.putfield 100, 3) := by decide +kernel
theorem dX12_heard_5 : decode cX12_heard 5 = .ok (.aload_n 0, 1) := by decide +kernel
theorem dX12_heard_6 : decode cX12_heard 6 = .ok (.iload_n 1, 1) := by decide +kernel
theorem dX12_heard_7 : decode cX12_heard 7 = .ok (.invokevirtual 120, 3) := by decide +kernel
theorem dX12_heard_10 : decode cX12_heard 10 = .ok (.ifCond .eq 5, 3) := by decide +kernel
theorem dX12_heard_13 : decode cX12_heard 13 = .ok (.iconst (-1), 1) := by decide +kernel
theorem dX12_heard_14 : decode cX12_heard 14 = .ok (.ireturn, 1) := by decide +kernel
theorem dX12_heard_15 : decode cX12_heard 15 = .ok (.aload_n 0, 1) := by decide +kernel
theorem dX12_heard_16 : decode cX12_heard 16 = .ok (.invokevirtual 124, 3) := by decide +kernel
theorem dX12_heard_19 : decode cX12_heard 19 = .ok (.aload_n 0, 1) := by decide +kernel
theorem dX12_heard_20 : decode cX12_heard 20 = .ok (.iload_n 1, 1) := by decide +kernel
theorem dX12_heard_21 : decode cX12_heard 21 = .ok (.invokevirtual 174, 3) := by decide +kernel
theorem dX12_heard_24 : decode cX12_heard 24 = .ok (.ireturn, 1) := by decide +kernel
theorem dX12_tender_0 : decode cX12_tender 0 = .ok (.aload_n 0, 1) := by decide +kernel
theorem dX12_tender_1 : decode cX12_tender 1 = .ok (.iconst 0, 1) := by decide +kernel
theorem dX12_tender_2 : decode cX12_tender 2 = .ok (.putfield 100, 3) := by decide +kernel
theorem dX12_tender_5 : decode cX12_tender 5 = .ok (.iload_n 1, 1) := by decide +kernel
theorem dX12_tender_6 : decode cX12_tender 6 = .ok (.i2l, 1) := by decide +kernel
theorem dX12_tender_7 : decode cX12_tender 7 = .ok (.lconst 0, 1) := by decide +kernel
theorem dX12_tender_8 : decode cX12_tender 8 = .ok (.lconst 1, 1) := by decide +kernel
theorem dX12_tender_9 : decode cX12_tender 9 = .ok (.invokestatic 103, 3) := by decide +kernel
theorem dX12_tender_12 : decode cX12_tender 12 = .ok (.ifCond .eq 25, 3) := by decide +kernel
theorem dX12_tender_15 : decode cX12_tender 15 = .ok (.iload_n 2, 1) := by decide +kernel
theorem dX12_tender_16 : decode cX12_tender 16 = .ok (.i2l, 1) := by decide +kernel
theorem dX12_tender_17 : decode cX12_tender 17 = .ok (.lconst 0, 1) := by decide +kernel
theorem dX12_tender_18 : decode cX12_tender 18 = .ok (.iload_n 1, 1) := by decide +kernel
theorem dX12_tender_19 : decode cX12_tender 19 = .ok (.ifCond .ne 9, 3) := by decide +kernel
theorem dX12_tender_22 : decode cX12_tender 22 = .ok (.ldc2_w 139, 3) := by decide +kernel
theorem dX12_tender_25 : decode cX12_tender 25 = .ok (.goto 6, 3) := by decide +kernel
theorem dX12_tender_28 : decode cX12_tender 28 = .ok (.ldc2_w 242, 3) := by decide +kernel
theorem dX12_tender_31 : decode cX12_tender 31 = .ok (.invokestatic 103, 3) := by decide +kernel
theorem dX12_tender_34 : decode cX12_tender 34 = .ok (.ifCond .ne 6, 3) := by decide +kernel
theorem dX12_tender_37 : decode cX12_tender 37 = .ok (.bipush (-2), 2) := by decide +kernel
theorem dX12_tender_39 : decode cX12_tender 39 = .ok (.ireturn, 1) := by decide +kernel
theorem dX12_tender_40 : decode cX12_tender 40 = .ok (.iload_n 1, 1) := by decide +kernel
theorem dX12_tender_41 : decode cX12_tender 41 = .ok (.ifCond .ne 10, 3) := by decide +kernel
theorem dX12_tender_44 : decode cX12_tender 44 = .ok (.aload_n 0, 1) := by decide +kernel
theorem dX12_tender_45 : decode cX12_tender 45 = .ok (.getfield 64, 3) := by decide +kernel
theorem dX12_tender_48 : decode cX12_tender 48 = .ok (.goto 7, 3) := by decide +kernel
theorem dX12_tender_51 : decode cX12_tender 51 = .ok (.aload_n 0, 1) := by decide +kernel
theorem dX12_tender_52 : decode cX12_tender 52 = .ok (.getfield 67, 3) := by decide +kernel
theorem dX12_tender_55 : decode cX12_tender 55 = .ok (.istore_n 3, 1) := by decide +kernel
theorem dX12_tender_56 : decode cX12_tender 56 = .ok (.iload_n 1, 1) := by decide +kernel
theorem dX12_tender_57 : decode cX12_tender 57 = .ok (.ifCond .ne 11, 3) := by decide +kernel
theorem dX12_tender_60 : decode cX12_tender 60 = .ok (.aload_n 0, 1) := by decide +kernel
theorem dX12_tender_61 : decode cX12_tender 61 = .ok (.iload_n 2, 1) := by decide +kernel
theorem dX12_tender_62 : decode cX12_tender 62 = .ok (.putfield 64, 3) := by decide +kernel
theorem dX12_tender_65 : decode cX12_tender 65 = .ok (.goto 8, 3) := by decide +kernel
theorem dX12_tender_68 : decode cX12_tender 68 = .ok (.aload_n 0, 1) := by decide +kernel
theorem dX12_tender_69 : decode cX12_tender 69 = .ok (.iload_n 2, 1) := by decide +kernel
theorem dX12_tender_70 : decode cX12_tender 70 = .ok (.putfield 67, 3) := by decide +kernel
theorem dX12_tender_73 : decode cX12_tender 73 = .ok (.iload_n 3, 1) := by decide +kernel
theorem dX12_tender_74 : decode cX12_tender 74 = .ok (.ireturn, 1) := by decide +kernel
theorem dX12_meet_0 : decode cX12_meet 0 = .ok (.iload_n 1, 1) := by decide +kernel
theorem dX12_meet_1 : decode cX12_meet 1 = .ok (.istore 4, 2) := by decide +kernel
theorem dX12_meet_3 : decode cX12_meet 3 = .ok (.iload_n 2, 1) := by decide +kernel
theorem dX12_meet_4 : decode cX12_meet 4 = .ok (.iload_n 3, 1) := by decide +kernel
theorem dX12_meet_5 : decode cX12_meet 5 = .ok (.imul, 1) := by decide +kernel
theorem dX12_meet_6 : decode cX12_meet 6 = .ok (.iconst 1, 1) := by decide +kernel
theorem dX12_meet_7 : decode cX12_meet 7 = .ok (.isub, 1) := by decide +kernel
theorem dX12_meet_8 : decode cX12_meet 8 = .ok (.istore 5, 2) := by decide +kernel
theorem dX12_meet_10 : decode cX12_meet 10 = .ok (.iload 5, 2) := by decide +kernel
theorem dX12_meet_12 : decode cX12_meet 12 = .ok (.ifCond .lt 32, 3) := by decide +kernel
theorem dX12_meet_15 : decode cX12_meet 15 = .ok (.aload_n 0, 1) := by decide +kernel
theorem dX12_meet_16 : decode cX12_meet 16 = .ok (.getfield 73, 3) := by decide +kernel
theorem dX12_meet_19 : decode cX12_meet 19 = .ok (.iload 5, 2) := by decide +kernel
theorem dX12_meet_21 : decode cX12_meet 21 = .ok (.iload 4, 2) := by decide +kernel
theorem dX12_meet_23 : decode cX12_meet 23 = .ok (.aload_n 0, 1) := by decide +kernel
theorem dX12_meet_24 : decode cX12_meet 24 = .ok (.getfield 7, 3) := by decide +kernel
theorem dX12_meet_27 : decode cX12_meet 27 = .ok (.irem, 1) := by decide +kernel
theorem dX12_meet_28 : decode cX12_meet 28 = .ok (.iastore, 1) := by decide +kernel
theorem dX12_meet_29 : decode cX12_meet 29 = .ok (.iload 4, 2) := by decide +kernel
theorem dX12_meet_31 : decode cX12_meet 31 = .ok (.aload_n 0, 1) := by decide +kernel
theorem dX12_meet_32 : decode cX12_meet 32 = .ok (.getfield 7, 3) := by decide +kernel
theorem dX12_meet_35 : decode cX12_meet 35 = .ok (.idiv, 1) := by decide +kernel
theorem dX12_meet_36 : decode cX12_meet 36 = .ok (.istore 4, 2) := by decide +kernel
theorem dX12_meet_38 : decode cX12_meet 38 = .ok (.iinc 5 (-1), 3) := by decide +kernel
theorem dX12_meet_41 : decode cX12_meet 41 = .ok (.goto (-31), 3) := by decide +kernel
theorem dX12_meet_44 : decode cX12_meet 44 = .ok (.iconst 0, 1) := by decide +kernel
theorem dX12_meet_45 : decode cX12_meet 45 = .ok (.istore 5, 2) := by decide +kernel
theorem dX12_meet_47 : decode cX12_meet 47 = .ok (.iload 5, 2) := by decide +kernel
theorem dX12_meet_49 : decode cX12_meet 49 = .ok (.iload_n 2, 1) := by decide +kernel
theorem dX12_meet_50 : decode cX12_meet 50 = .ok (.iload_n 3, 1) := by decide +kernel
theorem dX12_meet_51 : decode cX12_meet 51 = .ok (.imul, 1) := by decide +kernel
theorem dX12_meet_52 : decode cX12_meet 52 = .ok (.if_icmp .ge 48, 3) := by decide +kernel
theorem dX12_meet_55 : decode cX12_meet 55 = .ok (.iload 5, 2) := by decide +kernel
theorem dX12_meet_57 : decode cX12_meet 57 = .ok (.iload_n 3, 1) := by decide +kernel
theorem dX12_meet_58 : decode cX12_meet 58 = .ok (.irem, 1) := by decide +kernel
theorem dX12_meet_59 : decode cX12_meet 59 = .ok (.ifCond .le 35, 3) := by decide +kernel
theorem dX12_meet_62 : decode cX12_meet 62 = .ok (.aload_n 0, 1) := by decide +kernel
theorem dX12_meet_63 : decode cX12_meet 63 = .ok (.getfield 17, 3) := by decide +kernel
theorem dX12_meet_66 : decode cX12_meet 66 = .ok (.bipush 8, 2) := by decide +kernel
theorem dX12_meet_68 : decode cX12_meet 68 = .ok (.aload_n 0, 1) := by decide +kernel
theorem dX12_meet_69 : decode cX12_meet 69 = .ok (.getfield 73, 3) := by decide +kernel
theorem dX12_meet_72 : decode cX12_meet 72 = .ok (.iload 5, 2) := by decide +kernel
theorem dX12_meet_74 : decode cX12_meet 74 = .ok (.iconst 1, 1) := by decide +kernel
theorem dX12_meet_75 : decode cX12_meet 75 = .ok (.isub, 1) := by decide +kernel
theorem dX12_meet_76 : decode cX12_meet 76 = .ok (.iaload, 1) := by decide +kernel
theorem dX12_meet_77 : decode cX12_meet 77 = .ok (.imul, 1) := by decide +kernel
theorem dX12_meet_78 : decode cX12_meet 78 = .ok (.aload_n 0, 1) := by decide +kernel
theorem dX12_meet_79 : decode cX12_meet 79 = .ok (.getfield 73, 3) := by decide +kernel
theorem dX12_meet_82 : decode cX12_meet 82 = .ok (.iload 5, 2) := by decide +kernel
theorem dX12_meet_84 : decode cX12_meet 84 = .ok (.iaload, 1) := by decide +kernel
theorem dX12_meet_85 : decode cX12_meet 85 = .ok (.iadd, 1) := by decide +kernel
theorem dX12_meet_86 : decode cX12_meet 86 = .ok (.iaload, 1) := by decide +kernel
theorem dX12_meet_87 : decode cX12_meet 87 = .ok (.iconst 1, 1) := by decide +kernel
theorem dX12_meet_88 : decode cX12_meet 88 = .ok (.if_icmp .le 6, 3) := by decide +kernel
theorem dX12_meet_91 : decode cX12_meet 91 = .ok (.bipush (-9), 2) := by decide +kernel
theorem dX12_meet_93 : decode cX12_meet 93 = .ok (.ireturn, 1) := by decide +kernel
theorem dX12_meet_94 : decode cX12_meet 94 = .ok (.iinc 5 1, 3) := by decide +kernel
theorem dX12_meet_97 : decode cX12_meet 97 = .ok (.goto (-50), 3) := by decide +kernel
theorem dX12_meet_100 : decode cX12_meet 100 = .ok (.iconst 0, 1) := by decide +kernel
theorem dX12_meet_101 : decode cX12_meet 101 = .ok (.istore 5, 2) := by decide +kernel
theorem dX12_meet_103 : decode cX12_meet 103 = .ok (.iload 5, 2) := by decide +kernel
theorem dX12_meet_105 : decode cX12_meet 105 = .ok (.bipush 8, 2) := by decide +kernel
theorem dX12_meet_107 : decode cX12_meet 107 = .ok (.if_icmp .ge 18, 3) := by decide +kernel
theorem dX12_meet_110 : decode cX12_meet 110 = .ok (.aload_n 0, 1) := by decide +kernel
theorem dX12_meet_111 : decode cX12_meet 111 = .ok (.getfield 76, 3) := by decide +kernel
theorem dX12_meet_114 : decode cX12_meet 114 = .ok (.iload 5, 2) := by decide +kernel
theorem dX12_meet_116 : decode cX12_meet 116 = .ok (.bipush (-9), 2) := by decide +kernel
theorem dX12_meet_118 : decode cX12_meet 118 = .ok (.iastore, 1) := by decide +kernel
theorem dX12_meet_119 : decode cX12_meet 119 = .ok (.iinc 5 1, 3) := by decide +kernel
theorem dX12_meet_122 : decode cX12_meet 122 = .ok (.goto (-19), 3) := by decide +kernel
theorem dX12_meet_125 : decode cX12_meet 125 = .ok (.iconst 0, 1) := by decide +kernel
theorem dX12_meet_126 : decode cX12_meet 126 = .ok (.istore 5, 2) := by decide +kernel
theorem dX12_meet_128 : decode cX12_meet 128 = .ok (.iconst 0, 1) := by decide +kernel
theorem dX12_meet_129 : decode cX12_meet 129 = .ok (.istore 6, 2) := by decide +kernel
theorem dX12_meet_131 : decode cX12_meet 131 = .ok (.iload 6, 2) := by decide +kernel
theorem dX12_meet_133 : decode cX12_meet 133 = .ok (.iload_n 3, 1) := by decide +kernel
theorem dX12_meet_134 : decode cX12_meet 134 = .ok (.if_icmp .ge 173, 3) := by decide +kernel
theorem dX12_meet_137 : decode cX12_meet 137 = .ok (.iconst 0, 1) := by decide +kernel
theorem dX12_meet_138 : decode cX12_meet 138 = .ok (.istore 7, 2) := by decide +kernel
theorem dX12_meet_140 : decode cX12_meet 140 = .ok (.iload 7, 2) := by decide +kernel
theorem dX12_meet_142 : decode cX12_meet 142 = .ok (.iload_n 2, 1) := by decide +kernel
theorem dX12_meet_143 : decode cX12_meet 143 = .ok (.if_icmp .ge 158, 3) := by decide +kernel
theorem dX12_meet_146 : decode cX12_meet 146 = .ok (.aload_n 0, 1) := by decide +kernel
theorem dX12_meet_147 : decode cX12_meet 147 = .ok (.getfield 73, 3) := by decide +kernel
theorem dX12_meet_150 : decode cX12_meet 150 = .ok (.iload 7, 2) := by decide +kernel
theorem dX12_meet_152 : decode cX12_meet 152 = .ok (.iload_n 3, 1) := by decide +kernel
theorem dX12_meet_153 : decode cX12_meet 153 = .ok (.imul, 1) := by decide +kernel
theorem dX12_meet_154 : decode cX12_meet 154 = .ok (.iload 6, 2) := by decide +kernel
theorem dX12_meet_156 : decode cX12_meet 156 = .ok (.iadd, 1) := by decide +kernel
theorem dX12_meet_157 : decode cX12_meet 157 = .ok (.iaload, 1) := by decide +kernel
theorem dX12_meet_158 : decode cX12_meet 158 = .ok (.istore 8, 2) := by decide +kernel
theorem dX12_meet_160 : decode cX12_meet 160 = .ok (.aload_n 0, 1) := by decide +kernel
theorem dX12_meet_161 : decode cX12_meet 161 = .ok (.getfield 70, 3) := by decide +kernel
theorem dX12_meet_164 : decode cX12_meet 164 = .ok (.iload 8, 2) := by decide +kernel
theorem dX12_meet_166 : decode cX12_meet 166 = .ok (.iaload, 1) := by decide +kernel
theorem dX12_meet_167 : decode cX12_meet 167 = .ok (.ifCond .le 19, 3) := by decide +kernel
theorem dX12_meet_170 : decode cX12_meet 170 = .ok (.aload_n 0, 1) := by decide +kernel
theorem dX12_meet_171 : decode cX12_meet 171 = .ok (.getfield 76, 3) := by decide +kernel
theorem dX12_meet_174 : decode cX12_meet 174 = .ok (.iload 8, 2) := by decide +kernel
theorem dX12_meet_176 : decode cX12_meet 176 = .ok (.iaload, 1) := by decide +kernel
theorem dX12_meet_177 : decode cX12_meet 177 = .ok (.bipush (-9), 2) := by decide +kernel
theorem dX12_meet_179 : decode cX12_meet 179 = .ok (.if_icmp .ne 7, 3) := by decide +kernel
theorem dX12_meet_182 : decode cX12_meet 182 = .ok (.iconst 1, 1) := by decide +kernel
theorem dX12_meet_183 : decode cX12_meet 183 = .ok (.goto 4, 3) := by decide +kernel
theorem dX12_meet_186 : decode cX12_meet 186 = .ok (.iconst 0, 1) := by decide +kernel
theorem dX12_meet_187 : decode cX12_meet 187 = .ok (.istore 9, 2) := by decide +kernel
theorem dX12_meet_189 : decode cX12_meet 189 = .ok (.iconst 0, 1) := by decide +kernel
theorem dX12_meet_190 : decode cX12_meet 190 = .ok (.istore 10, 2) := by decide +kernel
theorem dX12_meet_192 : decode cX12_meet 192 = .ok (.iload 10, 2) := by decide +kernel
theorem dX12_meet_194 : decode cX12_meet 194 = .ok (.aload_n 0, 1) := by decide +kernel
theorem dX12_meet_195 : decode cX12_meet 195 = .ok (.getfield 7, 3) := by decide +kernel
theorem dX12_meet_198 : decode cX12_meet 198 = .ok (.if_icmp .ge 71, 3) := by decide +kernel
theorem dX12_meet_201 : decode cX12_meet 201 = .ok (.iload 9, 2) := by decide +kernel
theorem dX12_meet_203 : decode cX12_meet 203 = .ok (.ifCond .eq 57, 3) := by decide +kernel
theorem dX12_meet_206 : decode cX12_meet 206 = .ok (.aload_n 0, 1) := by decide +kernel
theorem dX12_meet_207 : decode cX12_meet 207 = .ok (.getfield 76, 3) := by decide +kernel
theorem dX12_meet_210 : decode cX12_meet 210 = .ok (.iload 10, 2) := by decide +kernel
theorem dX12_meet_212 : decode cX12_meet 212 = .ok (.iaload, 1) := by decide +kernel
theorem dX12_meet_213 : decode cX12_meet 213 = .ok (.bipush (-9), 2) := by decide +kernel
theorem dX12_meet_215 : decode cX12_meet 215 = .ok (.if_icmp .eq 41, 3) := by decide +kernel
theorem dX12_meet_218 : decode cX12_meet 218 = .ok (.aload_n 0, 1) := by decide +kernel
theorem dX12_meet_219 : decode cX12_meet 219 = .ok (.getfield 76, 3) := by decide +kernel
theorem dX12_meet_222 : decode cX12_meet 222 = .ok (.iload 10, 2) := by decide +kernel
theorem dX12_meet_224 : decode cX12_meet 224 = .ok (.iaload, 1) := by decide +kernel
theorem dX12_meet_225 : decode cX12_meet 225 = .ok (.iload 6, 2) := by decide +kernel
theorem dX12_meet_227 : decode cX12_meet 227 = .ok (.if_icmp .eq 29, 3) := by decide +kernel
theorem dX12_meet_230 : decode cX12_meet 230 = .ok (.iload 6, 2) := by decide +kernel
theorem dX12_meet_232 : decode cX12_meet 232 = .ok (.aload_n 0, 1) := by decide +kernel
theorem dX12_meet_233 : decode cX12_meet 233 = .ok (.getfield 76, 3) := by decide +kernel
theorem dX12_meet_236 : decode cX12_meet 236 = .ok (.iload 10, 2) := by decide +kernel
theorem dX12_meet_238 : decode cX12_meet 238 = .ok (.iaload, 1) := by decide +kernel
theorem dX12_meet_239 : decode cX12_meet 239 = .ok (.isub, 1) := by decide +kernel
theorem dX12_meet_240 : decode cX12_meet 240 = .ok (.aload_n 0, 1) := by decide +kernel
theorem dX12_meet_241 : decode cX12_meet 241 = .ok (.getfield 17, 3) := by decide +kernel
theorem dX12_meet_244 : decode cX12_meet 244 = .ok (.bipush 8, 2) := by decide +kernel
theorem dX12_meet_246 : decode cX12_meet 246 = .ok (.iload 10, 2) := by decide +kernel
theorem dX12_meet_248 : decode cX12_meet 248 = .ok (.imul, 1) := by decide +kernel
theorem dX12_meet_249 : decode cX12_meet 249 = .ok (.iload 8, 2) := by decide +kernel
theorem dX12_meet_251 : decode cX12_meet 251 = .ok (.iadd, 1) := by decide +kernel
theorem dX12_meet_252 : decode cX12_meet 252 = .ok (.iaload, 1) := by decide +kernel
theorem dX12_meet_253 : decode cX12_meet 253 = .ok (.if_icmp .ge 7, 3) := by decide +kernel
theorem dX12_meet_256 : decode cX12_meet 256 = .ok (.iconst 1, 1) := by decide +kernel
theorem dX12_meet_257 : decode cX12_meet 257 = .ok (.goto 4, 3) := by decide +kernel
theorem dX12_meet_260 : decode cX12_meet 260 = .ok (.iconst 0, 1) := by decide +kernel
theorem dX12_meet_261 : decode cX12_meet 261 = .ok (.istore 9, 2) := by decide +kernel
theorem dX12_meet_263 : decode cX12_meet 263 = .ok (.iinc 10 1, 3) := by decide +kernel
theorem dX12_meet_266 : decode cX12_meet 266 = .ok (.goto (-74), 3) := by decide +kernel
theorem dX12_meet_269 : decode cX12_meet 269 = .ok (.iload 9, 2) := by decide +kernel
theorem dX12_meet_271 : decode cX12_meet 271 = .ok (.ifCond .eq 24, 3) := by decide +kernel
theorem dX12_meet_274 : decode cX12_meet 274 = .ok (.aload_n 0, 1) := by decide +kernel
theorem dX12_meet_275 : decode cX12_meet 275 = .ok (.getfield 76, 3) := by decide +kernel
theorem dX12_meet_278 : decode cX12_meet 278 = .ok (.iload 8, 2) := by decide +kernel
theorem dX12_meet_280 : decode cX12_meet 280 = .ok (.iload 6, 2) := by decide +kernel
theorem dX12_meet_282 : decode cX12_meet 282 = .ok (.iastore, 1) := by decide +kernel
theorem dX12_meet_283 : decode cX12_meet 283 = .ok (.iload 5, 2) := by decide +kernel
theorem dX12_meet_285 : decode cX12_meet 285 = .ok (.aload_n 0, 1) := by decide +kernel
theorem dX12_meet_286 : decode cX12_meet 286 = .ok (.getfield 70, 3) := by decide +kernel
theorem dX12_meet_289 : decode cX12_meet 289 = .ok (.iload 8, 2) := by decide +kernel
theorem dX12_meet_291 : decode cX12_meet 291 = .ok (.iaload, 1) := by decide +kernel
theorem dX12_meet_292 : decode cX12_meet 292 = .ok (.iadd, 1) := by decide +kernel
theorem dX12_meet_293 : decode cX12_meet 293 = .ok (.istore 5, 2) := by decide +kernel
theorem dX12_meet_295 : decode cX12_meet 295 = .ok (.iinc 7 1, 3) := by decide +kernel
theorem dX12_meet_298 : decode cX12_meet 298 = .ok (.goto (-158), 3) := by decide +kernel
theorem dX12_meet_301 : decode cX12_meet 301 = .ok (.iinc 6 1, 3) := by decide +kernel
theorem dX12_meet_304 : decode cX12_meet 304 = .ok (.goto (-173), 3) := by decide +kernel
theorem dX12_meet_307 : decode cX12_meet 307 = .ok (.iload 5, 2) := by decide +kernel
theorem dX12_meet_309 : decode cX12_meet 309 = .ok (.ireturn, 1) := by decide +kernel
theorem dX12_look_0 : decode cX12_look 0 = .ok (.aload_n 0, 1) := by decide +kernel
theorem dX12_look_1 : decode cX12_look 1 = .ok (.invokevirtual 124, 3) := by decide +kernel
theorem dX12_look_4 : decode cX12_look 4 = .ok (.iconst 0, 1) := by decide +kernel
theorem dX12_look_5 : decode cX12_look 5 = .ok (.istore_n 3, 1) := by decide +kernel
theorem dX12_look_6 : decode cX12_look 6 = .ok (.iload_n 3, 1) := by decide +kernel
theorem dX12_look_7 : decode cX12_look 7 = .ok (.bipush 8, 2) := by decide +kernel
theorem dX12_look_9 : decode cX12_look 9 = .ok (.if_icmp .ge 16, 3) := by decide +kernel
theorem dX12_look_12 : decode cX12_look 12 = .ok (.aload_n 0, 1) := by decide +kernel
theorem dX12_look_13 : decode cX12_look 13 = .ok (.getfield 70, 3) := by decide +kernel
theorem dX12_look_16 : decode cX12_look 16 = .ok (.iload_n 3, 1) := by decide +kernel
theorem dX12_look_17 : decode cX12_look 17 = .ok (.iconst 0, 1) := by decide +kernel
theorem dX12_look_18 : decode cX12_look 18 = .ok (.iastore, 1) := by decide +kernel
theorem dX12_look_19 : decode cX12_look 19 = .ok (.iinc 3 1, 3) := by decide +kernel
theorem dX12_look_22 : decode cX12_look 22 = .ok (.goto (-16), 3) := by decide +kernel
theorem dX12_look_25 : decode cX12_look 25 = .ok (.iconst 0, 1) := by decide +kernel
theorem dX12_look_26 : decode cX12_look 26 = .ok (.istore_n 3, 1) := by decide +kernel
theorem dX12_look_27 : decode cX12_look 27 = .ok (.iload_n 3, 1) := by decide +kernel
theorem dX12_look_28 : decode cX12_look 28 = .ok (.aload_n 0, 1) := by decide +kernel
theorem dX12_look_29 : decode cX12_look 29 = .ok (.getfield 107, 3) := by decide +kernel
theorem dX12_look_32 : decode cX12_look 32 = .ok (.if_icmp .ge 42, 3) := by decide +kernel
theorem dX12_look_35 : decode cX12_look 35 = .ok (.aload_n 0, 1) := by decide +kernel
theorem dX12_look_36 : decode cX12_look 36 = .ok (.iload_n 3, 1) := by decide +kernel
theorem dX12_look_37 : decode cX12_look 37 = .ok (.invokevirtual 154, 3) := by decide +kernel
theorem dX12_look_40 : decode cX12_look 40 = .ok (.invokestatic 171, 3) := by decide +kernel
theorem dX12_look_43 : decode cX12_look 43 = .ok (.ifCond .eq 25, 3) := by decide +kernel
theorem dX12_look_46 : decode cX12_look 46 = .ok (.aload_n 0, 1) := by decide +kernel
theorem dX12_look_47 : decode cX12_look 47 = .ok (.iload_n 3, 1) := by decide +kernel
theorem dX12_look_48 : decode cX12_look 48 = .ok (.invokevirtual 233, 3) := by decide +kernel
theorem dX12_look_51 : decode cX12_look 51 = .ok (.ifCond .eq 17, 3) := by decide +kernel
theorem dX12_look_54 : decode cX12_look 54 = .ok (.aload_n 0, 1) := by decide +kernel
theorem dX12_look_55 : decode cX12_look 55 = .ok (.getfield 70, 3) := by decide +kernel
theorem dX12_look_58 : decode cX12_look 58 = .ok (.aload_n 0, 1) := by decide +kernel
theorem dX12_look_59 : decode cX12_look 59 = .ok (.iload_n 3, 1) := by decide +kernel
theorem dX12_look_60 : decode cX12_look 60 = .ok (.invokevirtual 154, 3) := by decide +kernel
theorem dX12_look_63 : decode cX12_look 63 = .ok (.dup2, 1) := by decide +kernel
theorem dX12_look_64 : decode cX12_look 64 = .ok (.iaload, 1) := by decide +kernel
theorem dX12_look_65 : decode cX12_look 65 = .ok (.iconst 1, 1) := by decide +kernel
theorem dX12_look_66 : decode cX12_look 66 = .ok (.iadd, 1) := by decide +kernel
theorem dX12_look_67 : decode cX12_look 67 = .ok (.iastore, 1) := by decide +kernel
theorem dX12_look_68 : decode cX12_look 68 = .ok (.iinc 3 1, 3) := by decide +kernel
theorem dX12_look_71 : decode cX12_look 71 = .ok (.goto (-44), 3) := by decide +kernel
theorem dX12_look_74 : decode cX12_look 74 = .ok (.iconst 1, 1) := by decide +kernel
theorem dX12_look_75 : decode cX12_look 75 = .ok (.istore_n 3, 1) := by decide +kernel
theorem dX12_look_76 : decode cX12_look 76 = .ok (.iconst 0, 1) := by decide +kernel
theorem dX12_look_77 : decode cX12_look 77 = .ok (.istore 4, 2) := by decide +kernel
theorem dX12_look_79 : decode cX12_look 79 = .ok (.iload 4, 2) := by decide +kernel
theorem dX12_look_81 : decode cX12_look 81 = .ok (.iload_n 1, 1) := by decide +kernel
theorem dX12_look_82 : decode cX12_look 82 = .ok (.iload_n 2, 1) := by decide +kernel
theorem dX12_look_83 : decode cX12_look 83 = .ok (.imul, 1) := by decide +kernel
theorem dX12_look_84 : decode cX12_look 84 = .ok (.if_icmp .ge 16, 3) := by decide +kernel
theorem dX12_look_87 : decode cX12_look 87 = .ok (.iload_n 3, 1) := by decide +kernel
theorem dX12_look_88 : decode cX12_look 88 = .ok (.aload_n 0, 1) := by decide +kernel
theorem dX12_look_89 : decode cX12_look 89 = .ok (.getfield 7, 3) := by decide +kernel
theorem dX12_look_92 : decode cX12_look 92 = .ok (.imul, 1) := by decide +kernel
theorem dX12_look_93 : decode cX12_look 93 = .ok (.istore_n 3, 1) := by decide +kernel
theorem dX12_look_94 : decode cX12_look 94 = .ok (.iinc 4 1, 3) := by decide +kernel
theorem dX12_look_97 : decode cX12_look 97 = .ok (.goto (-18), 3) := by decide +kernel
theorem dX12_look_100 : decode cX12_look 100 = .ok (.bipush (-9), 2) := by decide +kernel
theorem dX12_look_102 : decode cX12_look 102 = .ok (.istore 4, 2) := by decide +kernel
theorem dX12_look_104 : decode cX12_look 104 = .ok (.iconst 0, 1) := by decide +kernel
theorem dX12_look_105 : decode cX12_look 105 = .ok (.istore 5, 2) := by decide +kernel
theorem dX12_look_107 : decode cX12_look 107 = .ok (.iload 5, 2) := by decide +kernel
theorem dX12_look_109 : decode cX12_look 109 = .ok (.iload_n 3, 1) := by decide +kernel
theorem dX12_look_110 : decode cX12_look 110 = .ok (.if_icmp .ge 36, 3) := by decide +kernel
theorem dX12_look_113 : decode cX12_look 113 = .ok (.aload_n 0, 1) := by decide +kernel
theorem dX12_look_114 : decode cX12_look 114 = .ok (.iload 5, 2) := by decide +kernel
theorem dX12_look_116 : decode cX12_look 116 = .ok (.iload_n 1, 1) := by decide +kernel
theorem dX12_look_117 : decode cX12_look 117 = .ok (.iload_n 2, 1) := by decide +kernel
theorem dX12_look_118 : decode cX12_look 118 = .ok (.invokevirtual 244, 3) := by decide +kernel
theorem dX12_look_121 : decode cX12_look 121 = .ok (.istore 6, 2) := by decide +kernel
theorem dX12_look_123 : decode cX12_look 123 = .ok (.iload 6, 2) := by decide +kernel
theorem dX12_look_125 : decode cX12_look 125 = .ok (.iload 4, 2) := by decide +kernel
theorem dX12_look_127 : decode cX12_look 127 = .ok (.if_icmp .le 13, 3) := by decide +kernel
theorem dX12_look_130 : decode cX12_look 130 = .ok (.iload 6, 2) := by decide +kernel
theorem dX12_look_132 : decode cX12_look 132 = .ok (.istore 4, 2) := by decide +kernel
theorem dX12_look_134 : decode cX12_look 134 = .ok (.aload_n 0, 1) := by decide +kernel
theorem dX12_look_135 : decode cX12_look 135 = .ok (.iload 5, 2) := by decide +kernel
theorem dX12_look_137 : decode cX12_look 137 = .ok (.putfield 247, 3) := by decide +kernel
theorem dX12_look_140 : decode cX12_look 140 = .ok (.iinc 5 1, 3) := by decide +kernel
theorem dX12_look_143 : decode cX12_look 143 = .ok (.goto (-36), 3) := by decide +kernel
theorem dX12_look_146 : decode cX12_look 146 = .ok (.iload 4, 2) := by decide +kernel
theorem dX12_look_148 : decode cX12_look 148 = .ok (.ireturn, 1) := by decide +kernel
theorem dX12_badGangs_0 : decode cX12_badGangs 0 = .ok (.iload_n 0, 1) := by decide +kernel
theorem dX12_badGangs_1 : decode cX12_badGangs 1 = .ok (.i2l, 1) := by decide +kernel
theorem dX12_badGangs_2 : decode cX12_badGangs 2 = .ok (.lconst 1, 1) := by decide +kernel
theorem dX12_badGangs_3 : decode cX12_badGangs 3 = .ok (.ldc2_w 250, 3) := by decide +kernel
theorem dX12_badGangs_6 : decode cX12_badGangs 6 = .ok (.invokestatic 103, 3) := by decide +kernel
theorem dX12_badGangs_9 : decode cX12_badGangs 9 = .ok (.ifCond .eq 15, 3) := by decide +kernel
theorem dX12_badGangs_12 : decode cX12_badGangs 12 = .ok (.iload_n 1, 1) := by decide +kernel
theorem dX12_badGangs_13 : decode cX12_badGangs 13 = .ok (.i2l, 1) := by decide +kernel
theorem dX12_badGangs_14 : decode cX12_badGangs 14 = .ok (.lconst 1, 1) := by decide +kernel
theorem dX12_badGangs_15 : decode cX12_badGangs 15 = .ok (.ldc2_w 131, 3) := by decide +kernel
theorem dX12_badGangs_18 : decode cX12_badGangs 18 = .ok (.invokestatic 103, 3) := by decide +kernel
theorem dX12_badGangs_21 : decode cX12_badGangs 21 = .ok (.ifCond .ne 7, 3) := by decide +kernel
theorem dX12_badGangs_24 : decode cX12_badGangs 24 = .ok (.iconst 1, 1) := by decide +kernel
theorem dX12_badGangs_25 : decode cX12_badGangs 25 = .ok (.goto 4, 3) := by decide +kernel
theorem dX12_badGangs_28 : decode cX12_badGangs 28 = .ok (.iconst 0, 1) := by decide +kernel
theorem dX12_badGangs_29 : decode cX12_badGangs 29 = .ok (.ireturn, 1) := by decide +kernel
theorem dX12_met_0 : decode cX12_met 0 = .ok (.aload_n 0, 1) := by decide +kernel
theorem dX12_met_1 : decode cX12_met 1 = .ok (.iconst 0, 1) := by decide +kernel
theorem dX12_met_2 : decode cX12_met 2 = .ok (.putfield 100, 3) := by decide +kernel
theorem dX12_met_5 : decode cX12_met 5 = .ok (.iload_n 1, 1) := by decide +kernel
theorem dX12_met_6 : decode cX12_met 6 = .ok (.iload_n 2, 1) := by decide +kernel
theorem dX12_met_7 : decode cX12_met 7 = .ok (.invokestatic 252, 3) := by decide +kernel
theorem dX12_met_10 : decode cX12_met 10 = .ok (.ifCond .eq 8, 3) := by decide +kernel
theorem dX12_met_13 : decode cX12_met 13 = .ok (.bipush (-2), 2) := by decide +kernel
theorem dX12_met_15 : decode cX12_met 15 = .ok (.goto 9, 3) := by decide +kernel
theorem dX12_met_18 : decode cX12_met 18 = .ok (.aload_n 0, 1) := by decide +kernel
theorem dX12_met_19 : decode cX12_met 19 = .ok (.iload_n 1, 1) := by decide +kernel
theorem dX12_met_20 : decode cX12_met 20 = .ok (.iload_n 2, 1) := by decide +kernel
theorem dX12_met_21 : decode cX12_met 21 = .ok (.invokevirtual 255, 3) := by decide +kernel
theorem dX12_met_24 : decode cX12_met 24 = .ok (.ireturn, 1) := by decide +kernel
theorem dX12_laid_0 : decode cX12_laid 0 = .ok (.aload_n 0, 1) := by decide +kernel
theorem dX12_laid_1 : decode cX12_laid 1 = .ok (.iconst 0, 1) := by decide +kernel
theorem dX12_laid_2 : decode cX12_laid 2 = .ok (.putfield 100, 3) := by decide +kernel
theorem dX12_laid_5 : decode cX12_laid 5 = .ok (.iload_n 1, 1) := by decide +kernel
theorem dX12_laid_6 : decode cX12_laid 6 = .ok (.iload_n 2, 1) := by decide +kernel
theorem dX12_laid_7 : decode cX12_laid 7 = .ok (.invokestatic 252, 3) := by decide +kernel
theorem dX12_laid_10 : decode cX12_laid 10 = .ok (.ifCond .ne 30, 3) := by decide +kernel
theorem dX12_laid_13 : decode cX12_laid 13 = .ok (.iload_n 3, 1) := by decide +kernel
theorem dX12_laid_14 : decode cX12_laid 14 = .ok (.i2l, 1) := by decide +kernel
theorem dX12_laid_15 : decode cX12_laid 15 = .ok (.lconst 0, 1) := by decide +kernel
theorem dX12_laid_16 : decode cX12_laid 16 = .ok (.iload_n 1, 1) := by decide +kernel
theorem dX12_laid_17 : decode cX12_laid 17 = .ok (.iconst 1, 1) := by decide +kernel
theorem dX12_laid_18 : decode cX12_laid 18 = .ok (.isub, 1) := by decide +kernel
theorem dX12_laid_19 : decode cX12_laid 19 = .ok (.i2l, 1) := by decide +kernel
theorem dX12_laid_20 : decode cX12_laid 20 = .ok (.invokestatic 103, 3) := by decide +kernel
theorem dX12_laid_23 : decode cX12_laid 23 = .ok (.ifCond .eq 17, 3) := by decide +kernel
theorem dX12_laid_26 : decode cX12_laid 26 = .ok (.iload 4, 2) := by decide +kernel
theorem dX12_laid_28 : decode cX12_laid 28 = .ok (.i2l, 1) := by decide +kernel
theorem dX12_laid_29 : decode cX12_laid 29 = .ok (.lconst 0, 1) := by decide +kernel
theorem dX12_laid_30 : decode cX12_laid 30 = .ok (.iload_n 2, 1) := by decide +kernel
theorem dX12_laid_31 : decode cX12_laid 31 = .ok (.iconst 1, 1) := by decide +kernel
theorem dX12_laid_32 : decode cX12_laid 32 = .ok (.isub, 1) := by decide +kernel
theorem dX12_laid_33 : decode cX12_laid 33 = .ok (.i2l, 1) := by decide +kernel
theorem dX12_laid_34 : decode cX12_laid 34 = .ok (.invokestatic 103, 3) := by decide +kernel
theorem dX12_laid_37 : decode cX12_laid 37 = .ok (.ifCond .ne 6, 3) := by decide +kernel
theorem dX12_laid_40 : decode cX12_laid 40 = .ok (.bipush (-2), 2) := by decide +kernel
theorem dX12_laid_42 : decode cX12_laid 42 = .ok (.ireturn, 1) := by decide +kernel
theorem dX12_laid_43 : decode cX12_laid 43 = .ok (.aload_n 0, 1) := by decide +kernel
theorem dX12_laid_44 : decode cX12_laid 44 = .ok (.iload_n 1, 1) := by decide +kernel
theorem dX12_laid_45 : decode cX12_laid 45 = .ok (.iload_n 2, 1) := by decide +kernel
theorem dX12_laid_46 : decode cX12_laid 46 = .ok (.invokevirtual 255, 3) := by decide +kernel
theorem dX12_laid_49 : decode cX12_laid 49 = .ok (.pop, 1) := by decide +kernel
theorem dX12_laid_50 : decode cX12_laid 50 = .ok (.aload_n 0, 1) := by decide +kernel
theorem dX12_laid_51 : decode cX12_laid 51 = .ok (.aload_n 0, 1) := by decide +kernel
theorem dX12_laid_52 : decode cX12_laid 52 = .ok (.getfield 247, 3) := by decide +kernel
theorem dX12_laid_55 : decode cX12_laid 55 = .ok (.iload_n 1, 1) := by decide +kernel
theorem dX12_laid_56 : decode cX12_laid 56 = .ok (.iload_n 2, 1) := by decide +kernel
theorem dX12_laid_57 : decode cX12_laid 57 = .ok (.invokevirtual 244, 3) := by decide +kernel
theorem dX12_laid_60 : decode cX12_laid 60 = .ok (.pop, 1) := by decide +kernel
theorem dX12_laid_61 : decode cX12_laid 61 = .ok (.aload_n 0, 1) := by decide +kernel
theorem dX12_laid_62 : decode cX12_laid 62 = .ok (.getfield 73, 3) := by decide +kernel
theorem dX12_laid_65 : decode cX12_laid 65 = .ok (.iload_n 3, 1) := by decide +kernel
theorem dX12_laid_66 : decode cX12_laid 66 = .ok (.iload_n 2, 1) := by decide +kernel
theorem dX12_laid_67 : decode cX12_laid 67 = .ok (.imul, 1) := by decide +kernel
theorem dX12_laid_68 : decode cX12_laid 68 = .ok (.iload 4, 2) := by decide +kernel
theorem dX12_laid_70 : decode cX12_laid 70 = .ok (.iadd, 1) := by decide +kernel
theorem dX12_laid_71 : decode cX12_laid 71 = .ok (.iaload, 1) := by decide +kernel
theorem dX12_laid_72 : decode cX12_laid 72 = .ok (.ireturn, 1) := by decide +kernel
theorem dX12_ship_0 : decode cX12_ship 0 = .ok (.aload_n 0, 1) := by decide +kernel
theorem dX12_ship_1 : decode cX12_ship 1 = .ok (.iconst 0, 1) := by decide +kernel
theorem dX12_ship_2 : decode cX12_ship 2 = .ok (.putfield 100, 3) := by decide +kernel
theorem dX12_ship_5 : decode cX12_ship 5 = .ok (.iload_n 1, 1) := by decide +kernel
theorem dX12_ship_6 : decode cX12_ship 6 = .ok (.i2l, 1) := by decide +kernel
theorem dX12_ship_7 : decode cX12_ship 7 = .ok (.lconst 0, 1) := by decide +kernel
theorem dX12_ship_8 : decode cX12_ship 8 = .ok (.lconst 1, 1) := by decide +kernel
theorem dX12_ship_9 : decode cX12_ship 9 = .ok (.invokestatic 103, 3) := by decide +kernel
theorem dX12_ship_12 : decode cX12_ship 12 = .ok (.ifCond .eq 39, 3) := by decide +kernel
theorem dX12_ship_15 : decode cX12_ship 15 = .ok (.iload_n 2, 1) := by decide +kernel
theorem dX12_ship_16 : decode cX12_ship 16 = .ok (.i2l, 1) := by decide +kernel
theorem dX12_ship_17 : decode cX12_ship 17 = .ok (.lconst 1, 1) := by decide +kernel
theorem dX12_ship_18 : decode cX12_ship 18 = .ok (.ldc2_w 158, 3) := by decide +kernel
theorem dX12_ship_21 : decode cX12_ship 21 = .ok (.invokestatic 103, 3) := by decide +kernel
theorem dX12_ship_24 : decode cX12_ship 24 = .ok (.ifCond .eq 27, 3) := by decide +kernel
theorem dX12_ship_27 : decode cX12_ship 27 = .ok (.iload_n 3, 1) := by decide +kernel
theorem dX12_ship_28 : decode cX12_ship 28 = .ok (.i2l, 1) := by decide +kernel
theorem dX12_ship_29 : decode cX12_ship 29 = .ok (.lconst 0, 1) := by decide +kernel
theorem dX12_ship_30 : decode cX12_ship 30 = .ok (.iload_n 2, 1) := by decide +kernel
theorem dX12_ship_31 : decode cX12_ship 31 = .ok (.i2l, 1) := by decide +kernel
theorem dX12_ship_32 : decode cX12_ship 32 = .ok (.invokestatic 103, 3) := by decide +kernel
theorem dX12_ship_35 : decode cX12_ship 35 = .ok (.ifCond .eq 16, 3) := by decide +kernel
theorem dX12_ship_38 : decode cX12_ship 38 = .ok (.iload 4, 2) := by decide +kernel
theorem dX12_ship_40 : decode cX12_ship 40 = .ok (.i2l, 1) := by decide +kernel
theorem dX12_ship_41 : decode cX12_ship 41 = .ok (.lconst 0, 1) := by decide +kernel
theorem dX12_ship_42 : decode cX12_ship 42 = .ok (.ldc2_w 158, 3) := by decide +kernel
theorem dX12_ship_45 : decode cX12_ship 45 = .ok (.invokestatic 103, 3) := by decide +kernel
theorem dX12_ship_48 : decode cX12_ship 48 = .ok (.ifCond .ne 6, 3) := by decide +kernel
theorem dX12_ship_51 : decode cX12_ship 51 = .ok (.bipush (-2), 2) := by decide +kernel
theorem dX12_ship_53 : decode cX12_ship 53 = .ok (.ireturn, 1) := by decide +kernel
theorem dX12_ship_54 : decode cX12_ship 54 = .ok (.aload_n 0, 1) := by decide +kernel
theorem dX12_ship_55 : decode cX12_ship 55 = .ok (.getfield 110, 3) := by decide +kernel
theorem dX12_ship_58 : decode cX12_ship 58 = .ok (.bipush 10, 2) := by decide +kernel
theorem dX12_ship_60 : decode cX12_ship 60 = .ok (.if_icmp .ne 6, 3) := by decide +kernel
theorem dX12_ship_63 : decode cX12_ship 63 = .ok (.bipush (-4), 2) := by decide +kernel
theorem dX12_ship_65 : decode cX12_ship 65 = .ok (.ireturn, 1) := by decide +kernel
theorem dX12_ship_66 : decode cX12_ship 66 = .ok (.aload_n 0, 1) := by decide +kernel
theorem dX12_ship_67 : decode cX12_ship 67 = .ok (.getfield 31, 3) := by decide +kernel
theorem dX12_ship_70 : decode cX12_ship 70 = .ok (.aload_n 0, 1) := by decide +kernel
theorem dX12_ship_71 : decode cX12_ship 71 = .ok (.getfield 110, 3) := by decide +kernel
theorem dX12_ship_74 : decode cX12_ship 74 = .ok (.iload_n 1, 1) := by decide +kernel
theorem dX12_ship_75 : decode cX12_ship 75 = .ok (.iastore, 1) := by decide +kernel
theorem dX12_ship_76 : decode cX12_ship 76 = .ok (.aload_n 0, 1) := by decide +kernel
theorem dX12_ship_77 : decode cX12_ship 77 = .ok (.getfield 34, 3) := by decide +kernel
theorem dX12_ship_80 : decode cX12_ship 80 = .ok (.aload_n 0, 1) := by decide +kernel
theorem dX12_ship_81 : decode cX12_ship 81 = .ok (.getfield 110, 3) := by decide +kernel
theorem dX12_ship_84 : decode cX12_ship 84 = .ok (.iload_n 2, 1) := by decide +kernel
theorem dX12_ship_85 : decode cX12_ship 85 = .ok (.iastore, 1) := by decide +kernel
theorem dX12_ship_86 : decode cX12_ship 86 = .ok (.aload_n 0, 1) := by decide +kernel
theorem dX12_ship_87 : decode cX12_ship 87 = .ok (.getfield 37, 3) := by decide +kernel
theorem dX12_ship_90 : decode cX12_ship 90 = .ok (.aload_n 0, 1) := by decide +kernel
theorem dX12_ship_91 : decode cX12_ship 91 = .ok (.getfield 110, 3) := by decide +kernel
theorem dX12_ship_94 : decode cX12_ship 94 = .ok (.iload_n 3, 1) := by decide +kernel
theorem dX12_ship_95 : decode cX12_ship 95 = .ok (.iastore, 1) := by decide +kernel
theorem dX12_ship_96 : decode cX12_ship 96 = .ok (.aload_n 0, 1) := by decide +kernel
theorem dX12_ship_97 : decode cX12_ship 97 = .ok (.getfield 40, 3) := by decide +kernel
theorem dX12_ship_100 : decode cX12_ship 100 = .ok (.aload_n 0, 1) := by decide +kernel
theorem dX12_ship_101 : decode cX12_ship 101 = .ok (.getfield 110, 3) := by decide +kernel
theorem dX12_ship_104 : decode cX12_ship 104 = .ok (.iload 4, 2) := by decide +kernel
theorem dX12_ship_106 : decode cX12_ship 106 = .ok (.iastore, 1) := by decide +kernel
theorem dX12_ship_107 : decode cX12_ship 107 = .ok (.aload_n 0, 1) := by decide +kernel
theorem dX12_ship_108 : decode cX12_ship 108 = .ok (.dup, 1) := by decide +kernel
theorem dX12_ship_109 : decode cX12_ship 109 = .ok (.getfield 110, 3) := by decide +kernel
theorem dX12_ship_112 : decode cX12_ship 112 = .ok (.iconst 1, 1) := by decide +kernel
theorem dX12_ship_113 : decode cX12_ship 113 = .ok (.iadd, 1) := by decide +kernel
theorem dX12_ship_114 : decode cX12_ship 114 = .ok (.putfield 110, 3) := by decide +kernel
theorem dX12_ship_117 : decode cX12_ship 117 = .ok (.aload_n 0, 1) := by decide +kernel
theorem dX12_ship_118 : decode cX12_ship 118 = .ok (.getfield 110, 3) := by decide +kernel
theorem dX12_ship_121 : decode cX12_ship 121 = .ok (.iconst 1, 1) := by decide +kernel
theorem dX12_ship_122 : decode cX12_ship 122 = .ok (.isub, 1) := by decide +kernel
theorem dX12_ship_123 : decode cX12_ship 123 = .ok (.ireturn, 1) := by decide +kernel
theorem dX12_of_0 : decode cX12_of 0 = .ok (.aload_n 0, 1) := by decide +kernel
theorem dX12_of_1 : decode cX12_of 1 = .ok (.iconst 0, 1) := by decide +kernel
theorem dX12_of_2 : decode cX12_of 2 = .ok (.putfield 100, 3) := by decide +kernel
theorem dX12_of_5 : decode cX12_of 5 = .ok (.aload_n 0, 1) := by decide +kernel
theorem dX12_of_6 : decode cX12_of 6 = .ok (.iload_n 1, 1) := by decide +kernel
theorem dX12_of_7 : decode cX12_of 7 = .ok (.invokevirtual 259, 3) := by decide +kernel
theorem dX12_of_10 : decode cX12_of 10 = .ok (.ifCond .eq 5, 3) := by decide +kernel
theorem dX12_of_13 : decode cX12_of 13 = .ok (.iconst (-1), 1) := by decide +kernel
theorem dX12_of_14 : decode cX12_of 14 = .ok (.ireturn, 1) := by decide +kernel
theorem dX12_of_15 : decode cX12_of 15 = .ok (.iload_n 2, 1) := by decide +kernel
theorem dX12_of_16 : decode cX12_of 16 = .ok (.tableswitch 105 0 6 #[44, 51, 58, 65, 72, 87, 96], 44) := by decide +kernel
theorem dX12_of_60 : decode cX12_of 60 = .ok (.aload_n 0, 1) := by decide +kernel
theorem dX12_of_61 : decode cX12_of 61 = .ok (.getfield 31, 3) := by decide +kernel
theorem dX12_of_64 : decode cX12_of 64 = .ok (.iload_n 1, 1) := by decide +kernel
theorem dX12_of_65 : decode cX12_of 65 = .ok (.iaload, 1) := by decide +kernel
theorem dX12_of_66 : decode cX12_of 66 = .ok (.ireturn, 1) := by decide +kernel
theorem dX12_of_67 : decode cX12_of 67 = .ok (.aload_n 0, 1) := by decide +kernel
theorem dX12_of_68 : decode cX12_of 68 = .ok (.getfield 34, 3) := by decide +kernel
theorem dX12_of_71 : decode cX12_of 71 = .ok (.iload_n 1, 1) := by decide +kernel
theorem dX12_of_72 : decode cX12_of 72 = .ok (.iaload, 1) := by decide +kernel
theorem dX12_of_73 : decode cX12_of 73 = .ok (.ireturn, 1) := by decide +kernel
theorem dX12_of_74 : decode cX12_of 74 = .ok (.aload_n 0, 1) := by decide +kernel
theorem dX12_of_75 : decode cX12_of 75 = .ok (.getfield 37, 3) := by decide +kernel
theorem dX12_of_78 : decode cX12_of 78 = .ok (.iload_n 1, 1) := by decide +kernel
theorem dX12_of_79 : decode cX12_of 79 = .ok (.iaload, 1) := by decide +kernel
theorem dX12_of_80 : decode cX12_of 80 = .ok (.ireturn, 1) := by decide +kernel
theorem dX12_of_81 : decode cX12_of 81 = .ok (.aload_n 0, 1) := by decide +kernel
theorem dX12_of_82 : decode cX12_of 82 = .ok (.getfield 40, 3) := by decide +kernel
theorem dX12_of_85 : decode cX12_of 85 = .ok (.iload_n 1, 1) := by decide +kernel
theorem dX12_of_86 : decode cX12_of 86 = .ok (.iaload, 1) := by decide +kernel
theorem dX12_of_87 : decode cX12_of 87 = .ok (.ireturn, 1) := by decide +kernel
theorem dX12_of_88 : decode cX12_of 88 = .ok (.aload_n 0, 1) := by decide +kernel
theorem dX12_of_89 : decode cX12_of 89 = .ok (.getfield 43, 3) := by decide +kernel
theorem dX12_of_92 : decode cX12_of 92 = .ok (.iload_n 1, 1) := by decide +kernel
theorem dX12_of_93 : decode cX12_of 93 = .ok (.baload, 1) := by decide +kernel
theorem dX12_of_94 : decode cX12_of 94 = .ok (.ifCond .eq 7, 3) := by decide +kernel
theorem dX12_of_97 : decode cX12_of 97 = .ok (.iconst 0, 1) := by decide +kernel
theorem dX12_of_98 : decode cX12_of 98 = .ok (.goto 4, 3) := by decide +kernel
theorem dX12_of_101 : decode cX12_of 101 = .ok (.iconst 1, 1) := by decide +kernel
theorem dX12_of_102 : decode cX12_of 102 = .ok (.ireturn, 1) := by decide +kernel
theorem dX12_of_103 : decode cX12_of 103 = .ok (.aload_n 0, 1) := by decide +kernel
theorem dX12_of_104 : decode cX12_of 104 = .ok (.bipush 10, 2) := by decide +kernel
theorem dX12_of_106 : decode cX12_of 106 = .ok (.iload_n 1, 1) := by decide +kernel
theorem dX12_of_107 : decode cX12_of 107 = .ok (.iadd, 1) := by decide +kernel
theorem dX12_of_108 : decode cX12_of 108 = .ok (.invokevirtual 162, 3) := by decide +kernel
theorem dX12_of_111 : decode cX12_of 111 = .ok (.ireturn, 1) := by decide +kernel
theorem dX12_of_112 : decode cX12_of 112 = .ok (.aload_n 0, 1) := by decide +kernel
theorem dX12_of_113 : decode cX12_of 113 = .ok (.bipush 10, 2) := by decide +kernel
theorem dX12_of_115 : decode cX12_of 115 = .ok (.iload_n 1, 1) := by decide +kernel
theorem dX12_of_116 : decode cX12_of 116 = .ok (.iadd, 1) := by decide +kernel
theorem dX12_of_117 : decode cX12_of 117 = .ok (.invokevirtual 262, 3) := by decide +kernel
theorem dX12_of_120 : decode cX12_of 120 = .ok (.ireturn, 1) := by decide +kernel
theorem dX12_of_121 : decode cX12_of 121 = .ok (.bipush (-2), 2) := by decide +kernel
theorem dX12_of_123 : decode cX12_of 123 = .ok (.ireturn, 1) := by decide +kernel
theorem dX12_spared_0 : decode cX12_spared 0 = .ok (.aload_n 0, 1) := by decide +kernel
theorem dX12_spared_1 : decode cX12_spared 1 = .ok (.bipush 10, 2) := by decide +kernel
theorem dX12_spared_3 : decode cX12_spared 3 = .ok (.iload_n 1, 1) := by decide +kernel
theorem dX12_spared_4 : decode cX12_spared 4 = .ok (.iadd, 1) := by decide +kernel
theorem dX12_spared_5 : decode cX12_spared 5 = .ok (.invokevirtual 162, 3) := by decide +kernel
theorem dX12_spared_8 : decode cX12_spared 8 = .ok (.aload_n 0, 1) := by decide +kernel
theorem dX12_spared_9 : decode cX12_spared 9 = .ok (.getfield 40, 3) := by decide +kernel
theorem dX12_spared_12 : decode cX12_spared 12 = .ok (.iload_n 1, 1) := by decide +kernel
theorem dX12_spared_13 : decode cX12_spared 13 = .ok (.iaload, 1) := by decide +kernel
theorem dX12_spared_14 : decode cX12_spared 14 = .ok (.isub, 1) := by decide +kernel
theorem dX12_spared_15 : decode cX12_spared 15 = .ok (.iload_n 2, 1) := by decide +kernel
theorem dX12_spared_16 : decode cX12_spared 16 = .ok (.isub, 1) := by decide +kernel
theorem dX12_spared_17 : decode cX12_spared 17 = .ok (.istore_n 3, 1) := by decide +kernel
theorem dX12_spared_18 : decode cX12_spared 18 = .ok (.iload_n 3, 1) := by decide +kernel
theorem dX12_spared_19 : decode cX12_spared 19 = .ok (.ifCond .le 7, 3) := by decide +kernel
theorem dX12_spared_22 : decode cX12_spared 22 = .ok (.iload_n 3, 1) := by decide +kernel
theorem dX12_spared_23 : decode cX12_spared 23 = .ok (.goto 4, 3) := by decide +kernel
theorem dX12_spared_26 : decode cX12_spared 26 = .ok (.iconst 0, 1) := by decide +kernel
theorem dX12_spared_27 : decode cX12_spared 27 = .ok (.ireturn, 1) := by decide +kernel
theorem dX12_badWeather_0 : decode cX12_badWeather 0 = .ok (.iload_n 0, 1) := by decide +kernel
theorem dX12_badWeather_1 : decode cX12_badWeather 1 = .ok (.i2l, 1) := by decide +kernel
theorem dX12_badWeather_2 : decode cX12_badWeather 2 = .ok (.lconst 0, 1) := by decide +kernel
theorem dX12_badWeather_3 : decode cX12_badWeather 3 = .ok (.ldc2_w 131, 3) := by decide +kernel
theorem dX12_badWeather_6 : decode cX12_badWeather 6 = .ok (.invokestatic 103, 3) := by decide +kernel
theorem dX12_badWeather_9 : decode cX12_badWeather 9 = .ok (.ifCond .ne 7, 3) := by decide +kernel
theorem dX12_badWeather_12 : decode cX12_badWeather 12 = .ok (.iconst 1, 1) := by decide +kernel
theorem dX12_badWeather_13 : decode cX12_badWeather 13 = .ok (.goto 4, 3) := by decide +kernel
theorem dX12_badWeather_16 : decode cX12_badWeather 16 = .ok (.iconst 0, 1) := by decide +kernel
theorem dX12_badWeather_17 : decode cX12_badWeather 17 = .ok (.ireturn, 1) := by decide +kernel
theorem dX12_spare_0 : decode cX12_spare 0 = .ok (.aload_n 0, 1) := by decide +kernel
theorem dX12_spare_1 : decode cX12_spare 1 = .ok (.iconst 0, 1) := by decide +kernel
theorem dX12_spare_2 : decode cX12_spare 2 = .ok (.putfield 100, 3) := by decide +kernel
theorem dX12_spare_5 : decode cX12_spare 5 = .ok (.aload_n 0, 1) := by decide +kernel
theorem dX12_spare_6 : decode cX12_spare 6 = .ok (.iload_n 1, 1) := by decide +kernel
theorem dX12_spare_7 : decode cX12_spare 7 = .ok (.invokevirtual 259, 3) := by decide +kernel
theorem dX12_spare_10 : decode cX12_spare 10 = .ok (.ifCond .eq 5, 3) := by decide +kernel
theorem dX12_spare_13 : decode cX12_spare 13 = .ok (.iconst (-1), 1) := by decide +kernel
theorem dX12_spare_14 : decode cX12_spare 14 = .ok (.ireturn, 1) := by decide +kernel
theorem dX12_spare_15 : decode cX12_spare 15 = .ok (.iload_n 2, 1) := by decide +kernel
theorem dX12_spare_16 : decode cX12_spare 16 = .ok (.invokestatic 265, 3) := by decide +kernel
theorem dX12_spare_19 : decode cX12_spare 19 = .ok (.ifCond .eq 6, 3) := by decide +kernel
theorem dX12_spare_22 : decode cX12_spare 22 = .ok (.bipush (-2), 2) := by decide +kernel
theorem dX12_spare_24 : decode cX12_spare 24 = .ok (.ireturn, 1) := by decide +kernel
theorem dX12_spare_25 : decode cX12_spare 25 = .ok (.aload_n 0, 1) := by decide +kernel
theorem dX12_spare_26 : decode cX12_spare 26 = .ok (.getfield 31, 3) := by decide +kernel
theorem dX12_spare_29 : decode cX12_spare 29 = .ok (.iload_n 1, 1) := by decide +kernel
theorem dX12_spare_30 : decode cX12_spare 30 = .ok (.iaload, 1) := by decide +kernel
theorem dX12_spare_31 : decode cX12_spare 31 = .ok (.ifCond .ne 8, 3) := by decide +kernel
theorem dX12_spare_34 : decode cX12_spare 34 = .ok (.bipush (-3), 2) := by decide +kernel
theorem dX12_spare_36 : decode cX12_spare 36 = .ok (.goto 9, 3) := by decide +kernel
theorem dX12_spare_39 : decode cX12_spare 39 = .ok (.aload_n 0, 1) := by decide +kernel
theorem dX12_spare_40 : decode cX12_spare 40 = .ok (.iload_n 1, 1) := by decide +kernel
theorem dX12_spare_41 : decode cX12_spare 41 = .ok (.iload_n 2, 1) := by decide +kernel
theorem dX12_spare_42 : decode cX12_spare 42 = .ok (.invokevirtual 268, 3) := by decide +kernel
theorem dX12_spare_45 : decode cX12_spare 45 = .ok (.ireturn, 1) := by decide +kernel
theorem dX12_board_0 : decode cX12_board 0 = .ok (.aload_n 0, 1) := by decide +kernel
theorem dX12_board_1 : decode cX12_board 1 = .ok (.iconst 0, 1) := by decide +kernel
theorem dX12_board_2 : decode cX12_board 2 = .ok (.putfield 100, 3) := by decide +kernel
theorem dX12_board_5 : decode cX12_board 5 = .ok (.aload_n 0, 1) := by decide +kernel
theorem dX12_board_6 : decode cX12_board 6 = .ok (.iload_n 1, 1) := by decide +kernel
theorem dX12_board_7 : decode cX12_board 7 = .ok (.invokevirtual 144, 3) := by decide +kernel
theorem dX12_board_10 : decode cX12_board 10 = .ok (.ifCond .ne 11, 3) := by decide +kernel
theorem dX12_board_13 : decode cX12_board 13 = .ok (.aload_n 0, 1) := by decide +kernel
theorem dX12_board_14 : decode cX12_board 14 = .ok (.iload_n 2, 1) := by decide +kernel
theorem dX12_board_15 : decode cX12_board 15 = .ok (.invokevirtual 259, 3) := by decide +kernel
theorem dX12_board_18 : decode cX12_board 18 = .ok (.ifCond .eq 5, 3) := by decide +kernel
theorem dX12_board_21 : decode cX12_board 21 = .ok (.iconst (-1), 1) := by decide +kernel
theorem dX12_board_22 : decode cX12_board 22 = .ok (.ireturn, 1) := by decide +kernel
theorem dX12_board_23 : decode cX12_board 23 = .ok (.aload_n 0, 1) := by decide +kernel
theorem dX12_board_24 : decode cX12_board 24 = .ok (.iload_n 1, 1) := by decide +kernel
theorem dX12_board_25 : decode cX12_board 25 = .ok (.invokevirtual 154, 3) := by decide +kernel
theorem dX12_board_28 : decode cX12_board 28 = .ok (.invokestatic 171, 3) := by decide +kernel
theorem dX12_board_31 : decode cX12_board 31 = .ok (.ifCond .eq 12, 3) := by decide +kernel
theorem dX12_board_34 : decode cX12_board 34 = .ok (.aload_n 0, 1) := by decide +kernel
theorem dX12_board_35 : decode cX12_board 35 = .ok (.getfield 43, 3) := by decide +kernel
theorem dX12_board_38 : decode cX12_board 38 = .ok (.iload_n 2, 1) := by decide +kernel
theorem dX12_board_39 : decode cX12_board 39 = .ok (.baload, 1) := by decide +kernel
theorem dX12_board_40 : decode cX12_board 40 = .ok (.ifCond .eq 6, 3) := by decide +kernel
theorem dX12_board_43 : decode cX12_board 43 = .ok (.bipush (-3), 2) := by decide +kernel
theorem dX12_board_45 : decode cX12_board 45 = .ok (.ireturn, 1) := by decide +kernel
theorem dX12_board_46 : decode cX12_board 46 = .ok (.aload_n 0, 1) := by decide +kernel
theorem dX12_board_47 : decode cX12_board 47 = .ok (.bipush 10, 2) := by decide +kernel
theorem dX12_board_49 : decode cX12_board 49 = .ok (.iload_n 2, 1) := by decide +kernel
theorem dX12_board_50 : decode cX12_board 50 = .ok (.iadd, 1) := by decide +kernel
theorem dX12_board_51 : decode cX12_board 51 = .ok (.invokevirtual 162, 3) := by decide +kernel
theorem dX12_board_54 : decode cX12_board 54 = .ok (.iconst 2, 1) := by decide +kernel
theorem dX12_board_55 : decode cX12_board 55 = .ok (.aload_n 0, 1) := by decide +kernel
theorem dX12_board_56 : decode cX12_board 56 = .ok (.getfield 34, 3) := by decide +kernel
theorem dX12_board_59 : decode cX12_board 59 = .ok (.iload_n 2, 1) := by decide +kernel
theorem dX12_board_60 : decode cX12_board 60 = .ok (.iaload, 1) := by decide +kernel
theorem dX12_board_61 : decode cX12_board 61 = .ok (.imul, 1) := by decide +kernel
theorem dX12_board_62 : decode cX12_board 62 = .ok (.if_icmp .lt 6, 3) := by decide +kernel
theorem dX12_board_65 : decode cX12_board 65 = .ok (.bipush (-4), 2) := by decide +kernel
theorem dX12_board_67 : decode cX12_board 67 = .ok (.ireturn, 1) := by decide +kernel
theorem dX12_board_68 : decode cX12_board 68 = .ok (.aload_n 0, 1) := by decide +kernel
theorem dX12_board_69 : decode cX12_board 69 = .ok (.iload_n 1, 1) := by decide +kernel
theorem dX12_board_70 : decode cX12_board 70 = .ok (.bipush 10, 2) := by decide +kernel
theorem dX12_board_72 : decode cX12_board 72 = .ok (.iload_n 2, 1) := by decide +kernel
theorem dX12_board_73 : decode cX12_board 73 = .ok (.iadd, 1) := by decide +kernel
theorem dX12_board_74 : decode cX12_board 74 = .ok (.invokevirtual 177, 3) := by decide +kernel
theorem dX12_board_77 : decode cX12_board 77 = .ok (.aload_n 0, 1) := by decide +kernel
theorem dX12_board_78 : decode cX12_board 78 = .ok (.bipush 10, 2) := by decide +kernel
theorem dX12_board_80 : decode cX12_board 80 = .ok (.iload_n 2, 1) := by decide +kernel
theorem dX12_board_81 : decode cX12_board 81 = .ok (.iadd, 1) := by decide +kernel
theorem dX12_board_82 : decode cX12_board 82 = .ok (.invokevirtual 162, 3) := by decide +kernel
theorem dX12_board_85 : decode cX12_board 85 = .ok (.ireturn, 1) := by decide +kernel
theorem dX12_turn_0 : decode cX12_turn 0 = .ok (.aload_n 0, 1) := by decide +kernel
theorem dX12_turn_1 : decode cX12_turn 1 = .ok (.iconst 0, 1) := by decide +kernel
theorem dX12_turn_2 : decode cX12_turn 2 = .ok (.putfield 100, 3) := by decide +kernel
theorem dX12_turn_5 : decode cX12_turn 5 = .ok (.aload_n 0, 1) := by decide +kernel
theorem dX12_turn_6 : decode cX12_turn 6 = .ok (.iload_n 1, 1) := by decide +kernel
theorem dX12_turn_7 : decode cX12_turn 7 = .ok (.invokevirtual 144, 3) := by decide +kernel
theorem dX12_turn_10 : decode cX12_turn 10 = .ok (.ifCond .ne 11, 3) := by decide +kernel
theorem dX12_turn_13 : decode cX12_turn 13 = .ok (.aload_n 0, 1) := by decide +kernel
theorem dX12_turn_14 : decode cX12_turn 14 = .ok (.iload_n 2, 1) := by decide +kernel
theorem dX12_turn_15 : decode cX12_turn 15 = .ok (.invokevirtual 259, 3) := by decide +kernel
theorem dX12_turn_18 : decode cX12_turn 18 = .ok (.ifCond .eq 5, 3) := by decide +kernel
theorem dX12_turn_21 : decode cX12_turn 21 = .ok (.iconst (-1), 1) := by decide +kernel
theorem dX12_turn_22 : decode cX12_turn 22 = .ok (.ireturn, 1) := by decide +kernel
theorem dX12_turn_23 : decode cX12_turn 23 = .ok (.aload_n 0, 1) := by decide +kernel
theorem dX12_turn_24 : decode cX12_turn 24 = .ok (.iload_n 1, 1) := by decide +kernel
theorem dX12_turn_25 : decode cX12_turn 25 = .ok (.invokevirtual 154, 3) := by decide +kernel
theorem dX12_turn_28 : decode cX12_turn 28 = .ok (.istore_n 3, 1) := by decide +kernel
theorem dX12_turn_29 : decode cX12_turn 29 = .ok (.iload_n 3, 1) := by decide +kernel
theorem dX12_turn_30 : decode cX12_turn 30 = .ok (.bipush 20, 2) := by decide +kernel
theorem dX12_turn_32 : decode cX12_turn 32 = .ok (.if_icmp .eq 11, 3) := by decide +kernel
theorem dX12_turn_35 : decode cX12_turn 35 = .ok (.aload_n 0, 1) := by decide +kernel
theorem dX12_turn_36 : decode cX12_turn 36 = .ok (.iload_n 3, 1) := by decide +kernel
theorem dX12_turn_37 : decode cX12_turn 37 = .ok (.invokevirtual 236, 3) := by decide +kernel
theorem dX12_turn_40 : decode cX12_turn 40 = .ok (.ifCond .eq 20, 3) := by decide +kernel
theorem dX12_turn_43 : decode cX12_turn 43 = .ok (.iload_n 3, 1) := by decide +kernel
theorem dX12_turn_44 : decode cX12_turn 44 = .ok (.bipush 10, 2) := by decide +kernel
theorem dX12_turn_46 : decode cX12_turn 46 = .ok (.iload_n 2, 1) := by decide +kernel
theorem dX12_turn_47 : decode cX12_turn 47 = .ok (.iadd, 1) := by decide +kernel
theorem dX12_turn_48 : decode cX12_turn 48 = .ok (.if_icmp .eq 12, 3) := by decide +kernel
theorem dX12_turn_51 : decode cX12_turn 51 = .ok (.aload_n 0, 1) := by decide +kernel
theorem dX12_turn_52 : decode cX12_turn 52 = .ok (.getfield 43, 3) := by decide +kernel
theorem dX12_turn_55 : decode cX12_turn 55 = .ok (.iload_n 2, 1) := by decide +kernel
theorem dX12_turn_56 : decode cX12_turn 56 = .ok (.baload, 1) := by decide +kernel
theorem dX12_turn_57 : decode cX12_turn 57 = .ok (.ifCond .eq 6, 3) := by decide +kernel
theorem dX12_turn_60 : decode cX12_turn 60 = .ok (.bipush (-3), 2) := by decide +kernel
theorem dX12_turn_62 : decode cX12_turn 62 = .ok (.ireturn, 1) := by decide +kernel
theorem dX12_turn_63 : decode cX12_turn 63 = .ok (.aload_n 0, 1) := by decide +kernel
theorem dX12_turn_64 : decode cX12_turn 64 = .ok (.bipush 10, 2) := by decide +kernel
theorem dX12_turn_66 : decode cX12_turn 66 = .ok (.iload_n 2, 1) := by decide +kernel
theorem dX12_turn_67 : decode cX12_turn 67 = .ok (.iadd, 1) := by decide +kernel
theorem dX12_turn_68 : decode cX12_turn 68 = .ok (.invokevirtual 162, 3) := by decide +kernel
theorem dX12_turn_71 : decode cX12_turn 71 = .ok (.iconst 2, 1) := by decide +kernel
theorem dX12_turn_72 : decode cX12_turn 72 = .ok (.aload_n 0, 1) := by decide +kernel
theorem dX12_turn_73 : decode cX12_turn 73 = .ok (.getfield 34, 3) := by decide +kernel
theorem dX12_turn_76 : decode cX12_turn 76 = .ok (.iload_n 2, 1) := by decide +kernel
theorem dX12_turn_77 : decode cX12_turn 77 = .ok (.iaload, 1) := by decide +kernel
theorem dX12_turn_78 : decode cX12_turn 78 = .ok (.imul, 1) := by decide +kernel
theorem dX12_turn_79 : decode cX12_turn 79 = .ok (.if_icmp .lt 6, 3) := by decide +kernel
theorem dX12_turn_82 : decode cX12_turn 82 = .ok (.bipush (-4), 2) := by decide +kernel
theorem dX12_turn_84 : decode cX12_turn 84 = .ok (.ireturn, 1) := by decide +kernel
theorem dX12_turn_85 : decode cX12_turn 85 = .ok (.aload_n 0, 1) := by decide +kernel
theorem dX12_turn_86 : decode cX12_turn 86 = .ok (.iload_n 1, 1) := by decide +kernel
theorem dX12_turn_87 : decode cX12_turn 87 = .ok (.bipush 10, 2) := by decide +kernel
theorem dX12_turn_89 : decode cX12_turn 89 = .ok (.iload_n 2, 1) := by decide +kernel
theorem dX12_turn_90 : decode cX12_turn 90 = .ok (.iadd, 1) := by decide +kernel
theorem dX12_turn_91 : decode cX12_turn 91 = .ok (.invokevirtual 177, 3) := by decide +kernel
theorem dX12_turn_94 : decode cX12_turn 94 = .ok (.iload_n 3, 1) := by decide +kernel
theorem dX12_turn_95 : decode cX12_turn 95 = .ok (.ireturn, 1) := by decide +kernel
theorem dX12_notAshore_0 : decode cX12_notAshore 0 = .ok (.aload_n 0, 1) := by decide +kernel
theorem dX12_notAshore_1 : decode cX12_notAshore 1 = .ok (.iconst 0, 1) := by decide +kernel
theorem dX12_notAshore_2 : decode cX12_notAshore 2 = .ok (.putfield 100, 3) := by decide +kernel
theorem dX12_notAshore_5 : decode cX12_notAshore 5 = .ok (.aload_n 0, 1) := by decide +kernel
theorem dX12_notAshore_6 : decode cX12_notAshore 6 = .ok (.iload_n 1, 1) := by decide +kernel
theorem dX12_notAshore_7 : decode cX12_notAshore 7 = .ok (.invokevirtual 144, 3) := by decide +kernel
theorem dX12_notAshore_10 : decode cX12_notAshore 10 = .ok (.ifCond .eq 5, 3) := by decide +kernel
theorem dX12_notAshore_13 : decode cX12_notAshore 13 = .ok (.iconst (-1), 1) := by decide +kernel
theorem dX12_notAshore_14 : decode cX12_notAshore 14 = .ok (.ireturn, 1) := by decide +kernel
theorem dX12_notAshore_15 : decode cX12_notAshore 15 = .ok (.iload_n 2, 1) := by decide +kernel
theorem dX12_notAshore_16 : decode cX12_notAshore 16 = .ok (.i2l, 1) := by decide +kernel
theorem dX12_notAshore_17 : decode cX12_notAshore 17 = .ok (.lconst 0, 1) := by decide +kernel
theorem dX12_notAshore_18 : decode cX12_notAshore 18 = .ok (.aload_n 0, 1) := by decide +kernel
theorem dX12_notAshore_19 : decode cX12_notAshore 19 = .ok (.getfield 141, 3) := by decide +kernel
theorem dX12_notAshore_22 : decode cX12_notAshore 22 = .ok (.i2l, 1) := by decide +kernel
theorem dX12_notAshore_23 : decode cX12_notAshore 23 = .ok (.invokestatic 103, 3) := by decide +kernel
theorem dX12_notAshore_26 : decode cX12_notAshore 26 = .ok (.ifCond .ne 6, 3) := by decide +kernel
theorem dX12_notAshore_29 : decode cX12_notAshore 29 = .ok (.bipush (-2), 2) := by decide +kernel
theorem dX12_notAshore_31 : decode cX12_notAshore 31 = .ok (.ireturn, 1) := by decide +kernel
theorem dX12_notAshore_32 : decode cX12_notAshore 32 = .ok (.iload_n 2, 1) := by decide +kernel
theorem dX12_notAshore_33 : decode cX12_notAshore 33 = .ok (.istore_n 3, 1) := by decide +kernel
theorem dX12_notAshore_34 : decode cX12_notAshore 34 = .ok (.iload_n 3, 1) := by decide +kernel
theorem dX12_notAshore_35 : decode cX12_notAshore 35 = .ok (.ifCond .lt 42, 3) := by decide +kernel
theorem dX12_notAshore_38 : decode cX12_notAshore 38 = .ok (.aload_n 0, 1) := by decide +kernel
theorem dX12_notAshore_39 : decode cX12_notAshore 39 = .ok (.getfield 28, 3) := by decide +kernel
theorem dX12_notAshore_42 : decode cX12_notAshore 42 = .ok (.bipush 40, 2) := by decide +kernel
theorem dX12_notAshore_44 : decode cX12_notAshore 44 = .ok (.iload_n 3, 1) := by decide +kernel
theorem dX12_notAshore_45 : decode cX12_notAshore 45 = .ok (.imul, 1) := by decide +kernel
theorem dX12_notAshore_46 : decode cX12_notAshore 46 = .ok (.iload_n 1, 1) := by decide +kernel
theorem dX12_notAshore_47 : decode cX12_notAshore 47 = .ok (.iadd, 1) := by decide +kernel
theorem dX12_notAshore_48 : decode cX12_notAshore 48 = .ok (.iaload, 1) := by decide +kernel
theorem dX12_notAshore_49 : decode cX12_notAshore 49 = .ok (.invokestatic 171, 3) := by decide +kernel
theorem dX12_notAshore_52 : decode cX12_notAshore 52 = .ok (.ifCond .ne 25, 3) := by decide +kernel
theorem dX12_notAshore_55 : decode cX12_notAshore 55 = .ok (.aload_n 0, 1) := by decide +kernel
theorem dX12_notAshore_56 : decode cX12_notAshore 56 = .ok (.getfield 28, 3) := by decide +kernel
theorem dX12_notAshore_59 : decode cX12_notAshore 59 = .ok (.bipush 40, 2) := by decide +kernel
theorem dX12_notAshore_61 : decode cX12_notAshore 61 = .ok (.iload_n 3, 1) := by decide +kernel
theorem dX12_notAshore_62 : decode cX12_notAshore 62 = .ok (.imul, 1) := by decide +kernel
theorem dX12_notAshore_63 : decode cX12_notAshore 63 = .ok (.iload_n 1, 1) := by decide +kernel
theorem dX12_notAshore_64 : decode cX12_notAshore 64 = .ok (.iadd, 1) := by decide +kernel
theorem dX12_notAshore_65 : decode cX12_notAshore 65 = .ok (.iaload, 1) := by decide +kernel
theorem dX12_notAshore_66 : decode cX12_notAshore 66 = .ok (.bipush 22, 2) := by decide +kernel
theorem dX12_notAshore_68 : decode cX12_notAshore 68 = .ok (.if_icmp .eq 9, 3) := by decide +kernel
theorem dX12_notAshore_71 : decode cX12_notAshore 71 = .ok (.iinc 3 (-1), 3) := by decide +kernel
theorem dX12_notAshore_74 : decode cX12_notAshore 74 = .ok (.goto (-40), 3) := by decide +kernel
theorem dX12_notAshore_77 : decode cX12_notAshore 77 = .ok (.iload_n 2, 1) := by decide +kernel
theorem dX12_notAshore_78 : decode cX12_notAshore 78 = .ok (.iload_n 3, 1) := by decide +kernel
theorem dX12_notAshore_79 : decode cX12_notAshore 79 = .ok (.isub, 1) := by decide +kernel
theorem dX12_notAshore_80 : decode cX12_notAshore 80 = .ok (.ireturn, 1) := by decide +kernel
theorem dX12_mayGo_0 : decode cX12_mayGo 0 = .ok (.aload_n 0, 1) := by decide +kernel
theorem dX12_mayGo_1 : decode cX12_mayGo 1 = .ok (.getfield 31, 3) := by decide +kernel
theorem dX12_mayGo_4 : decode cX12_mayGo 4 = .ok (.iload_n 1, 1) := by decide +kernel
theorem dX12_mayGo_5 : decode cX12_mayGo 5 = .ok (.iaload, 1) := by decide +kernel
theorem dX12_mayGo_6 : decode cX12_mayGo 6 = .ok (.ifCond .ne 16, 3) := by decide +kernel
theorem dX12_mayGo_9 : decode cX12_mayGo 9 = .ok (.aload_n 0, 1) := by decide +kernel
theorem dX12_mayGo_10 : decode cX12_mayGo 10 = .ok (.getfield 43, 3) := by decide +kernel
theorem dX12_mayGo_13 : decode cX12_mayGo 13 = .ok (.iload_n 1, 1) := by decide +kernel
theorem dX12_mayGo_14 : decode cX12_mayGo 14 = .ok (.baload, 1) := by decide +kernel
theorem dX12_mayGo_15 : decode cX12_mayGo 15 = .ok (.ifCond .ne 7, 3) := by decide +kernel
theorem dX12_mayGo_18 : decode cX12_mayGo 18 = .ok (.iconst 1, 1) := by decide +kernel
theorem dX12_mayGo_19 : decode cX12_mayGo 19 = .ok (.goto 4, 3) := by decide +kernel
theorem dX12_mayGo_22 : decode cX12_mayGo 22 = .ok (.iconst 0, 1) := by decide +kernel
theorem dX12_mayGo_23 : decode cX12_mayGo 23 = .ok (.ireturn, 1) := by decide +kernel
theorem dX12_fewest_0 : decode cX12_fewest 0 = .ok (.aload_n 0, 1) := by decide +kernel
theorem dX12_fewest_1 : decode cX12_fewest 1 = .ok (.bipush 20, 2) := by decide +kernel
theorem dX12_fewest_3 : decode cX12_fewest 3 = .ok (.invokevirtual 162, 3) := by decide +kernel
theorem dX12_fewest_6 : decode cX12_fewest 6 = .ok (.ineg, 1) := by decide +kernel
theorem dX12_fewest_7 : decode cX12_fewest 7 = .ok (.istore_n 3, 1) := by decide +kernel
theorem dX12_fewest_8 : decode cX12_fewest 8 = .ok (.aload_n 0, 1) := by decide +kernel
theorem dX12_fewest_9 : decode cX12_fewest 9 = .ok (.bipush 20, 2) := by decide +kernel
theorem dX12_fewest_11 : decode cX12_fewest 11 = .ok (.invokevirtual 262, 3) := by decide +kernel
theorem dX12_fewest_14 : decode cX12_fewest 14 = .ok (.ineg, 1) := by decide +kernel
theorem dX12_fewest_15 : decode cX12_fewest 15 = .ok (.istore 4, 2) := by decide +kernel
theorem dX12_fewest_17 : decode cX12_fewest 17 = .ok (.iconst 0, 1) := by decide +kernel
theorem dX12_fewest_18 : decode cX12_fewest 18 = .ok (.istore 5, 2) := by decide +kernel
theorem dX12_fewest_20 : decode cX12_fewest 20 = .ok (.iconst 0, 1) := by decide +kernel
theorem dX12_fewest_21 : decode cX12_fewest 21 = .ok (.istore 6, 2) := by decide +kernel
theorem dX12_fewest_23 : decode cX12_fewest 23 = .ok (.iconst 0, 1) := by decide +kernel
theorem dX12_fewest_24 : decode cX12_fewest 24 = .ok (.istore 7, 2) := by decide +kernel
theorem dX12_fewest_26 : decode cX12_fewest 26 = .ok (.iload 7, 2) := by decide +kernel
theorem dX12_fewest_28 : decode cX12_fewest 28 = .ok (.aload_n 0, 1) := by decide +kernel
theorem dX12_fewest_29 : decode cX12_fewest 29 = .ok (.getfield 110, 3) := by decide +kernel
theorem dX12_fewest_32 : decode cX12_fewest 32 = .ok (.if_icmp .ge 164, 3) := by decide +kernel
theorem dX12_fewest_35 : decode cX12_fewest 35 = .ok (.aload_n 0, 1) := by decide +kernel
theorem dX12_fewest_36 : decode cX12_fewest 36 = .ok (.iload 7, 2) := by decide +kernel
theorem dX12_fewest_38 : decode cX12_fewest 38 = .ok (.invokevirtual 271, 3) := by decide +kernel
theorem dX12_fewest_41 : decode cX12_fewest 41 = .ok (.ifCond .eq 82, 3) := by decide +kernel
theorem dX12_fewest_44 : decode cX12_fewest 44 = .ok (.iload_n 3, 1) := by decide +kernel
theorem dX12_fewest_45 : decode cX12_fewest 45 = .ok (.aload_n 0, 1) := by decide +kernel
theorem dX12_fewest_46 : decode cX12_fewest 46 = .ok (.bipush 10, 2) := by decide +kernel
theorem dX12_fewest_48 : decode cX12_fewest 48 = .ok (.iload 7, 2) := by decide +kernel
theorem dX12_fewest_50 : decode cX12_fewest 50 = .ok (.iadd, 1) := by decide +kernel
theorem dX12_fewest_51 : decode cX12_fewest 51 = .ok (.invokevirtual 162, 3) := by decide +kernel
theorem dX12_fewest_54 : decode cX12_fewest 54 = .ok (.isub, 1) := by decide +kernel
theorem dX12_fewest_55 : decode cX12_fewest 55 = .ok (.istore_n 3, 1) := by decide +kernel
theorem dX12_fewest_56 : decode cX12_fewest 56 = .ok (.iload 4, 2) := by decide +kernel
theorem dX12_fewest_58 : decode cX12_fewest 58 = .ok (.aload_n 0, 1) := by decide +kernel
theorem dX12_fewest_59 : decode cX12_fewest 59 = .ok (.bipush 10, 2) := by decide +kernel
theorem dX12_fewest_61 : decode cX12_fewest 61 = .ok (.iload 7, 2) := by decide +kernel
theorem dX12_fewest_63 : decode cX12_fewest 63 = .ok (.iadd, 1) := by decide +kernel
theorem dX12_fewest_64 : decode cX12_fewest 64 = .ok (.invokevirtual 262, 3) := by decide +kernel
theorem dX12_fewest_67 : decode cX12_fewest 67 = .ok (.isub, 1) := by decide +kernel
theorem dX12_fewest_68 : decode cX12_fewest 68 = .ok (.istore 4, 2) := by decide +kernel
theorem dX12_fewest_70 : decode cX12_fewest 70 = .ok (.iload_n 3, 1) := by decide +kernel
theorem dX12_fewest_71 : decode cX12_fewest 71 = .ok (.iload_n 1, 1) := by decide +kernel
theorem dX12_fewest_72 : decode cX12_fewest 72 = .ok (.iload 7, 2) := by decide +kernel
theorem dX12_fewest_74 : decode cX12_fewest 74 = .ok (.ishr, 1) := by decide +kernel
theorem dX12_fewest_75 : decode cX12_fewest 75 = .ok (.iconst 1, 1) := by decide +kernel
theorem dX12_fewest_76 : decode cX12_fewest 76 = .ok (.iand, 1) := by decide +kernel
theorem dX12_fewest_77 : decode cX12_fewest 77 = .ok (.iconst 1, 1) := by decide +kernel
theorem dX12_fewest_78 : decode cX12_fewest 78 = .ok (.if_icmp .ne 13, 3) := by decide +kernel
theorem dX12_fewest_81 : decode cX12_fewest 81 = .ok (.aload_n 0, 1) := by decide +kernel
theorem dX12_fewest_82 : decode cX12_fewest 82 = .ok (.getfield 34, 3) := by decide +kernel
theorem dX12_fewest_85 : decode cX12_fewest 85 = .ok (.iload 7, 2) := by decide +kernel
theorem dX12_fewest_87 : decode cX12_fewest 87 = .ok (.iaload, 1) := by decide +kernel
theorem dX12_fewest_88 : decode cX12_fewest 88 = .ok (.goto 4, 3) := by decide +kernel
theorem dX12_fewest_91 : decode cX12_fewest 91 = .ok (.iconst 0, 1) := by decide +kernel
theorem dX12_fewest_92 : decode cX12_fewest 92 = .ok (.iadd, 1) := by decide +kernel
theorem dX12_fewest_93 : decode cX12_fewest 93 = .ok (.istore_n 3, 1) := by decide +kernel
theorem dX12_fewest_94 : decode cX12_fewest 94 = .ok (.iload 4, 2) := by decide +kernel
theorem dX12_fewest_96 : decode cX12_fewest 96 = .ok (.iload_n 1, 1) := by decide +kernel
theorem dX12_fewest_97 : decode cX12_fewest 97 = .ok (.iload 7, 2) := by decide +kernel
theorem dX12_fewest_99 : decode cX12_fewest 99 = .ok (.ishr, 1) := by decide +kernel
theorem dX12_fewest_100 : decode cX12_fewest 100 = .ok (.iconst 1, 1) := by decide +kernel
theorem dX12_fewest_101 : decode cX12_fewest 101 = .ok (.iand, 1) := by decide +kernel
theorem dX12_fewest_102 : decode cX12_fewest 102 = .ok (.iconst 1, 1) := by decide +kernel
theorem dX12_fewest_103 : decode cX12_fewest 103 = .ok (.if_icmp .ne 13, 3) := by decide +kernel
theorem dX12_fewest_106 : decode cX12_fewest 106 = .ok (.aload_n 0, 1) := by decide +kernel
theorem dX12_fewest_107 : decode cX12_fewest 107 = .ok (.getfield 37, 3) := by decide +kernel
theorem dX12_fewest_110 : decode cX12_fewest 110 = .ok (.iload 7, 2) := by decide +kernel
theorem dX12_fewest_112 : decode cX12_fewest 112 = .ok (.iaload, 1) := by decide +kernel
theorem dX12_fewest_113 : decode cX12_fewest 113 = .ok (.goto 4, 3) := by decide +kernel
theorem dX12_fewest_116 : decode cX12_fewest 116 = .ok (.iconst 0, 1) := by decide +kernel
theorem dX12_fewest_117 : decode cX12_fewest 117 = .ok (.iadd, 1) := by decide +kernel
theorem dX12_fewest_118 : decode cX12_fewest 118 = .ok (.istore 4, 2) := by decide +kernel
theorem dX12_fewest_120 : decode cX12_fewest 120 = .ok (.goto 70, 3) := by decide +kernel
theorem dX12_fewest_123 : decode cX12_fewest 123 = .ok (.aload_n 0, 1) := by decide +kernel
theorem dX12_fewest_124 : decode cX12_fewest 124 = .ok (.getfield 31, 3) := by decide +kernel
theorem dX12_fewest_127 : decode cX12_fewest 127 = .ok (.iload 7, 2) := by decide +kernel
theorem dX12_fewest_129 : decode cX12_fewest 129 = .ok (.iaload, 1) := by decide +kernel
theorem dX12_fewest_130 : decode cX12_fewest 130 = .ok (.iconst 1, 1) := by decide +kernel
theorem dX12_fewest_131 : decode cX12_fewest 131 = .ok (.if_icmp .ne 59, 3) := by decide +kernel
theorem dX12_fewest_134 : decode cX12_fewest 134 = .ok (.aload_n 0, 1) := by decide +kernel
theorem dX12_fewest_135 : decode cX12_fewest 135 = .ok (.getfield 43, 3) := by decide +kernel
theorem dX12_fewest_138 : decode cX12_fewest 138 = .ok (.iload 7, 2) := by decide +kernel
theorem dX12_fewest_140 : decode cX12_fewest 140 = .ok (.baload, 1) := by decide +kernel
theorem dX12_fewest_141 : decode cX12_fewest 141 = .ok (.ifCond .ne 49, 3) := by decide +kernel
theorem dX12_fewest_144 : decode cX12_fewest 144 = .ok (.aload_n 0, 1) := by decide +kernel
theorem dX12_fewest_145 : decode cX12_fewest 145 = .ok (.iload 7, 2) := by decide +kernel
theorem dX12_fewest_147 : decode cX12_fewest 147 = .ok (.iload_n 2, 1) := by decide +kernel
theorem dX12_fewest_148 : decode cX12_fewest 148 = .ok (.invokevirtual 268, 3) := by decide +kernel
theorem dX12_fewest_151 : decode cX12_fewest 151 = .ok (.istore 8, 2) := by decide +kernel
theorem dX12_fewest_153 : decode cX12_fewest 153 = .ok (.aload_n 0, 1) := by decide +kernel
theorem dX12_fewest_154 : decode cX12_fewest 154 = .ok (.bipush 10, 2) := by decide +kernel
theorem dX12_fewest_156 : decode cX12_fewest 156 = .ok (.iload 7, 2) := by decide +kernel
theorem dX12_fewest_158 : decode cX12_fewest 158 = .ok (.iadd, 1) := by decide +kernel
theorem dX12_fewest_159 : decode cX12_fewest 159 = .ok (.invokevirtual 262, 3) := by decide +kernel
theorem dX12_fewest_162 : decode cX12_fewest 162 = .ok (.istore 9, 2) := by decide +kernel
theorem dX12_fewest_164 : decode cX12_fewest 164 = .ok (.iload 5, 2) := by decide +kernel
theorem dX12_fewest_166 : decode cX12_fewest 166 = .ok (.iload 8, 2) := by decide +kernel
theorem dX12_fewest_168 : decode cX12_fewest 168 = .ok (.iadd, 1) := by decide +kernel
theorem dX12_fewest_169 : decode cX12_fewest 169 = .ok (.istore 5, 2) := by decide +kernel
theorem dX12_fewest_171 : decode cX12_fewest 171 = .ok (.iload 6, 2) := by decide +kernel
theorem dX12_fewest_173 : decode cX12_fewest 173 = .ok (.iload 8, 2) := by decide +kernel
theorem dX12_fewest_175 : decode cX12_fewest 175 = .ok (.iload 9, 2) := by decide +kernel
theorem dX12_fewest_177 : decode cX12_fewest 177 = .ok (.if_icmp .ge 8, 3) := by decide +kernel
theorem dX12_fewest_180 : decode cX12_fewest 180 = .ok (.iload 8, 2) := by decide +kernel
theorem dX12_fewest_182 : decode cX12_fewest 182 = .ok (.goto 5, 3) := by decide +kernel
theorem dX12_fewest_185 : decode cX12_fewest 185 = .ok (.iload 9, 2) := by decide +kernel
theorem dX12_fewest_187 : decode cX12_fewest 187 = .ok (.iadd, 1) := by decide +kernel
theorem dX12_fewest_188 : decode cX12_fewest 188 = .ok (.istore 6, 2) := by decide +kernel
theorem dX12_fewest_190 : decode cX12_fewest 190 = .ok (.iinc 7 1, 3) := by decide +kernel
theorem dX12_fewest_193 : decode cX12_fewest 193 = .ok (.goto (-167), 3) := by decide +kernel
theorem dX12_fewest_196 : decode cX12_fewest 196 = .ok (.iload_n 3, 1) := by decide +kernel
theorem dX12_fewest_197 : decode cX12_fewest 197 = .ok (.iload 4, 2) := by decide +kernel
theorem dX12_fewest_199 : decode cX12_fewest 199 = .ok (.if_icmp .le 7, 3) := by decide +kernel
theorem dX12_fewest_202 : decode cX12_fewest 202 = .ok (.iload_n 3, 1) := by decide +kernel
theorem dX12_fewest_203 : decode cX12_fewest 203 = .ok (.goto 5, 3) := by decide +kernel
theorem dX12_fewest_206 : decode cX12_fewest 206 = .ok (.iload 4, 2) := by decide +kernel
theorem dX12_fewest_208 : decode cX12_fewest 208 = .ok (.istore 7, 2) := by decide +kernel
theorem dX12_fewest_210 : decode cX12_fewest 210 = .ok (.iload 7, 2) := by decide +kernel
theorem dX12_fewest_212 : decode cX12_fewest 212 = .ok (.ifCond .le 8, 3) := by decide +kernel
theorem dX12_fewest_215 : decode cX12_fewest 215 = .ok (.iload 7, 2) := by decide +kernel
theorem dX12_fewest_217 : decode cX12_fewest 217 = .ok (.goto 4, 3) := by decide +kernel
theorem dX12_fewest_220 : decode cX12_fewest 220 = .ok (.iconst 0, 1) := by decide +kernel
theorem dX12_fewest_221 : decode cX12_fewest 221 = .ok (.istore 7, 2) := by decide +kernel
theorem dX12_fewest_223 : decode cX12_fewest 223 = .ok (.iload 7, 2) := by decide +kernel
theorem dX12_fewest_225 : decode cX12_fewest 225 = .ok (.iload 5, 2) := by decide +kernel
theorem dX12_fewest_227 : decode cX12_fewest 227 = .ok (.if_icmp .gt 15, 3) := by decide +kernel
theorem dX12_fewest_230 : decode cX12_fewest 230 = .ok (.iload 4, 2) := by decide +kernel
theorem dX12_fewest_232 : decode cX12_fewest 232 = .ok (.iload 6, 2) := by decide +kernel
theorem dX12_fewest_234 : decode cX12_fewest 234 = .ok (.if_icmp .gt 8, 3) := by decide +kernel
theorem dX12_fewest_237 : decode cX12_fewest 237 = .ok (.iload 7, 2) := by decide +kernel
theorem dX12_fewest_239 : decode cX12_fewest 239 = .ok (.goto 5, 3) := by decide +kernel
theorem dX12_fewest_242 : decode cX12_fewest 242 = .ok (.bipush (-9), 2) := by decide +kernel
theorem dX12_fewest_244 : decode cX12_fewest 244 = .ok (.ireturn, 1) := by decide +kernel
theorem dX12_taken_0 : decode cX12_taken 0 = .ok (.aload_n 0, 1) := by decide +kernel
theorem dX12_taken_1 : decode cX12_taken 1 = .ok (.iconst 0, 1) := by decide +kernel
theorem dX12_taken_2 : decode cX12_taken 2 = .ok (.putfield 100, 3) := by decide +kernel
theorem dX12_taken_5 : decode cX12_taken 5 = .ok (.iload_n 2, 1) := by decide +kernel
theorem dX12_taken_6 : decode cX12_taken 6 = .ok (.invokestatic 265, 3) := by decide +kernel
theorem dX12_taken_9 : decode cX12_taken 9 = .ok (.ifCond .ne 21, 3) := by decide +kernel
theorem dX12_taken_12 : decode cX12_taken 12 = .ok (.iload_n 1, 1) := by decide +kernel
theorem dX12_taken_13 : decode cX12_taken 13 = .ok (.i2l, 1) := by decide +kernel
theorem dX12_taken_14 : decode cX12_taken 14 = .ok (.lconst 0, 1) := by decide +kernel
theorem dX12_taken_15 : decode cX12_taken 15 = .ok (.iconst 1, 1) := by decide +kernel
theorem dX12_taken_16 : decode cX12_taken 16 = .ok (.aload_n 0, 1) := by decide +kernel
theorem dX12_taken_17 : decode cX12_taken 17 = .ok (.getfield 110, 3) := by decide +kernel
theorem dX12_taken_20 : decode cX12_taken 20 = .ok (.ishl, 1) := by decide +kernel
theorem dX12_taken_21 : decode cX12_taken 21 = .ok (.iconst 1, 1) := by decide +kernel
theorem dX12_taken_22 : decode cX12_taken 22 = .ok (.isub, 1) := by decide +kernel
theorem dX12_taken_23 : decode cX12_taken 23 = .ok (.i2l, 1) := by decide +kernel
theorem dX12_taken_24 : decode cX12_taken 24 = .ok (.invokestatic 103, 3) := by decide +kernel
theorem dX12_taken_27 : decode cX12_taken 27 = .ok (.ifCond .ne 6, 3) := by decide +kernel
theorem dX12_taken_30 : decode cX12_taken 30 = .ok (.bipush (-2), 2) := by decide +kernel
theorem dX12_taken_32 : decode cX12_taken 32 = .ok (.ireturn, 1) := by decide +kernel
theorem dX12_taken_33 : decode cX12_taken 33 = .ok (.iconst 0, 1) := by decide +kernel
theorem dX12_taken_34 : decode cX12_taken 34 = .ok (.istore_n 3, 1) := by decide +kernel
theorem dX12_taken_35 : decode cX12_taken 35 = .ok (.iload_n 3, 1) := by decide +kernel
theorem dX12_taken_36 : decode cX12_taken 36 = .ok (.aload_n 0, 1) := by decide +kernel
theorem dX12_taken_37 : decode cX12_taken 37 = .ok (.getfield 110, 3) := by decide +kernel
theorem dX12_taken_40 : decode cX12_taken 40 = .ok (.if_icmp .ge 29, 3) := by decide +kernel
theorem dX12_taken_43 : decode cX12_taken 43 = .ok (.iload_n 1, 1) := by decide +kernel
theorem dX12_taken_44 : decode cX12_taken 44 = .ok (.iload_n 3, 1) := by decide +kernel
theorem dX12_taken_45 : decode cX12_taken 45 = .ok (.ishr, 1) := by decide +kernel
theorem dX12_taken_46 : decode cX12_taken 46 = .ok (.iconst 1, 1) := by decide +kernel
theorem dX12_taken_47 : decode cX12_taken 47 = .ok (.iand, 1) := by decide +kernel
theorem dX12_taken_48 : decode cX12_taken 48 = .ok (.iconst 1, 1) := by decide +kernel
theorem dX12_taken_49 : decode cX12_taken 49 = .ok (.if_icmp .ne 14, 3) := by decide +kernel
theorem dX12_taken_52 : decode cX12_taken 52 = .ok (.aload_n 0, 1) := by decide +kernel
theorem dX12_taken_53 : decode cX12_taken 53 = .ok (.iload_n 3, 1) := by decide +kernel
theorem dX12_taken_54 : decode cX12_taken 54 = .ok (.invokevirtual 271, 3) := by decide +kernel
theorem dX12_taken_57 : decode cX12_taken 57 = .ok (.ifCond .ne 6, 3) := by decide +kernel
theorem dX12_taken_60 : decode cX12_taken 60 = .ok (.bipush (-2), 2) := by decide +kernel
theorem dX12_taken_62 : decode cX12_taken 62 = .ok (.ireturn, 1) := by decide +kernel
theorem dX12_taken_63 : decode cX12_taken 63 = .ok (.iinc 3 1, 3) := by decide +kernel
theorem dX12_taken_66 : decode cX12_taken 66 = .ok (.goto (-31), 3) := by decide +kernel
theorem dX12_taken_69 : decode cX12_taken 69 = .ok (.aload_n 0, 1) := by decide +kernel
theorem dX12_taken_70 : decode cX12_taken 70 = .ok (.iload_n 1, 1) := by decide +kernel
theorem dX12_taken_71 : decode cX12_taken 71 = .ok (.iload_n 2, 1) := by decide +kernel
theorem dX12_taken_72 : decode cX12_taken 72 = .ok (.invokevirtual 274, 3) := by decide +kernel
theorem dX12_taken_75 : decode cX12_taken 75 = .ok (.ireturn, 1) := by decide +kernel
theorem dX12_fleet_0 : decode cX12_fleet 0 = .ok (.aload_n 0, 1) := by decide +kernel
theorem dX12_fleet_1 : decode cX12_fleet 1 = .ok (.iconst 0, 1) := by decide +kernel
theorem dX12_fleet_2 : decode cX12_fleet 2 = .ok (.putfield 100, 3) := by decide +kernel
theorem dX12_fleet_5 : decode cX12_fleet 5 = .ok (.iload_n 1, 1) := by decide +kernel
theorem dX12_fleet_6 : decode cX12_fleet 6 = .ok (.invokestatic 265, 3) := by decide +kernel
theorem dX12_fleet_9 : decode cX12_fleet 9 = .ok (.ifCond .eq 6, 3) := by decide +kernel
theorem dX12_fleet_12 : decode cX12_fleet 12 = .ok (.bipush (-2), 2) := by decide +kernel
theorem dX12_fleet_14 : decode cX12_fleet 14 = .ok (.ireturn, 1) := by decide +kernel
theorem dX12_fleet_15 : decode cX12_fleet 15 = .ok (.iconst 0, 1) := by decide +kernel
theorem dX12_fleet_16 : decode cX12_fleet 16 = .ok (.istore_n 2, 1) := by decide +kernel
theorem dX12_fleet_17 : decode cX12_fleet 17 = .ok (.iconst 0, 1) := by decide +kernel
theorem dX12_fleet_18 : decode cX12_fleet 18 = .ok (.istore_n 3, 1) := by decide +kernel
theorem dX12_fleet_19 : decode cX12_fleet 19 = .ok (.iload_n 3, 1) := by decide +kernel
theorem dX12_fleet_20 : decode cX12_fleet 20 = .ok (.aload_n 0, 1) := by decide +kernel
theorem dX12_fleet_21 : decode cX12_fleet 21 = .ok (.getfield 110, 3) := by decide +kernel
theorem dX12_fleet_24 : decode cX12_fleet 24 = .ok (.if_icmp .ge 27, 3) := by decide +kernel
theorem dX12_fleet_27 : decode cX12_fleet 27 = .ok (.iload_n 2, 1) := by decide +kernel
theorem dX12_fleet_28 : decode cX12_fleet 28 = .ok (.aload_n 0, 1) := by decide +kernel
theorem dX12_fleet_29 : decode cX12_fleet 29 = .ok (.iload_n 3, 1) := by decide +kernel
theorem dX12_fleet_30 : decode cX12_fleet 30 = .ok (.invokevirtual 271, 3) := by decide +kernel
theorem dX12_fleet_33 : decode cX12_fleet 33 = .ok (.ifCond .eq 9, 3) := by decide +kernel
theorem dX12_fleet_36 : decode cX12_fleet 36 = .ok (.iconst 1, 1) := by decide +kernel
theorem dX12_fleet_37 : decode cX12_fleet 37 = .ok (.iload_n 3, 1) := by decide +kernel
theorem dX12_fleet_38 : decode cX12_fleet 38 = .ok (.ishl, 1) := by decide +kernel
theorem dX12_fleet_39 : decode cX12_fleet 39 = .ok (.goto 4, 3) := by decide +kernel
theorem dX12_fleet_42 : decode cX12_fleet 42 = .ok (.iconst 0, 1) := by decide +kernel
theorem dX12_fleet_43 : decode cX12_fleet 43 = .ok (.ior, 1) := by decide +kernel
theorem dX12_fleet_44 : decode cX12_fleet 44 = .ok (.istore_n 2, 1) := by decide +kernel
theorem dX12_fleet_45 : decode cX12_fleet 45 = .ok (.iinc 3 1, 3) := by decide +kernel
theorem dX12_fleet_48 : decode cX12_fleet 48 = .ok (.goto (-29), 3) := by decide +kernel
theorem dX12_fleet_51 : decode cX12_fleet 51 = .ok (.iconst 0, 1) := by decide +kernel
theorem dX12_fleet_52 : decode cX12_fleet 52 = .ok (.istore_n 3, 1) := by decide +kernel
theorem dX12_fleet_53 : decode cX12_fleet 53 = .ok (.iconst 0, 1) := by decide +kernel
theorem dX12_fleet_54 : decode cX12_fleet 54 = .ok (.istore 4, 2) := by decide +kernel
theorem dX12_fleet_56 : decode cX12_fleet 56 = .ok (.iconst 0, 1) := by decide +kernel
theorem dX12_fleet_57 : decode cX12_fleet 57 = .ok (.istore 5, 2) := by decide +kernel
theorem dX12_fleet_59 : decode cX12_fleet 59 = .ok (.iconst 1, 1) := by decide +kernel
theorem dX12_fleet_60 : decode cX12_fleet 60 = .ok (.istore 6, 2) := by decide +kernel
theorem dX12_fleet_62 : decode cX12_fleet 62 = .ok (.iload 6, 2) := by decide +kernel
theorem dX12_fleet_64 : decode cX12_fleet 64 = .ok (.iconst 1, 1) := by decide +kernel
theorem dX12_fleet_65 : decode cX12_fleet 65 = .ok (.aload_n 0, 1) := by decide +kernel
theorem dX12_fleet_66 : decode cX12_fleet 66 = .ok (.getfield 110, 3) := by decide +kernel
theorem dX12_fleet_69 : decode cX12_fleet 69 = .ok (.ishl, 1) := by decide +kernel
theorem dX12_fleet_70 : decode cX12_fleet 70 = .ok (.if_icmp .ge 104, 3) := by decide +kernel
theorem dX12_fleet_73 : decode cX12_fleet 73 = .ok (.iconst 0, 1) := by decide +kernel
theorem dX12_fleet_74 : decode cX12_fleet 74 = .ok (.istore 7, 2) := by decide +kernel
theorem dX12_fleet_76 : decode cX12_fleet 76 = .ok (.iconst 0, 1) := by decide +kernel
theorem dX12_fleet_77 : decode cX12_fleet 77 = .ok (.istore 8, 2) := by decide +kernel
theorem dX12_fleet_79 : decode cX12_fleet 79 = .ok (.iload 8, 2) := by decide +kernel
theorem dX12_fleet_81 : decode cX12_fleet 81 = .ok (.aload_n 0, 1) := by decide +kernel
theorem dX12_fleet_82 : decode cX12_fleet 82 = .ok (.getfield 110, 3) := by decide +kernel
theorem dX12_fleet_85 : decode cX12_fleet 85 = .ok (.if_icmp .ge 21, 3) := by decide +kernel
theorem dX12_fleet_88 : decode cX12_fleet 88 = .ok (.iload 7, 2) := by decide +kernel
theorem dX12_fleet_90 : decode cX12_fleet 90 = .ok (.iload 6, 2) := by decide +kernel
theorem dX12_fleet_92 : decode cX12_fleet 92 = .ok (.iload 8, 2) := by decide +kernel
theorem dX12_fleet_94 : decode cX12_fleet 94 = .ok (.ishr, 1) := by decide +kernel
theorem dX12_fleet_95 : decode cX12_fleet 95 = .ok (.iconst 1, 1) := by decide +kernel
theorem dX12_fleet_96 : decode cX12_fleet 96 = .ok (.iand, 1) := by decide +kernel
theorem dX12_fleet_97 : decode cX12_fleet 97 = .ok (.iadd, 1) := by decide +kernel
theorem dX12_fleet_98 : decode cX12_fleet 98 = .ok (.istore 7, 2) := by decide +kernel
theorem dX12_fleet_100 : decode cX12_fleet 100 = .ok (.iinc 8 1, 3) := by decide +kernel
theorem dX12_fleet_103 : decode cX12_fleet 103 = .ok (.goto (-24), 3) := by decide +kernel
theorem dX12_fleet_106 : decode cX12_fleet 106 = .ok (.iload 6, 2) := by decide +kernel
theorem dX12_fleet_108 : decode cX12_fleet 108 = .ok (.iload_n 2, 1) := by decide +kernel
theorem dX12_fleet_109 : decode cX12_fleet 109 = .ok (.iconst (-1), 1) := by decide +kernel
theorem dX12_fleet_110 : decode cX12_fleet 110 = .ok (.ixor, 1) := by decide +kernel
theorem dX12_fleet_111 : decode cX12_fleet 111 = .ok (.iand, 1) := by decide +kernel
theorem dX12_fleet_112 : decode cX12_fleet 112 = .ok (.ifCond .ne 20, 3) := by decide +kernel
theorem dX12_fleet_115 : decode cX12_fleet 115 = .ok (.iload 7, 2) := by decide +kernel
theorem dX12_fleet_117 : decode cX12_fleet 117 = .ok (.iload 4, 2) := by decide +kernel
theorem dX12_fleet_119 : decode cX12_fleet 119 = .ok (.if_icmp .lt 13, 3) := by decide +kernel
theorem dX12_fleet_122 : decode cX12_fleet 122 = .ok (.aload_n 0, 1) := by decide +kernel
theorem dX12_fleet_123 : decode cX12_fleet 123 = .ok (.iload 6, 2) := by decide +kernel
theorem dX12_fleet_125 : decode cX12_fleet 125 = .ok (.iload_n 1, 1) := by decide +kernel
theorem dX12_fleet_126 : decode cX12_fleet 126 = .ok (.invokevirtual 274, 3) := by decide +kernel
theorem dX12_fleet_129 : decode cX12_fleet 129 = .ok (.goto 5, 3) := by decide +kernel
theorem dX12_fleet_132 : decode cX12_fleet 132 = .ok (.bipush (-9), 2) := by decide +kernel
theorem dX12_fleet_134 : decode cX12_fleet 134 = .ok (.istore 8, 2) := by decide +kernel
theorem dX12_fleet_136 : decode cX12_fleet 136 = .ok (.iload 8, 2) := by decide +kernel
theorem dX12_fleet_138 : decode cX12_fleet 138 = .ok (.bipush (-9), 2) := by decide +kernel
theorem dX12_fleet_140 : decode cX12_fleet 140 = .ok (.if_icmp .eq 28, 3) := by decide +kernel
theorem dX12_fleet_143 : decode cX12_fleet 143 = .ok (.iload 7, 2) := by decide +kernel
theorem dX12_fleet_145 : decode cX12_fleet 145 = .ok (.iload 4, 2) := by decide +kernel
theorem dX12_fleet_147 : decode cX12_fleet 147 = .ok (.if_icmp .gt 10, 3) := by decide +kernel
theorem dX12_fleet_150 : decode cX12_fleet 150 = .ok (.iload 8, 2) := by decide +kernel
theorem dX12_fleet_152 : decode cX12_fleet 152 = .ok (.iload 5, 2) := by decide +kernel
theorem dX12_fleet_154 : decode cX12_fleet 154 = .ok (.if_icmp .ge 14, 3) := by decide +kernel
theorem dX12_fleet_157 : decode cX12_fleet 157 = .ok (.iload 6, 2) := by decide +kernel
theorem dX12_fleet_159 : decode cX12_fleet 159 = .ok (.istore_n 3, 1) := by decide +kernel
theorem dX12_fleet_160 : decode cX12_fleet 160 = .ok (.iload 7, 2) := by decide +kernel
theorem dX12_fleet_162 : decode cX12_fleet 162 = .ok (.istore 4, 2) := by decide +kernel
theorem dX12_fleet_164 : decode cX12_fleet 164 = .ok (.iload 8, 2) := by decide +kernel
theorem dX12_fleet_166 : decode cX12_fleet 166 = .ok (.istore 5, 2) := by decide +kernel
theorem dX12_fleet_168 : decode cX12_fleet 168 = .ok (.iinc 6 1, 3) := by decide +kernel
theorem dX12_fleet_171 : decode cX12_fleet 171 = .ok (.goto (-109), 3) := by decide +kernel
theorem dX12_fleet_174 : decode cX12_fleet 174 = .ok (.iload_n 3, 1) := by decide +kernel
theorem dX12_fleet_175 : decode cX12_fleet 175 = .ok (.ireturn, 1) := by decide +kernel
theorem dX12_sail_0 : decode cX12_sail 0 = .ok (.aload_n 0, 1) := by decide +kernel
theorem dX12_sail_1 : decode cX12_sail 1 = .ok (.iconst 0, 1) := by decide +kernel
theorem dX12_sail_2 : decode cX12_sail 2 = .ok (.putfield 100, 3) := by decide +kernel
theorem dX12_sail_5 : decode cX12_sail 5 = .ok (.aload_n 0, 1) := by decide +kernel
theorem dX12_sail_6 : decode cX12_sail 6 = .ok (.iload_n 1, 1) := by decide +kernel
theorem dX12_sail_7 : decode cX12_sail 7 = .ok (.invokevirtual 259, 3) := by decide +kernel
theorem dX12_sail_10 : decode cX12_sail 10 = .ok (.ifCond .eq 5, 3) := by decide +kernel
theorem dX12_sail_13 : decode cX12_sail 13 = .ok (.iconst (-1), 1) := by decide +kernel
theorem dX12_sail_14 : decode cX12_sail 14 = .ok (.ireturn, 1) := by decide +kernel
theorem dX12_sail_15 : decode cX12_sail 15 = .ok (.aload_n 0, 1) := by decide +kernel
theorem dX12_sail_16 : decode cX12_sail 16 = .ok (.getfield 43, 3) := by decide +kernel
theorem dX12_sail_19 : decode cX12_sail 19 = .ok (.iload_n 1, 1) := by decide +kernel
theorem dX12_sail_20 : decode cX12_sail 20 = .ok (.baload, 1) := by decide +kernel
theorem dX12_sail_21 : decode cX12_sail 21 = .ok (.ifCond .ne 37, 3) := by decide +kernel
theorem dX12_sail_24 : decode cX12_sail 24 = .ok (.aload_n 0, 1) := by decide +kernel
theorem dX12_sail_25 : decode cX12_sail 25 = .ok (.bipush 10, 2) := by decide +kernel
theorem dX12_sail_27 : decode cX12_sail 27 = .ok (.iload_n 1, 1) := by decide +kernel
theorem dX12_sail_28 : decode cX12_sail 28 = .ok (.iadd, 1) := by decide +kernel
theorem dX12_sail_29 : decode cX12_sail 29 = .ok (.invokevirtual 162, 3) := by decide +kernel
theorem dX12_sail_32 : decode cX12_sail 32 = .ok (.aload_n 0, 1) := by decide +kernel
theorem dX12_sail_33 : decode cX12_sail 33 = .ok (.getfield 34, 3) := by decide +kernel
theorem dX12_sail_36 : decode cX12_sail 36 = .ok (.iload_n 1, 1) := by decide +kernel
theorem dX12_sail_37 : decode cX12_sail 37 = .ok (.iaload, 1) := by decide +kernel
theorem dX12_sail_38 : decode cX12_sail 38 = .ok (.if_icmp .lt 20, 3) := by decide +kernel
theorem dX12_sail_41 : decode cX12_sail 41 = .ok (.aload_n 0, 1) := by decide +kernel
theorem dX12_sail_42 : decode cX12_sail 42 = .ok (.bipush 10, 2) := by decide +kernel
theorem dX12_sail_44 : decode cX12_sail 44 = .ok (.iload_n 1, 1) := by decide +kernel
theorem dX12_sail_45 : decode cX12_sail 45 = .ok (.iadd, 1) := by decide +kernel
theorem dX12_sail_46 : decode cX12_sail 46 = .ok (.invokevirtual 262, 3) := by decide +kernel
theorem dX12_sail_49 : decode cX12_sail 49 = .ok (.aload_n 0, 1) := by decide +kernel
theorem dX12_sail_50 : decode cX12_sail 50 = .ok (.getfield 37, 3) := by decide +kernel
theorem dX12_sail_53 : decode cX12_sail 53 = .ok (.iload_n 1, 1) := by decide +kernel
theorem dX12_sail_54 : decode cX12_sail 54 = .ok (.iaload, 1) := by decide +kernel
theorem dX12_sail_55 : decode cX12_sail 55 = .ok (.if_icmp .ge 6, 3) := by decide +kernel
theorem dX12_sail_58 : decode cX12_sail 58 = .ok (.bipush (-3), 2) := by decide +kernel
theorem dX12_sail_60 : decode cX12_sail 60 = .ok (.ireturn, 1) := by decide +kernel
theorem dX12_sail_61 : decode cX12_sail 61 = .ok (.aload_n 0, 1) := by decide +kernel
theorem dX12_sail_62 : decode cX12_sail 62 = .ok (.getfield 43, 3) := by decide +kernel
theorem dX12_sail_65 : decode cX12_sail 65 = .ok (.iload_n 1, 1) := by decide +kernel
theorem dX12_sail_66 : decode cX12_sail 66 = .ok (.iconst 1, 1) := by decide +kernel
theorem dX12_sail_67 : decode cX12_sail 67 = .ok (.bastore, 1) := by decide +kernel
theorem dX12_sail_68 : decode cX12_sail 68 = .ok (.aload_n 0, 1) := by decide +kernel
theorem dX12_sail_69 : decode cX12_sail 69 = .ok (.bipush 10, 2) := by decide +kernel
theorem dX12_sail_71 : decode cX12_sail 71 = .ok (.iload_n 1, 1) := by decide +kernel
theorem dX12_sail_72 : decode cX12_sail 72 = .ok (.iadd, 1) := by decide +kernel
theorem dX12_sail_73 : decode cX12_sail 73 = .ok (.invokevirtual 162, 3) := by decide +kernel
theorem dX12_sail_76 : decode cX12_sail 76 = .ok (.ireturn, 1) := by decide +kernel
theorem dX12_comeHome_0 : decode cX12_comeHome 0 = .ok (.aload_n 0, 1) := by decide +kernel
theorem dX12_comeHome_1 : decode cX12_comeHome 1 = .ok (.iconst 0, 1) := by decide +kernel
theorem dX12_comeHome_2 : decode cX12_comeHome 2 = .ok (.putfield 100, 3) := by decide +kernel
theorem dX12_comeHome_5 : decode cX12_comeHome 5 = .ok (.aload_n 0, 1) := by decide +kernel
theorem dX12_comeHome_6 : decode cX12_comeHome 6 = .ok (.iload_n 1, 1) := by decide +kernel
theorem dX12_comeHome_7 : decode cX12_comeHome 7 = .ok (.invokevirtual 259, 3) := by decide +kernel
theorem dX12_comeHome_10 : decode cX12_comeHome 10 = .ok (.ifCond .eq 5, 3) := by decide +kernel
theorem dX12_comeHome_13 : decode cX12_comeHome 13 = .ok (.iconst (-1), 1) := by decide +kernel
theorem dX12_comeHome_14 : decode cX12_comeHome 14 = .ok (.ireturn, 1) := by decide +kernel
theorem dX12_comeHome_15 : decode cX12_comeHome 15 = .ok (.aload_n 0, 1) := by decide +kernel
theorem dX12_comeHome_16 : decode cX12_comeHome 16 = .ok (.getfield 43, 3) := by decide +kernel
theorem dX12_comeHome_19 : decode cX12_comeHome 19 = .ok (.iload_n 1, 1) := by decide +kernel
theorem dX12_comeHome_20 : decode cX12_comeHome 20 = .ok (.baload, 1) := by decide +kernel
theorem dX12_comeHome_21 : decode cX12_comeHome 21 = .ok (.ifCond .ne 6, 3) := by decide +kernel
theorem dX12_comeHome_24 : decode cX12_comeHome 24 = .ok (.bipush (-3), 2) := by decide +kernel
theorem dX12_comeHome_26 : decode cX12_comeHome 26 = .ok (.ireturn, 1) := by decide +kernel
theorem dX12_comeHome_27 : decode cX12_comeHome 27 = .ok (.aload_n 0, 1) := by decide +kernel
theorem dX12_comeHome_28 : decode cX12_comeHome 28 = .ok (.getfield 43, 3) := by decide +kernel
theorem dX12_comeHome_31 : decode cX12_comeHome 31 = .ok (.iload_n 1, 1) := by decide +kernel
theorem dX12_comeHome_32 : decode cX12_comeHome 32 = .ok (.iconst 0, 1) := by decide +kernel
theorem dX12_comeHome_33 : decode cX12_comeHome 33 = .ok (.bastore, 1) := by decide +kernel
theorem dX12_comeHome_34 : decode cX12_comeHome 34 = .ok (.aload_n 0, 1) := by decide +kernel
theorem dX12_comeHome_35 : decode cX12_comeHome 35 = .ok (.bipush 10, 2) := by decide +kernel
theorem dX12_comeHome_37 : decode cX12_comeHome 37 = .ok (.iload_n 1, 1) := by decide +kernel
theorem dX12_comeHome_38 : decode cX12_comeHome 38 = .ok (.iadd, 1) := by decide +kernel
theorem dX12_comeHome_39 : decode cX12_comeHome 39 = .ok (.invokevirtual 162, 3) := by decide +kernel
theorem dX12_comeHome_42 : decode cX12_comeHome 42 = .ok (.ireturn, 1) := by decide +kernel
theorem dX12_noTicket_0 : decode cX12_noTicket 0 = .ok (.iload_n 1, 1) := by decide +kernel
theorem dX12_noTicket_1 : decode cX12_noTicket 1 = .ok (.i2l, 1) := by decide +kernel
theorem dX12_noTicket_2 : decode cX12_noTicket 2 = .ok (.lconst 0, 1) := by decide +kernel
theorem dX12_noTicket_3 : decode cX12_noTicket 3 = .ok (.aload_n 0, 1) := by decide +kernel
theorem dX12_noTicket_4 : decode cX12_noTicket 4 = .ok (.getfield 277, 3) := by decide +kernel
theorem dX12_noTicket_7 : decode cX12_noTicket 7 = .ok (.iconst 1, 1) := by decide +kernel
theorem dX12_noTicket_8 : decode cX12_noTicket 8 = .ok (.isub, 1) := by decide +kernel
theorem dX12_noTicket_9 : decode cX12_noTicket 9 = .ok (.i2l, 1) := by decide +kernel
theorem dX12_noTicket_10 : decode cX12_noTicket 10 = .ok (.invokestatic 103, 3) := by decide +kernel
theorem dX12_noTicket_13 : decode cX12_noTicket 13 = .ok (.ifCond .ne 7, 3) := by decide +kernel
theorem dX12_noTicket_16 : decode cX12_noTicket 16 = .ok (.iconst 1, 1) := by decide +kernel
theorem dX12_noTicket_17 : decode cX12_noTicket 17 = .ok (.goto 4, 3) := by decide +kernel
theorem dX12_noTicket_20 : decode cX12_noTicket 20 = .ok (.iconst 0, 1) := by decide +kernel
theorem dX12_noTicket_21 : decode cX12_noTicket 21 = .ok (.ireturn, 1) := by decide +kernel
theorem dX12_noHolder_0 : decode cX12_noHolder 0 = .ok (.iload_n 0, 1) := by decide +kernel
theorem dX12_noHolder_1 : decode cX12_noHolder 1 = .ok (.i2l, 1) := by decide +kernel
theorem dX12_noHolder_2 : decode cX12_noHolder 2 = .ok (.lconst 0, 1) := by decide +kernel
theorem dX12_noHolder_3 : decode cX12_noHolder 3 = .ok (.ldc2_w 280, 3) := by decide +kernel
theorem dX12_noHolder_6 : decode cX12_noHolder 6 = .ok (.invokestatic 103, 3) := by decide +kernel
theorem dX12_noHolder_9 : decode cX12_noHolder 9 = .ok (.ifCond .ne 7, 3) := by decide +kernel
theorem dX12_noHolder_12 : decode cX12_noHolder 12 = .ok (.iconst 1, 1) := by decide +kernel
theorem dX12_noHolder_13 : decode cX12_noHolder 13 = .ok (.goto 4, 3) := by decide +kernel
theorem dX12_noHolder_16 : decode cX12_noHolder 16 = .ok (.iconst 0, 1) := by decide +kernel
theorem dX12_noHolder_17 : decode cX12_noHolder 17 = .ok (.ireturn, 1) := by decide +kernel
theorem dX12_ticket_0 : decode cX12_ticket 0 = .ok (.aload_n 0, 1) := by decide +kernel
theorem dX12_ticket_1 : decode cX12_ticket 1 = .ok (.iconst 0, 1) := by decide +kernel
theorem dX12_ticket_2 : decode cX12_ticket 2 = .ok (.putfield 100, 3) := by decide +kernel
theorem dX12_ticket_5 : decode cX12_ticket 5 = .ok (.aload_n 0, 1) := by decide +kernel
theorem dX12_ticket_6 : decode cX12_ticket 6 = .ok (.iload_n 1, 1) := by decide +kernel
theorem dX12_ticket_7 : decode cX12_ticket 7 = .ok (.invokevirtual 144, 3) := by decide +kernel
theorem dX12_ticket_10 : decode cX12_ticket 10 = .ok (.ifCond .eq 5, 3) := by decide +kernel
theorem dX12_ticket_13 : decode cX12_ticket 13 = .ok (.iconst (-1), 1) := by decide +kernel
theorem dX12_ticket_14 : decode cX12_ticket 14 = .ok (.ireturn, 1) := by decide +kernel
theorem dX12_ticket_15 : decode cX12_ticket 15 = .ok (.iload_n 2, 1) := by decide +kernel
theorem dX12_ticket_16 : decode cX12_ticket 16 = .ok (.i2l, 1) := by decide +kernel
theorem dX12_ticket_17 : decode cX12_ticket 17 = .ok (.lconst 1, 1) := by decide +kernel
theorem dX12_ticket_18 : decode cX12_ticket 18 = .ok (.ldc2_w 282, 3) := by decide +kernel
theorem dX12_ticket_21 : decode cX12_ticket 21 = .ok (.invokestatic 103, 3) := by decide +kernel
theorem dX12_ticket_24 : decode cX12_ticket 24 = .ok (.ifCond .eq 15, 3) := by decide +kernel
theorem dX12_ticket_27 : decode cX12_ticket 27 = .ok (.iload_n 3, 1) := by decide +kernel
theorem dX12_ticket_28 : decode cX12_ticket 28 = .ok (.i2l, 1) := by decide +kernel
theorem dX12_ticket_29 : decode cX12_ticket 29 = .ok (.lconst 1, 1) := by decide +kernel
theorem dX12_ticket_30 : decode cX12_ticket 30 = .ok (.ldc2_w 133, 3) := by decide +kernel
theorem dX12_ticket_33 : decode cX12_ticket 33 = .ok (.invokestatic 103, 3) := by decide +kernel
theorem dX12_ticket_36 : decode cX12_ticket 36 = .ok (.ifCond .ne 6, 3) := by decide +kernel
theorem dX12_ticket_39 : decode cX12_ticket 39 = .ok (.bipush (-2), 2) := by decide +kernel
theorem dX12_ticket_41 : decode cX12_ticket 41 = .ok (.ireturn, 1) := by decide +kernel
theorem dX12_ticket_42 : decode cX12_ticket 42 = .ok (.aload_n 0, 1) := by decide +kernel
theorem dX12_ticket_43 : decode cX12_ticket 43 = .ok (.getfield 277, 3) := by decide +kernel
theorem dX12_ticket_46 : decode cX12_ticket 46 = .ok (.bipush 40, 2) := by decide +kernel
theorem dX12_ticket_48 : decode cX12_ticket 48 = .ok (.if_icmp .ne 6, 3) := by decide +kernel
theorem dX12_ticket_51 : decode cX12_ticket 51 = .ok (.bipush (-4), 2) := by decide +kernel
theorem dX12_ticket_53 : decode cX12_ticket 53 = .ok (.ireturn, 1) := by decide +kernel
theorem dX12_ticket_54 : decode cX12_ticket 54 = .ok (.aload_n 0, 1) := by decide +kernel
theorem dX12_ticket_55 : decode cX12_ticket 55 = .ok (.getfield 79, 3) := by decide +kernel
theorem dX12_ticket_58 : decode cX12_ticket 58 = .ok (.aload_n 0, 1) := by decide +kernel
theorem dX12_ticket_59 : decode cX12_ticket 59 = .ok (.getfield 277, 3) := by decide +kernel
theorem dX12_ticket_62 : decode cX12_ticket 62 = .ok (.iload_n 1, 1) := by decide +kernel
theorem dX12_ticket_63 : decode cX12_ticket 63 = .ok (.iastore, 1) := by decide +kernel
theorem dX12_ticket_64 : decode cX12_ticket 64 = .ok (.aload_n 0, 1) := by decide +kernel
theorem dX12_ticket_65 : decode cX12_ticket 65 = .ok (.getfield 82, 3) := by decide +kernel
theorem dX12_ticket_68 : decode cX12_ticket 68 = .ok (.aload_n 0, 1) := by decide +kernel
theorem dX12_ticket_69 : decode cX12_ticket 69 = .ok (.getfield 277, 3) := by decide +kernel
theorem dX12_ticket_72 : decode cX12_ticket 72 = .ok (.iload_n 2, 1) := by decide +kernel
theorem dX12_ticket_73 : decode cX12_ticket 73 = .ok (.iload_n 3, 1) := by decide +kernel
theorem dX12_ticket_74 : decode cX12_ticket 74 = .ok (.imul, 1) := by decide +kernel
theorem dX12_ticket_75 : decode cX12_ticket 75 = .ok (.iastore, 1) := by decide +kernel
theorem dX12_ticket_76 : decode cX12_ticket 76 = .ok (.aload_n 0, 1) := by decide +kernel
theorem dX12_ticket_77 : decode cX12_ticket 77 = .ok (.getfield 85, 3) := by decide +kernel
theorem dX12_ticket_80 : decode cX12_ticket 80 = .ok (.aload_n 0, 1) := by decide +kernel
theorem dX12_ticket_81 : decode cX12_ticket 81 = .ok (.getfield 277, 3) := by decide +kernel
theorem dX12_ticket_84 : decode cX12_ticket 84 = .ok (.bipush (-9), 2) := by decide +kernel
theorem dX12_ticket_86 : decode cX12_ticket 86 = .ok (.iastore, 1) := by decide +kernel
theorem dX12_ticket_87 : decode cX12_ticket 87 = .ok (.aload_n 0, 1) := by decide +kernel
theorem dX12_ticket_88 : decode cX12_ticket 88 = .ok (.dup, 1) := by decide +kernel
theorem dX12_ticket_89 : decode cX12_ticket 89 = .ok (.getfield 277, 3) := by decide +kernel
theorem dX12_ticket_92 : decode cX12_ticket 92 = .ok (.iconst 1, 1) := by decide +kernel
theorem dX12_ticket_93 : decode cX12_ticket 93 = .ok (.iadd, 1) := by decide +kernel
theorem dX12_ticket_94 : decode cX12_ticket 94 = .ok (.putfield 277, 3) := by decide +kernel
theorem dX12_ticket_97 : decode cX12_ticket 97 = .ok (.aload_n 0, 1) := by decide +kernel
theorem dX12_ticket_98 : decode cX12_ticket 98 = .ok (.getfield 277, 3) := by decide +kernel
theorem dX12_ticket_101 : decode cX12_ticket 101 = .ok (.iconst 1, 1) := by decide +kernel
theorem dX12_ticket_102 : decode cX12_ticket 102 = .ok (.isub, 1) := by decide +kernel
theorem dX12_ticket_103 : decode cX12_ticket 103 = .ok (.ireturn, 1) := by decide +kernel
theorem dX12_give_0 : decode cX12_give 0 = .ok (.iload_n 2, 1) := by decide +kernel
theorem dX12_give_1 : decode cX12_give 1 = .ok (.bipush (-9), 2) := by decide +kernel
theorem dX12_give_3 : decode cX12_give 3 = .ok (.if_icmp .ne 21, 3) := by decide +kernel
theorem dX12_give_6 : decode cX12_give 6 = .ok (.aload_n 0, 1) := by decide +kernel
theorem dX12_give_7 : decode cX12_give 7 = .ok (.getfield 97, 3) := by decide +kernel
theorem dX12_give_10 : decode cX12_give 10 = .ok (.aload_n 0, 1) := by decide +kernel
theorem dX12_give_11 : decode cX12_give 11 = .ok (.getfield 79, 3) := by decide +kernel
theorem dX12_give_14 : decode cX12_give 14 = .ok (.iload_n 1, 1) := by decide +kernel
theorem dX12_give_15 : decode cX12_give 15 = .ok (.iaload, 1) := by decide +kernel
theorem dX12_give_16 : decode cX12_give 16 = .ok (.dup2, 1) := by decide +kernel
theorem dX12_give_17 : decode cX12_give 17 = .ok (.iaload, 1) := by decide +kernel
theorem dX12_give_18 : decode cX12_give 18 = .ok (.iload_n 3, 1) := by decide +kernel
theorem dX12_give_19 : decode cX12_give 19 = .ok (.iadd, 1) := by decide +kernel
theorem dX12_give_20 : decode cX12_give 20 = .ok (.iastore, 1) := by decide +kernel
theorem dX12_give_21 : decode cX12_give 21 = .ok (.goto 13, 3) := by decide +kernel
theorem dX12_give_24 : decode cX12_give 24 = .ok (.aload_n 0, 1) := by decide +kernel
theorem dX12_give_25 : decode cX12_give 25 = .ok (.getfield 94, 3) := by decide +kernel
theorem dX12_give_28 : decode cX12_give 28 = .ok (.iload_n 2, 1) := by decide +kernel
theorem dX12_give_29 : decode cX12_give 29 = .ok (.dup2, 1) := by decide +kernel
theorem dX12_give_30 : decode cX12_give 30 = .ok (.iaload, 1) := by decide +kernel
theorem dX12_give_31 : decode cX12_give 31 = .ok (.iload_n 3, 1) := by decide +kernel
theorem dX12_give_32 : decode cX12_give 32 = .ok (.iadd, 1) := by decide +kernel
theorem dX12_give_33 : decode cX12_give 33 = .ok (.iastore, 1) := by decide +kernel
theorem dX12_give_34 : decode cX12_give 34 = .ok (.return_, 1) := by decide +kernel
theorem dX12_sell_0 : decode cX12_sell 0 = .ok (.aload_n 0, 1) := by decide +kernel
theorem dX12_sell_1 : decode cX12_sell 1 = .ok (.iconst 0, 1) := by decide +kernel
theorem dX12_sell_2 : decode cX12_sell 2 = .ok (.putfield 100, 3) := by decide +kernel
theorem dX12_sell_5 : decode cX12_sell 5 = .ok (.aload_n 0, 1) := by decide +kernel
theorem dX12_sell_6 : decode cX12_sell 6 = .ok (.iload_n 1, 1) := by decide +kernel
theorem dX12_sell_7 : decode cX12_sell 7 = .ok (.invokevirtual 284, 3) := by decide +kernel
theorem dX12_sell_10 : decode cX12_sell 10 = .ok (.ifCond .ne 10, 3) := by decide +kernel
theorem dX12_sell_13 : decode cX12_sell 13 = .ok (.iload_n 2, 1) := by decide +kernel
theorem dX12_sell_14 : decode cX12_sell 14 = .ok (.invokestatic 287, 3) := by decide +kernel
theorem dX12_sell_17 : decode cX12_sell 17 = .ok (.ifCond .eq 5, 3) := by decide +kernel
theorem dX12_sell_20 : decode cX12_sell 20 = .ok (.iconst (-1), 1) := by decide +kernel
theorem dX12_sell_21 : decode cX12_sell 21 = .ok (.ireturn, 1) := by decide +kernel
theorem dX12_sell_22 : decode cX12_sell 22 = .ok (.iload_n 3, 1) := by decide +kernel
theorem dX12_sell_23 : decode cX12_sell 23 = .ok (.i2l, 1) := by decide +kernel
theorem dX12_sell_24 : decode cX12_sell 24 = .ok (.lconst 1, 1) := by decide +kernel
theorem dX12_sell_25 : decode cX12_sell 25 = .ok (.ldc2_w 242, 3) := by decide +kernel
theorem dX12_sell_28 : decode cX12_sell 28 = .ok (.invokestatic 103, 3) := by decide +kernel
theorem dX12_sell_31 : decode cX12_sell 31 = .ok (.ifCond .ne 6, 3) := by decide +kernel
theorem dX12_sell_34 : decode cX12_sell 34 = .ok (.bipush (-2), 2) := by decide +kernel
theorem dX12_sell_36 : decode cX12_sell 36 = .ok (.ireturn, 1) := by decide +kernel
theorem dX12_sell_37 : decode cX12_sell 37 = .ok (.aload_n 0, 1) := by decide +kernel
theorem dX12_sell_38 : decode cX12_sell 38 = .ok (.getfield 88, 3) := by decide +kernel
theorem dX12_sell_41 : decode cX12_sell 41 = .ok (.iload_n 1, 1) := by decide +kernel
theorem dX12_sell_42 : decode cX12_sell 42 = .ok (.baload, 1) := by decide +kernel
theorem dX12_sell_43 : decode cX12_sell 43 = .ok (.ifCond .ne 13, 3) := by decide +kernel
theorem dX12_sell_46 : decode cX12_sell 46 = .ok (.aload_n 0, 1) := by decide +kernel
theorem dX12_sell_47 : decode cX12_sell 47 = .ok (.getfield 85, 3) := by decide +kernel
theorem dX12_sell_50 : decode cX12_sell 50 = .ok (.iload_n 1, 1) := by decide +kernel
theorem dX12_sell_51 : decode cX12_sell 51 = .ok (.iaload, 1) := by decide +kernel
theorem dX12_sell_52 : decode cX12_sell 52 = .ok (.iload_n 2, 1) := by decide +kernel
theorem dX12_sell_53 : decode cX12_sell 53 = .ok (.if_icmp .ne 6, 3) := by decide +kernel
theorem dX12_sell_56 : decode cX12_sell 56 = .ok (.bipush (-3), 2) := by decide +kernel
theorem dX12_sell_58 : decode cX12_sell 58 = .ok (.ireturn, 1) := by decide +kernel
theorem dX12_sell_59 : decode cX12_sell 59 = .ok (.aload_n 0, 1) := by decide +kernel
theorem dX12_sell_60 : decode cX12_sell 60 = .ok (.getfield 82, 3) := by decide +kernel
theorem dX12_sell_63 : decode cX12_sell 63 = .ok (.iload_n 1, 1) := by decide +kernel
theorem dX12_sell_64 : decode cX12_sell 64 = .ok (.iaload, 1) := by decide +kernel
theorem dX12_sell_65 : decode cX12_sell 65 = .ok (.iload_n 3, 1) := by decide +kernel
theorem dX12_sell_66 : decode cX12_sell 66 = .ok (.imul, 1) := by decide +kernel
theorem dX12_sell_67 : decode cX12_sell 67 = .ok (.bipush 100, 2) := by decide +kernel
theorem dX12_sell_69 : decode cX12_sell 69 = .ok (.idiv, 1) := by decide +kernel
theorem dX12_sell_70 : decode cX12_sell 70 = .ok (.istore 4, 2) := by decide +kernel
theorem dX12_sell_72 : decode cX12_sell 72 = .ok (.aload_n 0, 1) := by decide +kernel
theorem dX12_sell_73 : decode cX12_sell 73 = .ok (.iload_n 1, 1) := by decide +kernel
theorem dX12_sell_74 : decode cX12_sell 74 = .ok (.aload_n 0, 1) := by decide +kernel
theorem dX12_sell_75 : decode cX12_sell 75 = .ok (.getfield 85, 3) := by decide +kernel
theorem dX12_sell_78 : decode cX12_sell 78 = .ok (.iload_n 1, 1) := by decide +kernel
theorem dX12_sell_79 : decode cX12_sell 79 = .ok (.iaload, 1) := by decide +kernel
theorem dX12_sell_80 : decode cX12_sell 80 = .ok (.iload 4, 2) := by decide +kernel
theorem dX12_sell_82 : decode cX12_sell 82 = .ok (.invokevirtual 290, 3) := by decide +kernel
theorem dX12_sell_85 : decode cX12_sell 85 = .ok (.aload_n 0, 1) := by decide +kernel
theorem dX12_sell_86 : decode cX12_sell 86 = .ok (.iload_n 1, 1) := by decide +kernel
theorem dX12_sell_87 : decode cX12_sell 87 = .ok (.iload_n 2, 1) := by decide +kernel
theorem dX12_sell_88 : decode cX12_sell 88 = .ok (.iload 4, 2) := by decide +kernel
theorem dX12_sell_90 : decode cX12_sell 90 = .ok (.ineg, 1) := by decide +kernel
theorem dX12_sell_91 : decode cX12_sell 91 = .ok (.invokevirtual 290, 3) := by decide +kernel
theorem dX12_sell_94 : decode cX12_sell 94 = .ok (.aload_n 0, 1) := by decide +kernel
theorem dX12_sell_95 : decode cX12_sell 95 = .ok (.getfield 85, 3) := by decide +kernel
theorem dX12_sell_98 : decode cX12_sell 98 = .ok (.iload_n 1, 1) := by decide +kernel
theorem dX12_sell_99 : decode cX12_sell 99 = .ok (.iload_n 2, 1) := by decide +kernel
theorem dX12_sell_100 : decode cX12_sell 100 = .ok (.iastore, 1) := by decide +kernel
theorem dX12_sell_101 : decode cX12_sell 101 = .ok (.iload 4, 2) := by decide +kernel
theorem dX12_sell_103 : decode cX12_sell 103 = .ok (.ireturn, 1) := by decide +kernel
theorem dX12_pay_0 : decode cX12_pay 0 = .ok (.aload_n 0, 1) := by decide +kernel
theorem dX12_pay_1 : decode cX12_pay 1 = .ok (.iconst 0, 1) := by decide +kernel
theorem dX12_pay_2 : decode cX12_pay 2 = .ok (.putfield 100, 3) := by decide +kernel
theorem dX12_pay_5 : decode cX12_pay 5 = .ok (.aload_n 0, 1) := by decide +kernel
theorem dX12_pay_6 : decode cX12_pay 6 = .ok (.iload_n 1, 1) := by decide +kernel
theorem dX12_pay_7 : decode cX12_pay 7 = .ok (.invokevirtual 284, 3) := by decide +kernel
theorem dX12_pay_10 : decode cX12_pay 10 = .ok (.ifCond .ne 16, 3) := by decide +kernel
theorem dX12_pay_13 : decode cX12_pay 13 = .ok (.iload_n 2, 1) := by decide +kernel
theorem dX12_pay_14 : decode cX12_pay 14 = .ok (.bipush (-9), 2) := by decide +kernel
theorem dX12_pay_16 : decode cX12_pay 16 = .ok (.if_icmp .eq 12, 3) := by decide +kernel
theorem dX12_pay_19 : decode cX12_pay 19 = .ok (.iload_n 2, 1) := by decide +kernel
theorem dX12_pay_20 : decode cX12_pay 20 = .ok (.invokestatic 287, 3) := by decide +kernel
theorem dX12_pay_23 : decode cX12_pay 23 = .ok (.ifCond .eq 5, 3) := by decide +kernel
theorem dX12_pay_26 : decode cX12_pay 26 = .ok (.iconst (-1), 1) := by decide +kernel
theorem dX12_pay_27 : decode cX12_pay 27 = .ok (.ireturn, 1) := by decide +kernel
theorem dX12_pay_28 : decode cX12_pay 28 = .ok (.aload_n 0, 1) := by decide +kernel
theorem dX12_pay_29 : decode cX12_pay 29 = .ok (.getfield 88, 3) := by decide +kernel
theorem dX12_pay_32 : decode cX12_pay 32 = .ok (.iload_n 1, 1) := by decide +kernel
theorem dX12_pay_33 : decode cX12_pay 33 = .ok (.baload, 1) := by decide +kernel
theorem dX12_pay_34 : decode cX12_pay 34 = .ok (.ifCond .ne 13, 3) := by decide +kernel
theorem dX12_pay_37 : decode cX12_pay 37 = .ok (.aload_n 0, 1) := by decide +kernel
theorem dX12_pay_38 : decode cX12_pay 38 = .ok (.getfield 85, 3) := by decide +kernel
theorem dX12_pay_41 : decode cX12_pay 41 = .ok (.iload_n 1, 1) := by decide +kernel
theorem dX12_pay_42 : decode cX12_pay 42 = .ok (.iaload, 1) := by decide +kernel
theorem dX12_pay_43 : decode cX12_pay 43 = .ok (.iload_n 2, 1) := by decide +kernel
theorem dX12_pay_44 : decode cX12_pay 44 = .ok (.if_icmp .eq 16, 3) := by decide +kernel
theorem dX12_pay_47 : decode cX12_pay 47 = .ok (.aload_n 0, 1) := by decide +kernel
theorem dX12_pay_48 : decode cX12_pay 48 = .ok (.getfield 91, 3) := by decide +kernel
theorem dX12_pay_51 : decode cX12_pay 51 = .ok (.iload_n 1, 1) := by decide +kernel
theorem dX12_pay_52 : decode cX12_pay 52 = .ok (.dup2, 1) := by decide +kernel
theorem dX12_pay_53 : decode cX12_pay 53 = .ok (.iaload, 1) := by decide +kernel
theorem dX12_pay_54 : decode cX12_pay 54 = .ok (.iconst 1, 1) := by decide +kernel
theorem dX12_pay_55 : decode cX12_pay 55 = .ok (.iadd, 1) := by decide +kernel
theorem dX12_pay_56 : decode cX12_pay 56 = .ok (.iastore, 1) := by decide +kernel
theorem dX12_pay_57 : decode cX12_pay 57 = .ok (.goto 10, 3) := by decide +kernel
theorem dX12_pay_60 : decode cX12_pay 60 = .ok (.aload_n 0, 1) := by decide +kernel
theorem dX12_pay_61 : decode cX12_pay 61 = .ok (.getfield 88, 3) := by decide +kernel
theorem dX12_pay_64 : decode cX12_pay 64 = .ok (.iload_n 1, 1) := by decide +kernel
theorem dX12_pay_65 : decode cX12_pay 65 = .ok (.iconst 1, 1) := by decide +kernel
theorem dX12_pay_66 : decode cX12_pay 66 = .ok (.bastore, 1) := by decide +kernel
theorem dX12_pay_67 : decode cX12_pay 67 = .ok (.aload_n 0, 1) := by decide +kernel
theorem dX12_pay_68 : decode cX12_pay 68 = .ok (.iload_n 1, 1) := by decide +kernel
theorem dX12_pay_69 : decode cX12_pay 69 = .ok (.iload_n 2, 1) := by decide +kernel
theorem dX12_pay_70 : decode cX12_pay 70 = .ok (.aload_n 0, 1) := by decide +kernel
theorem dX12_pay_71 : decode cX12_pay 71 = .ok (.getfield 82, 3) := by decide +kernel
theorem dX12_pay_74 : decode cX12_pay 74 = .ok (.iload_n 1, 1) := by decide +kernel
theorem dX12_pay_75 : decode cX12_pay 75 = .ok (.iaload, 1) := by decide +kernel
theorem dX12_pay_76 : decode cX12_pay 76 = .ok (.invokevirtual 290, 3) := by decide +kernel
theorem dX12_pay_79 : decode cX12_pay 79 = .ok (.aload_n 0, 1) := by decide +kernel
theorem dX12_pay_80 : decode cX12_pay 80 = .ok (.getfield 82, 3) := by decide +kernel
theorem dX12_pay_83 : decode cX12_pay 83 = .ok (.iload_n 1, 1) := by decide +kernel
theorem dX12_pay_84 : decode cX12_pay 84 = .ok (.iaload, 1) := by decide +kernel
theorem dX12_pay_85 : decode cX12_pay 85 = .ok (.ireturn, 1) := by decide +kernel
theorem dX12_ticketOf_0 : decode cX12_ticketOf 0 = .ok (.aload_n 0, 1) := by decide +kernel
theorem dX12_ticketOf_1 : decode cX12_ticketOf 1 = .ok (.iconst 0, 1) := by decide +kernel
theorem dX12_ticketOf_2 : decode cX12_ticketOf 2 = .ok (.putfield 100, 3) := by decide +kernel
theorem dX12_ticketOf_5 : decode cX12_ticketOf 5 = .ok (.aload_n 0, 1) := by decide +kernel
theorem dX12_ticketOf_6 : decode cX12_ticketOf 6 = .ok (.iload_n 1, 1) := by decide +kernel
theorem dX12_ticketOf_7 : decode cX12_ticketOf 7 = .ok (.invokevirtual 284, 3) := by decide +kernel
theorem dX12_ticketOf_10 : decode cX12_ticketOf 10 = .ok (.ifCond .eq 5, 3) := by decide +kernel
theorem dX12_ticketOf_13 : decode cX12_ticketOf 13 = .ok (.iconst (-1), 1) := by decide +kernel
theorem dX12_ticketOf_14 : decode cX12_ticketOf 14 = .ok (.ireturn, 1) := by decide +kernel
theorem dX12_ticketOf_15 : decode cX12_ticketOf 15 = .ok (.iload_n 2, 1) := by decide +kernel
theorem dX12_ticketOf_16 : decode cX12_ticketOf 16 = .ok (.tableswitch 68 0 3 #[32, 39, 54, 61], 32) := by decide +kernel
theorem dX12_ticketOf_48 : decode cX12_ticketOf 48 = .ok (.aload_n 0, 1) := by decide +kernel
theorem dX12_ticketOf_49 : decode cX12_ticketOf 49 = .ok (.getfield 85, 3) := by decide +kernel
theorem dX12_ticketOf_52 : decode cX12_ticketOf 52 = .ok (.iload_n 1, 1) := by decide +kernel
theorem dX12_ticketOf_53 : decode cX12_ticketOf 53 = .ok (.iaload, 1) := by decide +kernel
theorem dX12_ticketOf_54 : decode cX12_ticketOf 54 = .ok (.ireturn, 1) := by decide +kernel
theorem dX12_ticketOf_55 : decode cX12_ticketOf 55 = .ok (.aload_n 0, 1) := by decide +kernel
theorem dX12_ticketOf_56 : decode cX12_ticketOf 56 = .ok (.getfield 88, 3) := by decide +kernel
theorem dX12_ticketOf_59 : decode cX12_ticketOf 59 = .ok (.iload_n 1, 1) := by decide +kernel
theorem dX12_ticketOf_60 : decode cX12_ticketOf 60 = .ok (.baload, 1) := by decide +kernel
theorem dX12_ticketOf_61 : decode cX12_ticketOf 61 = .ok (.ifCond .eq 7, 3) := by decide +kernel
theorem dX12_ticketOf_64 : decode cX12_ticketOf 64 = .ok (.iconst 1, 1) := by decide +kernel
theorem dX12_ticketOf_65 : decode cX12_ticketOf 65 = .ok (.goto 4, 3) := by decide +kernel
theorem dX12_ticketOf_68 : decode cX12_ticketOf 68 = .ok (.iconst 0, 1) := by decide +kernel
theorem dX12_ticketOf_69 : decode cX12_ticketOf 69 = .ok (.ireturn, 1) := by decide +kernel
theorem dX12_ticketOf_70 : decode cX12_ticketOf 70 = .ok (.aload_n 0, 1) := by decide +kernel
theorem dX12_ticketOf_71 : decode cX12_ticketOf 71 = .ok (.getfield 91, 3) := by decide +kernel
theorem dX12_ticketOf_74 : decode cX12_ticketOf 74 = .ok (.iload_n 1, 1) := by decide +kernel
theorem dX12_ticketOf_75 : decode cX12_ticketOf 75 = .ok (.iaload, 1) := by decide +kernel
theorem dX12_ticketOf_76 : decode cX12_ticketOf 76 = .ok (.ireturn, 1) := by decide +kernel
theorem dX12_ticketOf_77 : decode cX12_ticketOf 77 = .ok (.aload_n 0, 1) := by decide +kernel
theorem dX12_ticketOf_78 : decode cX12_ticketOf 78 = .ok (.getfield 82, 3) := by decide +kernel
theorem dX12_ticketOf_81 : decode cX12_ticketOf 81 = .ok (.iload_n 1, 1) := by decide +kernel
theorem dX12_ticketOf_82 : decode cX12_ticketOf 82 = .ok (.iaload, 1) := by decide +kernel
theorem dX12_ticketOf_83 : decode cX12_ticketOf 83 = .ok (.ireturn, 1) := by decide +kernel
theorem dX12_ticketOf_84 : decode cX12_ticketOf 84 = .ok (.bipush (-2), 2) := by decide +kernel
theorem dX12_ticketOf_86 : decode cX12_ticketOf 86 = .ok (.ireturn, 1) := by decide +kernel
theorem dX12_purse_0 : decode cX12_purse 0 = .ok (.aload_n 0, 1) := by decide +kernel
theorem dX12_purse_1 : decode cX12_purse 1 = .ok (.iconst 0, 1) := by decide +kernel
theorem dX12_purse_2 : decode cX12_purse 2 = .ok (.putfield 100, 3) := by decide +kernel
theorem dX12_purse_5 : decode cX12_purse 5 = .ok (.iload_n 1, 1) := by decide +kernel
theorem dX12_purse_6 : decode cX12_purse 6 = .ok (.invokestatic 287, 3) := by decide +kernel
theorem dX12_purse_9 : decode cX12_purse 9 = .ok (.ifCond .eq 7, 3) := by decide +kernel
theorem dX12_purse_12 : decode cX12_purse 12 = .ok (.iconst (-1), 1) := by decide +kernel
theorem dX12_purse_13 : decode cX12_purse 13 = .ok (.goto 13, 3) := by decide +kernel
theorem dX12_purse_16 : decode cX12_purse 16 = .ok (.aload_n 0, 1) := by decide +kernel
theorem dX12_purse_17 : decode cX12_purse 17 = .ok (.getfield 94, 3) := by decide +kernel
theorem dX12_purse_20 : decode cX12_purse 20 = .ok (.iload_n 1, 1) := by decide +kernel
theorem dX12_purse_21 : decode cX12_purse 21 = .ok (.iaload, 1) := by decide +kernel
theorem dX12_purse_22 : decode cX12_purse 22 = .ok (.ldc_w 294, 3) := by decide +kernel
theorem dX12_purse_25 : decode cX12_purse 25 = .ok (.iadd, 1) := by decide +kernel
theorem dX12_purse_26 : decode cX12_purse 26 = .ok (.ireturn, 1) := by decide +kernel
theorem dX12_wages_0 : decode cX12_wages 0 = .ok (.aload_n 0, 1) := by decide +kernel
theorem dX12_wages_1 : decode cX12_wages 1 = .ok (.iconst 0, 1) := by decide +kernel
theorem dX12_wages_2 : decode cX12_wages 2 = .ok (.putfield 100, 3) := by decide +kernel
theorem dX12_wages_5 : decode cX12_wages 5 = .ok (.aload_n 0, 1) := by decide +kernel
theorem dX12_wages_6 : decode cX12_wages 6 = .ok (.iload_n 1, 1) := by decide +kernel
theorem dX12_wages_7 : decode cX12_wages 7 = .ok (.invokevirtual 144, 3) := by decide +kernel
theorem dX12_wages_10 : decode cX12_wages 10 = .ok (.ifCond .eq 5, 3) := by decide +kernel
theorem dX12_wages_13 : decode cX12_wages 13 = .ok (.iconst (-1), 1) := by decide +kernel
theorem dX12_wages_14 : decode cX12_wages 14 = .ok (.ireturn, 1) := by decide +kernel
theorem dX12_wages_15 : decode cX12_wages 15 = .ok (.iload_n 2, 1) := by decide +kernel
theorem dX12_wages_16 : decode cX12_wages 16 = .ok (.ifCond .eq 7, 3) := by decide +kernel
theorem dX12_wages_19 : decode cX12_wages 19 = .ok (.iconst 0, 1) := by decide +kernel
theorem dX12_wages_20 : decode cX12_wages 20 = .ok (.goto 9, 3) := by decide +kernel
theorem dX12_wages_23 : decode cX12_wages 23 = .ok (.aload_n 0, 1) := by decide +kernel
theorem dX12_wages_24 : decode cX12_wages 24 = .ok (.getfield 97, 3) := by decide +kernel
theorem dX12_wages_27 : decode cX12_wages 27 = .ok (.iload_n 1, 1) := by decide +kernel
theorem dX12_wages_28 : decode cX12_wages 28 = .ok (.iaload, 1) := by decide +kernel
theorem dX12_wages_29 : decode cX12_wages 29 = .ok (.istore_n 3, 1) := by decide +kernel
theorem dX12_wages_30 : decode cX12_wages 30 = .ok (.iconst 0, 1) := by decide +kernel
theorem dX12_wages_31 : decode cX12_wages 31 = .ok (.istore 4, 2) := by decide +kernel
theorem dX12_wages_33 : decode cX12_wages 33 = .ok (.iload 4, 2) := by decide +kernel
theorem dX12_wages_35 : decode cX12_wages 35 = .ok (.aload_n 0, 1) := by decide +kernel
theorem dX12_wages_36 : decode cX12_wages 36 = .ok (.getfield 277, 3) := by decide +kernel
theorem dX12_wages_39 : decode cX12_wages 39 = .ok (.if_icmp .ge 60, 3) := by decide +kernel
theorem dX12_wages_42 : decode cX12_wages 42 = .ok (.iload_n 2, 1) := by decide +kernel
theorem dX12_wages_43 : decode cX12_wages 43 = .ok (.ifCond .eq 56, 3) := by decide +kernel
theorem dX12_wages_46 : decode cX12_wages 46 = .ok (.iload_n 3, 1) := by decide +kernel
theorem dX12_wages_47 : decode cX12_wages 47 = .ok (.aload_n 0, 1) := by decide +kernel
theorem dX12_wages_48 : decode cX12_wages 48 = .ok (.getfield 79, 3) := by decide +kernel
theorem dX12_wages_51 : decode cX12_wages 51 = .ok (.iload 4, 2) := by decide +kernel
theorem dX12_wages_53 : decode cX12_wages 53 = .ok (.iaload, 1) := by decide +kernel
theorem dX12_wages_54 : decode cX12_wages 54 = .ok (.iload_n 1, 1) := by decide +kernel
theorem dX12_wages_55 : decode cX12_wages 55 = .ok (.if_icmp .ne 35, 3) := by decide +kernel
theorem dX12_wages_58 : decode cX12_wages 58 = .ok (.aload_n 0, 1) := by decide +kernel
theorem dX12_wages_59 : decode cX12_wages 59 = .ok (.getfield 85, 3) := by decide +kernel
theorem dX12_wages_62 : decode cX12_wages 62 = .ok (.iload 4, 2) := by decide +kernel
theorem dX12_wages_64 : decode cX12_wages 64 = .ok (.iaload, 1) := by decide +kernel
theorem dX12_wages_65 : decode cX12_wages 65 = .ok (.bipush (-9), 2) := by decide +kernel
theorem dX12_wages_67 : decode cX12_wages 67 = .ok (.if_icmp .ne 23, 3) := by decide +kernel
theorem dX12_wages_70 : decode cX12_wages 70 = .ok (.aload_n 0, 1) := by decide +kernel
theorem dX12_wages_71 : decode cX12_wages 71 = .ok (.getfield 88, 3) := by decide +kernel
theorem dX12_wages_74 : decode cX12_wages 74 = .ok (.iload 4, 2) := by decide +kernel
theorem dX12_wages_76 : decode cX12_wages 76 = .ok (.baload, 1) := by decide +kernel
theorem dX12_wages_77 : decode cX12_wages 77 = .ok (.ifCond .ne 13, 3) := by decide +kernel
theorem dX12_wages_80 : decode cX12_wages 80 = .ok (.aload_n 0, 1) := by decide +kernel
theorem dX12_wages_81 : decode cX12_wages 81 = .ok (.getfield 82, 3) := by decide +kernel
theorem dX12_wages_84 : decode cX12_wages 84 = .ok (.iload 4, 2) := by decide +kernel
theorem dX12_wages_86 : decode cX12_wages 86 = .ok (.iaload, 1) := by decide +kernel
theorem dX12_wages_87 : decode cX12_wages 87 = .ok (.goto 4, 3) := by decide +kernel
theorem dX12_wages_90 : decode cX12_wages 90 = .ok (.iconst 0, 1) := by decide +kernel
theorem dX12_wages_91 : decode cX12_wages 91 = .ok (.iadd, 1) := by decide +kernel
theorem dX12_wages_92 : decode cX12_wages 92 = .ok (.istore_n 3, 1) := by decide +kernel
theorem dX12_wages_93 : decode cX12_wages 93 = .ok (.iinc 4 1, 3) := by decide +kernel
theorem dX12_wages_96 : decode cX12_wages 96 = .ok (.goto (-63), 3) := by decide +kernel
theorem dX12_wages_99 : decode cX12_wages 99 = .ok (.iload_n 3, 1) := by decide +kernel
theorem dX12_wages_100 : decode cX12_wages 100 = .ok (.ireturn, 1) := by decide +kernel
theorem dX12_count_0 : decode cX12_count 0 = .ok (.aload_n 0, 1) := by decide +kernel
theorem dX12_count_1 : decode cX12_count 1 = .ok (.iconst 0, 1) := by decide +kernel
theorem dX12_count_2 : decode cX12_count 2 = .ok (.putfield 100, 3) := by decide +kernel
theorem dX12_count_5 : decode cX12_count 5 = .ok (.iconst 0, 1) := by decide +kernel
theorem dX12_count_6 : decode cX12_count 6 = .ok (.istore_n 2, 1) := by decide +kernel
theorem dX12_count_7 : decode cX12_count 7 = .ok (.iconst 0, 1) := by decide +kernel
theorem dX12_count_8 : decode cX12_count 8 = .ok (.istore_n 3, 1) := by decide +kernel
theorem dX12_count_9 : decode cX12_count 9 = .ok (.iload_n 3, 1) := by decide +kernel
theorem dX12_count_10 : decode cX12_count 10 = .ok (.aload_n 0, 1) := by decide +kernel
theorem dX12_count_11 : decode cX12_count 11 = .ok (.getfield 107, 3) := by decide +kernel
theorem dX12_count_14 : decode cX12_count 14 = .ok (.if_icmp .ge 28, 3) := by decide +kernel
theorem dX12_count_17 : decode cX12_count 17 = .ok (.iload_n 2, 1) := by decide +kernel
theorem dX12_count_18 : decode cX12_count 18 = .ok (.aload_n 0, 1) := by decide +kernel
theorem dX12_count_19 : decode cX12_count 19 = .ok (.iload_n 3, 1) := by decide +kernel
theorem dX12_count_20 : decode cX12_count 20 = .ok (.invokevirtual 154, 3) := by decide +kernel
theorem dX12_count_23 : decode cX12_count 23 = .ok (.invokestatic 171, 3) := by decide +kernel
theorem dX12_count_26 : decode cX12_count 26 = .ok (.ifCond .eq 7, 3) := by decide +kernel
theorem dX12_count_29 : decode cX12_count 29 = .ok (.iconst 0, 1) := by decide +kernel
theorem dX12_count_30 : decode cX12_count 30 = .ok (.goto 4, 3) := by decide +kernel
theorem dX12_count_33 : decode cX12_count 33 = .ok (.iconst 1, 1) := by decide +kernel
theorem dX12_count_34 : decode cX12_count 34 = .ok (.iadd, 1) := by decide +kernel
theorem dX12_count_35 : decode cX12_count 35 = .ok (.istore_n 2, 1) := by decide +kernel
theorem dX12_count_36 : decode cX12_count 36 = .ok (.iinc 3 1, 3) := by decide +kernel
theorem dX12_count_39 : decode cX12_count 39 = .ok (.goto (-30), 3) := by decide +kernel
theorem dX12_count_42 : decode cX12_count 42 = .ok (.iload_n 1, 1) := by decide +kernel
theorem dX12_count_43 : decode cX12_count 43 = .ok (.tableswitch 82 0 7 #[45, 50, 55, 60, 65, 70, 75, 77], 45) := by decide +kernel
theorem dX12_count_88 : decode cX12_count 88 = .ok (.aload_n 0, 1) := by decide +kernel
theorem dX12_count_89 : decode cX12_count 89 = .ok (.getfield 107, 3) := by decide +kernel
theorem dX12_count_92 : decode cX12_count 92 = .ok (.ireturn, 1) := by decide +kernel
theorem dX12_count_93 : decode cX12_count 93 = .ok (.aload_n 0, 1) := by decide +kernel
theorem dX12_count_94 : decode cX12_count 94 = .ok (.getfield 110, 3) := by decide +kernel
theorem dX12_count_97 : decode cX12_count 97 = .ok (.ireturn, 1) := by decide +kernel
theorem dX12_count_98 : decode cX12_count 98 = .ok (.aload_n 0, 1) := by decide +kernel
theorem dX12_count_99 : decode cX12_count 99 = .ok (.getfield 113, 3) := by decide +kernel
theorem dX12_count_102 : decode cX12_count 102 = .ok (.ireturn, 1) := by decide +kernel
theorem dX12_count_103 : decode cX12_count 103 = .ok (.aload_n 0, 1) := by decide +kernel
theorem dX12_count_104 : decode cX12_count 104 = .ok (.getfield 201, 3) := by decide +kernel
theorem dX12_count_107 : decode cX12_count 107 = .ok (.ireturn, 1) := by decide +kernel
theorem dX12_count_108 : decode cX12_count 108 = .ok (.aload_n 0, 1) := by decide +kernel
theorem dX12_count_109 : decode cX12_count 109 = .ok (.getfield 168, 3) := by decide +kernel
theorem dX12_count_112 : decode cX12_count 112 = .ok (.ireturn, 1) := by decide +kernel
theorem dX12_count_113 : decode cX12_count 113 = .ok (.aload_n 0, 1) := by decide +kernel
theorem dX12_count_114 : decode cX12_count 114 = .ok (.getfield 277, 3) := by decide +kernel
theorem dX12_count_117 : decode cX12_count 117 = .ok (.ireturn, 1) := by decide +kernel
theorem dX12_count_118 : decode cX12_count 118 = .ok (.iload_n 2, 1) := by decide +kernel
theorem dX12_count_119 : decode cX12_count 119 = .ok (.ireturn, 1) := by decide +kernel
theorem dX12_count_120 : decode cX12_count 120 = .ok (.aload_n 0, 1) := by decide +kernel
theorem dX12_count_121 : decode cX12_count 121 = .ok (.getfield 7, 3) := by decide +kernel
theorem dX12_count_124 : decode cX12_count 124 = .ok (.ireturn, 1) := by decide +kernel
theorem dX12_count_125 : decode cX12_count 125 = .ok (.bipush (-2), 2) := by decide +kernel
theorem dX12_count_127 : decode cX12_count 127 = .ok (.ireturn, 1) := by decide +kernel
