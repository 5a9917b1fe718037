theorem dX0_init_0 : decode cX0_init 0 = .ok (.aload_n 0, 1) := by decide +kernel
theorem dX0_init_1 : decode cX0_init 1 = .ok (.invokespecial 3, 3) := by decide +kernel
theorem dX0_init_4 : decode cX0_init 4 = .ok (.aload_n 0, 1) := by decide +kernel
theorem dX0_init_5 : decode cX0_init 5 = .ok (.bipush 60, 2) := by decide +kernel
theorem dX0_init_7 : decode cX0_init 7 = .ok (.newarray .byte, 2) := by decide +kernel
theorem dX0_init_9 : decode cX0_init 9 = .ok (.putfield 9, 3) := by decide +kernel
theorem dX0_init_12 : decode cX0_init 12 = .ok (.aload_n 0, 1) := by decide +kernel
theorem dX0_init_13 : decode cX0_init 13 = .ok (.iconst 1, 1) := by decide +kernel
theorem dX0_init_14 : decode cX0_init 14 = .ok (.putfield 15, 3) := by decide +kernel
theorem dX0_init_17 : decode cX0_init 17 = .ok (.aload_n 0, 1) := by decide +kernel
theorem dX0_init_18 : decode cX0_init 18 = .ok (.bipush (-9), 2) := by decide +kernel
theorem dX0_init_20 : decode cX0_init 20 = .ok (.putfield 19, 3) := by decide +kernel
theorem dX0_init_23 : decode cX0_init 23 = .ok (.aload_n 0, 1) := by decide +kernel
theorem dX0_init_24 : decode cX0_init 24 = .ok (.iload_n 1, 1) := by decide +kernel
theorem dX0_init_25 : decode cX0_init 25 = .ok (.putfield 22, 3) := by decide +kernel
theorem dX0_init_28 : decode cX0_init 28 = .ok (.return_, 1) := by decide +kernel
theorem dX0_add_0 : decode cX0_add 0 = .ok (.aload_n 0, 1) := by decide +kernel
theorem dX0_add_1 : decode cX0_add 1 = .ok (.getfield 25, 3) := by decide +kernel
theorem dX0_add_4 : decode cX0_add 4 = .ok (.aload_n 0, 1) := by decide +kernel
theorem dX0_add_5 : decode cX0_add 5 = .ok (.getfield 9, 3) := by decide +kernel
theorem dX0_add_8 : decode cX0_add 8 = .ok (.arraylength, 1) := by decide +kernel
theorem dX0_add_9 : decode cX0_add 9 = .ok (.if_icmp .lt 4, 3) := by decide +kernel
theorem dX0_add_12 : decode cX0_add 12 = .ok (.return_, 1) := by decide +kernel
theorem dX0_add_13 : decode cX0_add 13 = .ok (.aload_n 0, 1) := by decide +kernel
theorem dX0_add_14 : decode cX0_add 14 = .ok (.getfield 19, 3) := by decide +kernel
theorem dX0_add_17 : decode cX0_add 17 = .ok (.bipush (-9), 2) := by decide +kernel
theorem dX0_add_19 : decode cX0_add 19 = .ok (.if_icmp .ne 19, 3) := by decide +kernel
theorem dX0_add_22 : decode cX0_add 22 = .ok (.aload_n 0, 1) := by decide +kernel
theorem dX0_add_23 : decode cX0_add 23 = .ok (.iload_n 1, 1) := by decide +kernel
theorem dX0_add_24 : decode cX0_add 24 = .ok (.invokevirtual 28, 3) := by decide +kernel
theorem dX0_add_27 : decode cX0_add 27 = .ok (.ifCond .ne 11, 3) := by decide +kernel
theorem dX0_add_30 : decode cX0_add 30 = .ok (.aload_n 0, 1) := by decide +kernel
theorem dX0_add_31 : decode cX0_add 31 = .ok (.aload_n 0, 1) := by decide +kernel
theorem dX0_add_32 : decode cX0_add 32 = .ok (.getfield 25, 3) := by decide +kernel
theorem dX0_add_35 : decode cX0_add 35 = .ok (.putfield 19, 3) := by decide +kernel
theorem dX0_add_38 : decode cX0_add 38 = .ok (.aload_n 0, 1) := by decide +kernel
theorem dX0_add_39 : decode cX0_add 39 = .ok (.getfield 9, 3) := by decide +kernel
theorem dX0_add_42 : decode cX0_add 42 = .ok (.aload_n 0, 1) := by decide +kernel
theorem dX0_add_43 : decode cX0_add 43 = .ok (.getfield 25, 3) := by decide +kernel
theorem dX0_add_46 : decode cX0_add 46 = .ok (.iload_n 1, 1) := by decide +kernel
theorem dX0_add_47 : decode cX0_add 47 = .ok (.i2b, 1) := by decide +kernel
theorem dX0_add_48 : decode cX0_add 48 = .ok (.bastore, 1) := by decide +kernel
theorem dX0_add_49 : decode cX0_add 49 = .ok (.aload_n 0, 1) := by decide +kernel
theorem dX0_add_50 : decode cX0_add 50 = .ok (.dup, 1) := by decide +kernel
theorem dX0_add_51 : decode cX0_add 51 = .ok (.getfield 25, 3) := by decide +kernel
theorem dX0_add_54 : decode cX0_add 54 = .ok (.iconst 1, 1) := by decide +kernel
theorem dX0_add_55 : decode cX0_add 55 = .ok (.iadd, 1) := by decide +kernel
theorem dX0_add_56 : decode cX0_add 56 = .ok (.putfield 25, 3) := by decide +kernel
theorem dX0_add_59 : decode cX0_add 59 = .ok (.return_, 1) := by decide +kernel
theorem dX0_goesOnWith_0 : decode cX0_goesOnWith 0 = .ok (.aload_n 0, 1) := by decide +kernel
theorem dX0_goesOnWith_1 : decode cX0_goesOnWith 1 = .ok (.getfield 32, 3) := by decide +kernel
theorem dX0_goesOnWith_4 : decode cX0_goesOnWith 4 = .ok (.ifCond .le 9, 3) := by decide +kernel
theorem dX0_goesOnWith_7 : decode cX0_goesOnWith 7 = .ok (.aload_n 0, 1) := by decide +kernel
theorem dX0_goesOnWith_8 : decode cX0_goesOnWith 8 = .ok (.iload_n 1, 1) := by decide +kernel
theorem dX0_goesOnWith_9 : decode cX0_goesOnWith 9 = .ok (.invokevirtual 35, 3) := by decide +kernel
theorem dX0_goesOnWith_12 : decode cX0_goesOnWith 12 = .ok (.ireturn, 1) := by decide +kernel
theorem dX0_goesOnWith_13 : decode cX0_goesOnWith 13 = .ok (.aload_n 0, 1) := by decide +kernel
theorem dX0_goesOnWith_14 : decode cX0_goesOnWith 14 = .ok (.getfield 15, 3) := by decide +kernel
theorem dX0_goesOnWith_17 : decode cX0_goesOnWith 17 = .ok (.ifCond .ne 5, 3) := by decide +kernel
theorem dX0_goesOnWith_20 : decode cX0_goesOnWith 20 = .ok (.iconst 0, 1) := by decide +kernel
theorem dX0_goesOnWith_21 : decode cX0_goesOnWith 21 = .ok (.ireturn, 1) := by decide +kernel
theorem dX0_goesOnWith_22 : decode cX0_goesOnWith 22 = .ok (.iload_n 1, 1) := by decide +kernel
theorem dX0_goesOnWith_23 : decode cX0_goesOnWith 23 = .ok (.lookupswitch 130 #[(33, 109), (38, 97), (65, 123), (89, 123), (97, 123), (104, 111), (112, 111), (115, 111), (116, 123), (121, 123), (124, 97)], 97) := by decide +kernel
theorem dX0_goesOnWith_120 : decode cX0_goesOnWith 120 = .ok (.aload_n 0, 1) := by decide +kernel
theorem dX0_goesOnWith_121 : decode cX0_goesOnWith 121 = .ok (.dup, 1) := by decide +kernel
theorem dX0_goesOnWith_122 : decode cX0_goesOnWith 122 = .ok (.getfield 15, 3) := by decide +kernel
theorem dX0_goesOnWith_125 : decode cX0_goesOnWith 125 = .ok (.iconst 1, 1) := by decide +kernel
theorem dX0_goesOnWith_126 : decode cX0_goesOnWith 126 = .ok (.iadd, 1) := by decide +kernel
theorem dX0_goesOnWith_127 : decode cX0_goesOnWith 127 = .ok (.putfield 15, 3) := by decide +kernel
theorem dX0_goesOnWith_130 : decode cX0_goesOnWith 130 = .ok (.iconst 1, 1) := by decide +kernel
theorem dX0_goesOnWith_131 : decode cX0_goesOnWith 131 = .ok (.ireturn, 1) := by decide +kernel
theorem dX0_goesOnWith_132 : decode cX0_goesOnWith 132 = .ok (.iconst 1, 1) := by decide +kernel
theorem dX0_goesOnWith_133 : decode cX0_goesOnWith 133 = .ok (.ireturn, 1) := by decide +kernel
theorem dX0_goesOnWith_134 : decode cX0_goesOnWith 134 = .ok (.aload_n 0, 1) := by decide +kernel
theorem dX0_goesOnWith_135 : decode cX0_goesOnWith 135 = .ok (.dup, 1) := by decide +kernel
theorem dX0_goesOnWith_136 : decode cX0_goesOnWith 136 = .ok (.getfield 15, 3) := by decide +kernel
theorem dX0_goesOnWith_139 : decode cX0_goesOnWith 139 = .ok (.iconst 1, 1) := by decide +kernel
theorem dX0_goesOnWith_140 : decode cX0_goesOnWith 140 = .ok (.isub, 1) := by decide +kernel
theorem dX0_goesOnWith_141 : decode cX0_goesOnWith 141 = .ok (.putfield 15, 3) := by decide +kernel
theorem dX0_goesOnWith_144 : decode cX0_goesOnWith 144 = .ok (.iconst 1, 1) := by decide +kernel
theorem dX0_goesOnWith_145 : decode cX0_goesOnWith 145 = .ok (.ireturn, 1) := by decide +kernel
theorem dX0_goesOnWith_146 : decode cX0_goesOnWith 146 = .ok (.aload_n 0, 1) := by decide +kernel
theorem dX0_goesOnWith_147 : decode cX0_goesOnWith 147 = .ok (.iconst 2, 1) := by decide +kernel
theorem dX0_goesOnWith_148 : decode cX0_goesOnWith 148 = .ok (.putfield 32, 3) := by decide +kernel
theorem dX0_goesOnWith_151 : decode cX0_goesOnWith 151 = .ok (.iconst 1, 1) := by decide +kernel
theorem dX0_goesOnWith_152 : decode cX0_goesOnWith 152 = .ok (.ireturn, 1) := by decide +kernel
theorem dX0_goesOnWith_153 : decode cX0_goesOnWith 153 = .ok (.iconst 0, 1) := by decide +kernel
theorem dX0_goesOnWith_154 : decode cX0_goesOnWith 154 = .ok (.ireturn, 1) := by decide +kernel
theorem dX0_takesDigit_0 : decode cX0_takesDigit 0 = .ok (.iload_n 1, 1) := by decide +kernel
theorem dX0_takesDigit_1 : decode cX0_takesDigit 1 = .ok (.invokestatic 38, 3) := by decide +kernel
theorem dX0_takesDigit_4 : decode cX0_takesDigit 4 = .ok (.ifCond .ne 5, 3) := by decide +kernel
theorem dX0_takesDigit_7 : decode cX0_takesDigit 7 = .ok (.iconst 0, 1) := by decide +kernel
theorem dX0_takesDigit_8 : decode cX0_takesDigit 8 = .ok (.ireturn, 1) := by decide +kernel
theorem dX0_takesDigit_9 : decode cX0_takesDigit 9 = .ok (.aload_n 0, 1) := by decide +kernel
theorem dX0_takesDigit_10 : decode cX0_takesDigit 10 = .ok (.dup, 1) := by decide +kernel
theorem dX0_takesDigit_11 : decode cX0_takesDigit 11 = .ok (.getfield 32, 3) := by decide +kernel
theorem dX0_takesDigit_14 : decode cX0_takesDigit 14 = .ok (.iconst 1, 1) := by decide +kernel
theorem dX0_takesDigit_15 : decode cX0_takesDigit 15 = .ok (.isub, 1) := by decide +kernel
theorem dX0_takesDigit_16 : decode cX0_takesDigit 16 = .ok (.putfield 32, 3) := by decide +kernel
theorem dX0_takesDigit_19 : decode cX0_takesDigit 19 = .ok (.aload_n 0, 1) := by decide +kernel
theorem dX0_takesDigit_20 : decode cX0_takesDigit 20 = .ok (.getfield 32, 3) := by decide +kernel
theorem dX0_takesDigit_23 : decode cX0_takesDigit 23 = .ok (.ifCond .ne 13, 3) := by decide +kernel
theorem dX0_takesDigit_26 : decode cX0_takesDigit 26 = .ok (.aload_n 0, 1) := by decide +kernel
theorem dX0_takesDigit_27 : decode cX0_takesDigit 27 = .ok (.dup, 1) := by decide +kernel
theorem dX0_takesDigit_28 : decode cX0_takesDigit 28 = .ok (.getfield 15, 3) := by decide +kernel
theorem dX0_takesDigit_31 : decode cX0_takesDigit 31 = .ok (.iconst 1, 1) := by decide +kernel
theorem dX0_takesDigit_32 : decode cX0_takesDigit 32 = .ok (.isub, 1) := by decide +kernel
theorem dX0_takesDigit_33 : decode cX0_takesDigit 33 = .ok (.putfield 15, 3) := by decide +kernel
theorem dX0_takesDigit_36 : decode cX0_takesDigit 36 = .ok (.iconst 1, 1) := by decide +kernel
theorem dX0_takesDigit_37 : decode cX0_takesDigit 37 = .ok (.ireturn, 1) := by decide +kernel
theorem dX0_isDigit_0 : decode cX0_isDigit 0 = .ok (.iload_n 0, 1) := by decide +kernel
theorem dX0_isDigit_1 : decode cX0_isDigit 1 = .ok (.bipush 48, 2) := by decide +kernel
theorem dX0_isDigit_3 : decode cX0_isDigit 3 = .ok (.bipush 57, 2) := by decide +kernel
theorem dX0_isDigit_5 : decode cX0_isDigit 5 = .ok (.invokestatic 41, 3) := by decide +kernel
theorem dX0_isDigit_8 : decode cX0_isDigit 8 = .ok (.ireturn, 1) := by decide +kernel
theorem dX0_faultAt_0 : decode cX0_faultAt 0 = .ok (.aload_n 0, 1) := by decide +kernel
theorem dX0_faultAt_1 : decode cX0_faultAt 1 = .ok (.getfield 19, 3) := by decide +kernel
theorem dX0_faultAt_4 : decode cX0_faultAt 4 = .ok (.bipush (-9), 2) := by decide +kernel
theorem dX0_faultAt_6 : decode cX0_faultAt 6 = .ok (.if_icmp .eq 8, 3) := by decide +kernel
theorem dX0_faultAt_9 : decode cX0_faultAt 9 = .ok (.aload_n 0, 1) := by decide +kernel
theorem dX0_faultAt_10 : decode cX0_faultAt 10 = .ok (.getfield 19, 3) := by decide +kernel
theorem dX0_faultAt_13 : decode cX0_faultAt 13 = .ok (.ireturn, 1) := by decide +kernel
theorem dX0_faultAt_14 : decode cX0_faultAt 14 = .ok (.aload_n 0, 1) := by decide +kernel
theorem dX0_faultAt_15 : decode cX0_faultAt 15 = .ok (.getfield 15, 3) := by decide +kernel
theorem dX0_faultAt_18 : decode cX0_faultAt 18 = .ok (.ifCond .le 10, 3) := by decide +kernel
theorem dX0_faultAt_21 : decode cX0_faultAt 21 = .ok (.aload_n 0, 1) := by decide +kernel
theorem dX0_faultAt_22 : decode cX0_faultAt 22 = .ok (.getfield 25, 3) := by decide +kernel
theorem dX0_faultAt_25 : decode cX0_faultAt 25 = .ok (.goto 5, 3) := by decide +kernel
theorem dX0_faultAt_28 : decode cX0_faultAt 28 = .ok (.bipush (-9), 2) := by decide +kernel
theorem dX0_faultAt_30 : decode cX0_faultAt 30 = .ok (.ireturn, 1) := by decide +kernel
theorem dX0_holds_0 : decode cX0_holds 0 = .ok (.lconst 0, 1) := by decide +kernel
theorem dX0_holds_1 : decode cX0_holds 1 = .ok (.lstore_n 3, 1) := by decide +kernel
theorem dX0_holds_2 : decode cX0_holds 2 = .ok (.aload_n 0, 1) := by decide +kernel
theorem dX0_holds_3 : decode cX0_holds 3 = .ok (.getfield 25, 3) := by decide +kernel
theorem dX0_holds_6 : decode cX0_holds 6 = .ok (.iconst 1, 1) := by decide +kernel
theorem dX0_holds_7 : decode cX0_holds 7 = .ok (.isub, 1) := by decide +kernel
theorem dX0_holds_8 : decode cX0_holds 8 = .ok (.istore 5, 2) := by decide +kernel
theorem dX0_holds_10 : decode cX0_holds 10 = .ok (.iload 5, 2) := by decide +kernel
theorem dX0_holds_12 : decode cX0_holds 12 = .ok (.ifCond .lt 100, 3) := by decide +kernel
theorem dX0_holds_15 : decode cX0_holds 15 = .ok (.aload_n 0, 1) := by decide +kernel
theorem dX0_holds_16 : decode cX0_holds 16 = .ok (.getfield 9, 3) := by decide +kernel
theorem dX0_holds_19 : decode cX0_holds 19 = .ok (.iload 5, 2) := by decide +kernel
theorem dX0_holds_21 : decode cX0_holds 21 = .ok (.baload, 1) := by decide +kernel
theorem dX0_holds_22 : decode cX0_holds 22 = .ok (.istore 6, 2) := by decide +kernel
theorem dX0_holds_24 : decode cX0_holds 24 = .ok (.lload_n 3, 1) := by decide +kernel
theorem dX0_holds_25 : decode cX0_holds 25 = .ok (.lconst 1, 1) := by decide +kernel
theorem dX0_holds_26 : decode cX0_holds 26 = .ok (.land, 1) := by decide +kernel
theorem dX0_holds_27 : decode cX0_holds 27 = .ok (.lstore 7, 2) := by decide +kernel
theorem dX0_holds_29 : decode cX0_holds 29 = .ok (.iload 6, 2) := by decide +kernel
theorem dX0_holds_31 : decode cX0_holds 31 = .ok (.bipush 38, 2) := by decide +kernel
theorem dX0_holds_33 : decode cX0_holds 33 = .ok (.if_icmp .ne 17, 3) := by decide +kernel
theorem dX0_holds_36 : decode cX0_holds 36 = .ok (.lload_n 3, 1) := by decide +kernel
theorem dX0_holds_37 : decode cX0_holds 37 = .ok (.iconst 1, 1) := by decide +kernel
theorem dX0_holds_38 : decode cX0_holds 38 = .ok (.lushr, 1) := by decide +kernel
theorem dX0_holds_39 : decode cX0_holds 39 = .ok (.lload 7, 2) := by decide +kernel
theorem dX0_holds_41 : decode cX0_holds 41 = .ok (.ldc2_w 45, 3) := by decide +kernel
theorem dX0_holds_44 : decode cX0_holds 44 = .ok (.lor, 1) := by decide +kernel
theorem dX0_holds_45 : decode cX0_holds 45 = .ok (.land, 1) := by decide +kernel
theorem dX0_holds_46 : decode cX0_holds 46 = .ok (.lstore_n 3, 1) := by decide +kernel
theorem dX0_holds_47 : decode cX0_holds 47 = .ok (.goto 59, 3) := by decide +kernel
theorem dX0_holds_50 : decode cX0_holds 50 = .ok (.iload 6, 2) := by decide +kernel
theorem dX0_holds_52 : decode cX0_holds 52 = .ok (.bipush 124, 2) := by decide +kernel
theorem dX0_holds_54 : decode cX0_holds 54 = .ok (.if_icmp .ne 13, 3) := by decide +kernel
theorem dX0_holds_57 : decode cX0_holds 57 = .ok (.lload_n 3, 1) := by decide +kernel
theorem dX0_holds_58 : decode cX0_holds 58 = .ok (.iconst 1, 1) := by decide +kernel
theorem dX0_holds_59 : decode cX0_holds 59 = .ok (.lushr, 1) := by decide +kernel
theorem dX0_holds_60 : decode cX0_holds 60 = .ok (.lload 7, 2) := by decide +kernel
theorem dX0_holds_62 : decode cX0_holds 62 = .ok (.lor, 1) := by decide +kernel
theorem dX0_holds_63 : decode cX0_holds 63 = .ok (.lstore_n 3, 1) := by decide +kernel
theorem dX0_holds_64 : decode cX0_holds 64 = .ok (.goto 42, 3) := by decide +kernel
theorem dX0_holds_67 : decode cX0_holds 67 = .ok (.iload 6, 2) := by decide +kernel
theorem dX0_holds_69 : decode cX0_holds 69 = .ok (.bipush 33, 2) := by decide +kernel
theorem dX0_holds_71 : decode cX0_holds 71 = .ok (.if_icmp .ne 10, 3) := by decide +kernel
theorem dX0_holds_74 : decode cX0_holds 74 = .ok (.lload_n 3, 1) := by decide +kernel
theorem dX0_holds_75 : decode cX0_holds 75 = .ok (.lconst 1, 1) := by decide +kernel
theorem dX0_holds_76 : decode cX0_holds 76 = .ok (.lxor, 1) := by decide +kernel
theorem dX0_holds_77 : decode cX0_holds 77 = .ok (.lstore_n 3, 1) := by decide +kernel
theorem dX0_holds_78 : decode cX0_holds 78 = .ok (.goto 28, 3) := by decide +kernel
theorem dX0_holds_81 : decode cX0_holds 81 = .ok (.iload 6, 2) := by decide +kernel
theorem dX0_holds_83 : decode cX0_holds 83 = .ok (.invokestatic 38, 3) := by decide +kernel
theorem dX0_holds_86 : decode cX0_holds 86 = .ok (.ifCond .ne 20, 3) := by decide +kernel
theorem dX0_holds_89 : decode cX0_holds 89 = .ok (.lload_n 3, 1) := by decide +kernel
theorem dX0_holds_90 : decode cX0_holds 90 = .ok (.iconst 1, 1) := by decide +kernel
theorem dX0_holds_91 : decode cX0_holds 91 = .ok (.lshl, 1) := by decide +kernel
theorem dX0_holds_92 : decode cX0_holds 92 = .ok (.aload_n 0, 1) := by decide +kernel
theorem dX0_holds_93 : decode cX0_holds 93 = .ok (.iload 5, 2) := by decide +kernel
theorem dX0_holds_95 : decode cX0_holds 95 = .ok (.aload_n 1, 1) := by decide +kernel
theorem dX0_holds_96 : decode cX0_holds 96 = .ok (.iload_n 2, 1) := by decide +kernel
theorem dX0_holds_97 : decode cX0_holds 97 = .ok (.invokevirtual 47, 3) := by decide +kernel
theorem dX0_holds_100 : decode cX0_holds 100 = .ok (.invokestatic 51, 3) := by decide +kernel
theorem dX0_holds_103 : decode cX0_holds 103 = .ok (.i2l, 1) := by decide +kernel
theorem dX0_holds_104 : decode cX0_holds 104 = .ok (.lor, 1) := by decide +kernel
theorem dX0_holds_105 : decode cX0_holds 105 = .ok (.lstore_n 3, 1) := by decide +kernel
theorem dX0_holds_106 : decode cX0_holds 106 = .ok (.iinc 5 (-1), 3) := by decide +kernel
theorem dX0_holds_109 : decode cX0_holds 109 = .ok (.goto (-99), 3) := by decide +kernel
theorem dX0_holds_112 : decode cX0_holds 112 = .ok (.lload_n 3, 1) := by decide +kernel
theorem dX0_holds_113 : decode cX0_holds 113 = .ok (.lconst 1, 1) := by decide +kernel
theorem dX0_holds_114 : decode cX0_holds 114 = .ok (.land, 1) := by decide +kernel
theorem dX0_holds_115 : decode cX0_holds 115 = .ok (.lconst 1, 1) := by decide +kernel
theorem dX0_holds_116 : decode cX0_holds 116 = .ok (.lcmp, 1) := by decide +kernel
theorem dX0_holds_117 : decode cX0_holds 117 = .ok (.ifCond .ne 7, 3) := by decide +kernel
theorem dX0_holds_120 : decode cX0_holds 120 = .ok (.iconst 1, 1) := by decide +kernel
theorem dX0_holds_121 : decode cX0_holds 121 = .ok (.goto 4, 3) := by decide +kernel
theorem dX0_holds_124 : decode cX0_holds 124 = .ok (.iconst 0, 1) := by decide +kernel
theorem dX0_holds_125 : decode cX0_holds 125 = .ok (.ireturn, 1) := by decide +kernel
theorem dX0_testHolds_0 : decode cX0_testHolds 0 = .ok (.aload_n 0, 1) := by decide +kernel
theorem dX0_testHolds_1 : decode cX0_testHolds 1 = .ok (.getfield 9, 3) := by decide +kernel
theorem dX0_testHolds_4 : decode cX0_testHolds 4 = .ok (.iload_n 1, 1) := by decide +kernel
theorem dX0_testHolds_5 : decode cX0_testHolds 5 = .ok (.baload, 1) := by decide +kernel
theorem dX0_testHolds_6 : decode cX0_testHolds 6 = .ok (.lookupswitch 191 #[(65, 92), (89, 128), (97, 74), (104, 174), (112, 164), (115, 166), (116, 146), (121, 110)], 74) := by decide +kernel
theorem dX0_testHolds_80 : decode cX0_testHolds 80 = .ok (.aload_n 2, 1) := by decide +kernel
theorem dX0_testHolds_81 : decode cX0_testHolds 81 = .ok (.getfield 55, 3) := by decide +kernel
theorem dX0_testHolds_84 : decode cX0_testHolds 84 = .ok (.aload_n 0, 1) := by decide +kernel
theorem dX0_testHolds_85 : decode cX0_testHolds 85 = .ok (.iload_n 1, 1) := by decide +kernel
theorem dX0_testHolds_86 : decode cX0_testHolds 86 = .ok (.invokevirtual 60, 3) := by decide +kernel
theorem dX0_testHolds_89 : decode cX0_testHolds 89 = .ok (.if_icmp .lt 7, 3) := by decide +kernel
theorem dX0_testHolds_92 : decode cX0_testHolds 92 = .ok (.iconst 1, 1) := by decide +kernel
theorem dX0_testHolds_93 : decode cX0_testHolds 93 = .ok (.goto 4, 3) := by decide +kernel
theorem dX0_testHolds_96 : decode cX0_testHolds 96 = .ok (.iconst 0, 1) := by decide +kernel
theorem dX0_testHolds_97 : decode cX0_testHolds 97 = .ok (.ireturn, 1) := by decide +kernel
theorem dX0_testHolds_98 : decode cX0_testHolds 98 = .ok (.aload_n 2, 1) := by decide +kernel
theorem dX0_testHolds_99 : decode cX0_testHolds 99 = .ok (.getfield 55, 3) := by decide +kernel
theorem dX0_testHolds_102 : decode cX0_testHolds 102 = .ok (.aload_n 0, 1) := by decide +kernel
theorem dX0_testHolds_103 : decode cX0_testHolds 103 = .ok (.iload_n 1, 1) := by decide +kernel
theorem dX0_testHolds_104 : decode cX0_testHolds 104 = .ok (.invokevirtual 60, 3) := by decide +kernel
theorem dX0_testHolds_107 : decode cX0_testHolds 107 = .ok (.if_icmp .ge 7, 3) := by decide +kernel
theorem dX0_testHolds_110 : decode cX0_testHolds 110 = .ok (.iconst 1, 1) := by decide +kernel
theorem dX0_testHolds_111 : decode cX0_testHolds 111 = .ok (.goto 4, 3) := by decide +kernel
theorem dX0_testHolds_114 : decode cX0_testHolds 114 = .ok (.iconst 0, 1) := by decide +kernel
theorem dX0_testHolds_115 : decode cX0_testHolds 115 = .ok (.ireturn, 1) := by decide +kernel
theorem dX0_testHolds_116 : decode cX0_testHolds 116 = .ok (.aload_n 2, 1) := by decide +kernel
theorem dX0_testHolds_117 : decode cX0_testHolds 117 = .ok (.getfield 64, 3) := by decide +kernel
theorem dX0_testHolds_120 : decode cX0_testHolds 120 = .ok (.aload_n 0, 1) := by decide +kernel
theorem dX0_testHolds_121 : decode cX0_testHolds 121 = .ok (.iload_n 1, 1) := by decide +kernel
theorem dX0_testHolds_122 : decode cX0_testHolds 122 = .ok (.invokevirtual 60, 3) := by decide +kernel
theorem dX0_testHolds_125 : decode cX0_testHolds 125 = .ok (.if_icmp .lt 7, 3) := by decide +kernel
theorem dX0_testHolds_128 : decode cX0_testHolds 128 = .ok (.iconst 1, 1) := by decide +kernel
theorem dX0_testHolds_129 : decode cX0_testHolds 129 = .ok (.goto 4, 3) := by decide +kernel
theorem dX0_testHolds_132 : decode cX0_testHolds 132 = .ok (.iconst 0, 1) := by decide +kernel
theorem dX0_testHolds_133 : decode cX0_testHolds 133 = .ok (.ireturn, 1) := by decide +kernel
theorem dX0_testHolds_134 : decode cX0_testHolds 134 = .ok (.aload_n 2, 1) := by decide +kernel
theorem dX0_testHolds_135 : decode cX0_testHolds 135 = .ok (.getfield 64, 3) := by decide +kernel
theorem dX0_testHolds_138 : decode cX0_testHolds 138 = .ok (.aload_n 0, 1) := by decide +kernel
theorem dX0_testHolds_139 : decode cX0_testHolds 139 = .ok (.iload_n 1, 1) := by decide +kernel
theorem dX0_testHolds_140 : decode cX0_testHolds 140 = .ok (.invokevirtual 60, 3) := by decide +kernel
theorem dX0_testHolds_143 : decode cX0_testHolds 143 = .ok (.if_icmp .ge 7, 3) := by decide +kernel
theorem dX0_testHolds_146 : decode cX0_testHolds 146 = .ok (.iconst 1, 1) := by decide +kernel
theorem dX0_testHolds_147 : decode cX0_testHolds 147 = .ok (.goto 4, 3) := by decide +kernel
theorem dX0_testHolds_150 : decode cX0_testHolds 150 = .ok (.iconst 0, 1) := by decide +kernel
theorem dX0_testHolds_151 : decode cX0_testHolds 151 = .ok (.ireturn, 1) := by decide +kernel
theorem dX0_testHolds_152 : decode cX0_testHolds 152 = .ok (.aload_n 2, 1) := by decide +kernel
theorem dX0_testHolds_153 : decode cX0_testHolds 153 = .ok (.getfield 67, 3) := by decide +kernel
theorem dX0_testHolds_156 : decode cX0_testHolds 156 = .ok (.aload_n 0, 1) := by decide +kernel
theorem dX0_testHolds_157 : decode cX0_testHolds 157 = .ok (.iload_n 1, 1) := by decide +kernel
theorem dX0_testHolds_158 : decode cX0_testHolds 158 = .ok (.invokevirtual 60, 3) := by decide +kernel
theorem dX0_testHolds_161 : decode cX0_testHolds 161 = .ok (.if_icmp .ne 7, 3) := by decide +kernel
theorem dX0_testHolds_164 : decode cX0_testHolds 164 = .ok (.iconst 1, 1) := by decide +kernel
theorem dX0_testHolds_165 : decode cX0_testHolds 165 = .ok (.goto 4, 3) := by decide +kernel
theorem dX0_testHolds_168 : decode cX0_testHolds 168 = .ok (.iconst 0, 1) := by decide +kernel
theorem dX0_testHolds_169 : decode cX0_testHolds 169 = .ok (.ireturn, 1) := by decide +kernel
theorem dX0_testHolds_170 : decode cX0_testHolds 170 = .ok (.iload_n 3, 1) := by decide +kernel
theorem dX0_testHolds_171 : decode cX0_testHolds 171 = .ok (.ireturn, 1) := by decide +kernel
theorem dX0_testHolds_172 : decode cX0_testHolds 172 = .ok (.aload_n 2, 1) := by decide +kernel
theorem dX0_testHolds_173 : decode cX0_testHolds 173 = .ok (.getfield 70, 3) := by decide +kernel
theorem dX0_testHolds_176 : decode cX0_testHolds 176 = .ok (.invokestatic 73, 3) := by decide +kernel
theorem dX0_testHolds_179 : decode cX0_testHolds 179 = .ok (.ireturn, 1) := by decide +kernel
theorem dX0_testHolds_180 : decode cX0_testHolds 180 = .ok (.aload_n 2, 1) := by decide +kernel
theorem dX0_testHolds_181 : decode cX0_testHolds 181 = .ok (.getfield 70, 3) := by decide +kernel
theorem dX0_testHolds_184 : decode cX0_testHolds 184 = .ok (.aload_n 2, 1) := by decide +kernel
theorem dX0_testHolds_185 : decode cX0_testHolds 185 = .ok (.getfield 76, 3) := by decide +kernel
theorem dX0_testHolds_188 : decode cX0_testHolds 188 = .ok (.if_icmp .ne 7, 3) := by decide +kernel
theorem dX0_testHolds_191 : decode cX0_testHolds 191 = .ok (.iconst 1, 1) := by decide +kernel
theorem dX0_testHolds_192 : decode cX0_testHolds 192 = .ok (.goto 4, 3) := by decide +kernel
theorem dX0_testHolds_195 : decode cX0_testHolds 195 = .ok (.iconst 0, 1) := by decide +kernel
theorem dX0_testHolds_196 : decode cX0_testHolds 196 = .ok (.ireturn, 1) := by decide +kernel
theorem dX0_testHolds_197 : decode cX0_testHolds 197 = .ok (.iconst 0, 1) := by decide +kernel
theorem dX0_testHolds_198 : decode cX0_testHolds 198 = .ok (.ireturn, 1) := by decide +kernel
theorem dX0_numberBehind_0 : decode cX0_numberBehind 0 = .ok (.iload_n 1, 1) := by decide +kernel
theorem dX0_numberBehind_1 : decode cX0_numberBehind 1 = .ok (.iconst 2, 1) := by decide +kernel
theorem dX0_numberBehind_2 : decode cX0_numberBehind 2 = .ok (.iadd, 1) := by decide +kernel
theorem dX0_numberBehind_3 : decode cX0_numberBehind 3 = .ok (.aload_n 0, 1) := by decide +kernel
theorem dX0_numberBehind_4 : decode cX0_numberBehind 4 = .ok (.getfield 25, 3) := by decide +kernel
theorem dX0_numberBehind_7 : decode cX0_numberBehind 7 = .ok (.if_icmp .lt 5, 3) := by decide +kernel
theorem dX0_numberBehind_10 : decode cX0_numberBehind 10 = .ok (.iconst 0, 1) := by decide +kernel
theorem dX0_numberBehind_11 : decode cX0_numberBehind 11 = .ok (.ireturn, 1) := by decide +kernel
theorem dX0_numberBehind_12 : decode cX0_numberBehind 12 = .ok (.aload_n 0, 1) := by decide +kernel
theorem dX0_numberBehind_13 : decode cX0_numberBehind 13 = .ok (.getfield 9, 3) := by decide +kernel
theorem dX0_numberBehind_16 : decode cX0_numberBehind 16 = .ok (.iload_n 1, 1) := by decide +kernel
theorem dX0_numberBehind_17 : decode cX0_numberBehind 17 = .ok (.iconst 1, 1) := by decide +kernel
theorem dX0_numberBehind_18 : decode cX0_numberBehind 18 = .ok (.iadd, 1) := by decide +kernel
theorem dX0_numberBehind_19 : decode cX0_numberBehind 19 = .ok (.baload, 1) := by decide +kernel
theorem dX0_numberBehind_20 : decode cX0_numberBehind 20 = .ok (.bipush 48, 2) := by decide +kernel
theorem dX0_numberBehind_22 : decode cX0_numberBehind 22 = .ok (.isub, 1) := by decide +kernel
theorem dX0_numberBehind_23 : decode cX0_numberBehind 23 = .ok (.bipush 10, 2) := by decide +kernel
theorem dX0_numberBehind_25 : decode cX0_numberBehind 25 = .ok (.imul, 1) := by decide +kernel
theorem dX0_numberBehind_26 : decode cX0_numberBehind 26 = .ok (.aload_n 0, 1) := by decide +kernel
theorem dX0_numberBehind_27 : decode cX0_numberBehind 27 = .ok (.getfield 9, 3) := by decide +kernel
theorem dX0_numberBehind_30 : decode cX0_numberBehind 30 = .ok (.iload_n 1, 1) := by decide +kernel
theorem dX0_numberBehind_31 : decode cX0_numberBehind 31 = .ok (.iconst 2, 1) := by decide +kernel
theorem dX0_numberBehind_32 : decode cX0_numberBehind 32 = .ok (.iadd, 1) := by decide +kernel
theorem dX0_numberBehind_33 : decode cX0_numberBehind 33 = .ok (.baload, 1) := by decide +kernel
theorem dX0_numberBehind_34 : decode cX0_numberBehind 34 = .ok (.iadd, 1) := by decide +kernel
theorem dX0_numberBehind_35 : decode cX0_numberBehind 35 = .ok (.bipush 48, 2) := by decide +kernel
theorem dX0_numberBehind_37 : decode cX0_numberBehind 37 = .ok (.isub, 1) := by decide +kernel
theorem dX0_numberBehind_38 : decode cX0_numberBehind 38 = .ok (.ireturn, 1) := by decide +kernel
theorem dX1_init_0 : decode cX1_init 0 = .ok (.aload_n 0, 1) := by decide +kernel
theorem dX1_init_1 : decode cX1_init 1 = .ok (.invokespecial 3, 3) := by decide +kernel
theorem dX1_init_4 : decode cX1_init 4 = .ok (.aload_n 0, 1) := by decide +kernel
theorem dX1_init_5 : decode cX1_init 5 = .ok (.bipush 8, 2) := by decide +kernel
theorem dX1_init_7 : decode cX1_init 7 = .ok (.newarray .int, 2) := by decide +kernel
theorem dX1_init_9 : decode cX1_init 9 = .ok (.putfield 9, 3) := by decide +kernel
theorem dX1_init_12 : decode cX1_init 12 = .ok (.aload_n 0, 1) := by decide +kernel
theorem dX1_init_13 : decode cX1_init 13 = .ok (.bipush 25, 2) := by decide +kernel
theorem dX1_init_15 : decode cX1_init 15 = .ok (.newarray .int, 2) := by decide +kernel
theorem dX1_init_17 : decode cX1_init 17 = .ok (.putfield 15, 3) := by decide +kernel
theorem dX1_init_20 : decode cX1_init 20 = .ok (.aload_n 0, 1) := by decide +kernel
theorem dX1_init_21 : decode cX1_init 21 = .ok (.bipush 6, 2) := by decide +kernel
theorem dX1_init_23 : decode cX1_init 23 = .ok (.newarray .int, 2) := by decide +kernel
theorem dX1_init_25 : decode cX1_init 25 = .ok (.putfield 18, 3) := by decide +kernel
theorem dX1_init_28 : decode cX1_init 28 = .ok (.aload_n 0, 1) := by decide +kernel
theorem dX1_init_29 : decode cX1_init 29 = .ok (.aload_n 1, 1) := by decide +kernel
theorem dX1_init_30 : decode cX1_init 30 = .ok (.putfield 21, 3) := by decide +kernel
theorem dX1_init_33 : decode cX1_init 33 = .ok (.return_, 1) := by decide +kernel
theorem dX1_forgetMen_0 : decode cX1_forgetMen 0 = .ok (.aload_n 0, 1) := by decide +kernel
theorem dX1_forgetMen_1 : decode cX1_forgetMen 1 = .ok (.getfield 9, 3) := by decide +kernel
theorem dX1_forgetMen_4 : decode cX1_forgetMen 4 = .ok (.iconst 0, 1) := by decide +kernel
theorem dX1_forgetMen_5 : decode cX1_forgetMen 5 = .ok (.invokestatic 25, 3) := by decide +kernel
theorem dX1_forgetMen_8 : decode cX1_forgetMen 8 = .ok (.return_, 1) := by decide +kernel
theorem dX1_addMan_0 : decode cX1_addMan 0 = .ok (.aload_n 0, 1) := by decide +kernel
theorem dX1_addMan_1 : decode cX1_addMan 1 = .ok (.getfield 21, 3) := by decide +kernel
theorem dX1_addMan_4 : decode cX1_addMan 4 = .ok (.iload_n 1, 1) := by decide +kernel
theorem dX1_addMan_5 : decode cX1_addMan 5 = .ok (.invokevirtual 31, 3) := by decide +kernel
theorem dX1_addMan_8 : decode cX1_addMan 8 = .ok (.ifCond .eq 13, 3) := by decide +kernel
theorem dX1_addMan_11 : decode cX1_addMan 11 = .ok (.aload_n 0, 1) := by decide +kernel
theorem dX1_addMan_12 : decode cX1_addMan 12 = .ok (.getfield 9, 3) := by decide +kernel
theorem dX1_addMan_15 : decode cX1_addMan 15 = .ok (.iload_n 1, 1) := by decide +kernel
theorem dX1_addMan_16 : decode cX1_addMan 16 = .ok (.dup2, 1) := by decide +kernel
theorem dX1_addMan_17 : decode cX1_addMan 17 = .ok (.iaload, 1) := by decide +kernel
theorem dX1_addMan_18 : decode cX1_addMan 18 = .ok (.iconst 1, 1) := by decide +kernel
theorem dX1_addMan_19 : decode cX1_addMan 19 = .ok (.iadd, 1) := by decide +kernel
theorem dX1_addMan_20 : decode cX1_addMan 20 = .ok (.iastore, 1) := by decide +kernel
theorem dX1_addMan_21 : decode cX1_addMan 21 = .ok (.return_, 1) := by decide +kernel
theorem dX1_streetOf_0 : decode cX1_streetOf 0 = .ok (.aload_n 0, 1) := by decide +kernel
theorem dX1_streetOf_1 : decode cX1_streetOf 1 = .ok (.getfield 18, 3) := by decide +kernel
theorem dX1_streetOf_4 : decode cX1_streetOf 4 = .ok (.iload_n 1, 1) := by decide +kernel
theorem dX1_streetOf_5 : decode cX1_streetOf 5 = .ok (.iconst 3, 1) := by decide +kernel
theorem dX1_streetOf_6 : decode cX1_streetOf 6 = .ok (.imul, 1) := by decide +kernel
theorem dX1_streetOf_7 : decode cX1_streetOf 7 = .ok (.iload_n 2, 1) := by decide +kernel
theorem dX1_streetOf_8 : decode cX1_streetOf 8 = .ok (.iadd, 1) := by decide +kernel
theorem dX1_streetOf_9 : decode cX1_streetOf 9 = .ok (.iaload, 1) := by decide +kernel
theorem dX1_streetOf_10 : decode cX1_streetOf 10 = .ok (.ireturn, 1) := by decide +kernel
theorem dX1_mostMet_0 : decode cX1_mostMet 0 = .ok (.iconst 0, 1) := by decide +kernel
theorem dX1_mostMet_1 : decode cX1_mostMet 1 = .ok (.istore_n 2, 1) := by decide +kernel
theorem dX1_mostMet_2 : decode cX1_mostMet 2 = .ok (.iconst 0, 1) := by decide +kernel
theorem dX1_mostMet_3 : decode cX1_mostMet 3 = .ok (.istore_n 3, 1) := by decide +kernel
theorem dX1_mostMet_4 : decode cX1_mostMet 4 = .ok (.iconst 0, 1) := by decide +kernel
theorem dX1_mostMet_5 : decode cX1_mostMet 5 = .ok (.istore 4, 2) := by decide +kernel
theorem dX1_mostMet_7 : decode cX1_mostMet 7 = .ok (.iload 4, 2) := by decide +kernel
theorem dX1_mostMet_9 : decode cX1_mostMet 9 = .ok (.aload_n 0, 1) := by decide +kernel
theorem dX1_mostMet_10 : decode cX1_mostMet 10 = .ok (.getfield 21, 3) := by decide +kernel
theorem dX1_mostMet_13 : decode cX1_mostMet 13 = .ok (.getfield 37, 3) := by decide +kernel
theorem dX1_mostMet_16 : decode cX1_mostMet 16 = .ok (.if_icmp .ge 52, 3) := by decide +kernel
theorem dX1_mostMet_19 : decode cX1_mostMet 19 = .ok (.aload_n 0, 1) := by decide +kernel
theorem dX1_mostMet_20 : decode cX1_mostMet 20 = .ok (.getfield 9, 3) := by decide +kernel
theorem dX1_mostMet_23 : decode cX1_mostMet 23 = .ok (.iload 4, 2) := by decide +kernel
theorem dX1_mostMet_25 : decode cX1_mostMet 25 = .ok (.iaload, 1) := by decide +kernel
theorem dX1_mostMet_26 : decode cX1_mostMet 26 = .ok (.iload_n 2, 1) := by decide +kernel
theorem dX1_mostMet_27 : decode cX1_mostMet 27 = .ok (.if_icmp .le 16, 3) := by decide +kernel
theorem dX1_mostMet_30 : decode cX1_mostMet 30 = .ok (.iload_n 2, 1) := by decide +kernel
theorem dX1_mostMet_31 : decode cX1_mostMet 31 = .ok (.istore_n 3, 1) := by decide +kernel
theorem dX1_mostMet_32 : decode cX1_mostMet 32 = .ok (.aload_n 0, 1) := by decide +kernel
theorem dX1_mostMet_33 : decode cX1_mostMet 33 = .ok (.getfield 9, 3) := by decide +kernel
theorem dX1_mostMet_36 : decode cX1_mostMet 36 = .ok (.iload 4, 2) := by decide +kernel
theorem dX1_mostMet_38 : decode cX1_mostMet 38 = .ok (.iaload, 1) := by decide +kernel
theorem dX1_mostMet_39 : decode cX1_mostMet 39 = .ok (.istore_n 2, 1) := by decide +kernel
theorem dX1_mostMet_40 : decode cX1_mostMet 40 = .ok (.goto 22, 3) := by decide +kernel
theorem dX1_mostMet_43 : decode cX1_mostMet 43 = .ok (.aload_n 0, 1) := by decide +kernel
theorem dX1_mostMet_44 : decode cX1_mostMet 44 = .ok (.getfield 9, 3) := by decide +kernel
theorem dX1_mostMet_47 : decode cX1_mostMet 47 = .ok (.iload 4, 2) := by decide +kernel
theorem dX1_mostMet_49 : decode cX1_mostMet 49 = .ok (.iaload, 1) := by decide +kernel
theorem dX1_mostMet_50 : decode cX1_mostMet 50 = .ok (.iload_n 3, 1) := by decide +kernel
theorem dX1_mostMet_51 : decode cX1_mostMet 51 = .ok (.if_icmp .le 11, 3) := by decide +kernel
theorem dX1_mostMet_54 : decode cX1_mostMet 54 = .ok (.aload_n 0, 1) := by decide +kernel
theorem dX1_mostMet_55 : decode cX1_mostMet 55 = .ok (.getfield 9, 3) := by decide +kernel
theorem dX1_mostMet_58 : decode cX1_mostMet 58 = .ok (.iload 4, 2) := by decide +kernel
theorem dX1_mostMet_60 : decode cX1_mostMet 60 = .ok (.iaload, 1) := by decide +kernel
theorem dX1_mostMet_61 : decode cX1_mostMet 61 = .ok (.istore_n 3, 1) := by decide +kernel
theorem dX1_mostMet_62 : decode cX1_mostMet 62 = .ok (.iinc 4 1, 3) := by decide +kernel
theorem dX1_mostMet_65 : decode cX1_mostMet 65 = .ok (.goto (-58), 3) := by decide +kernel
theorem dX1_mostMet_68 : decode cX1_mostMet 68 = .ok (.iload_n 1, 1) := by decide +kernel
theorem dX1_mostMet_69 : decode cX1_mostMet 69 = .ok (.iconst 1, 1) := by decide +kernel
theorem dX1_mostMet_70 : decode cX1_mostMet 70 = .ok (.if_icmp .ne 7, 3) := by decide +kernel
theorem dX1_mostMet_73 : decode cX1_mostMet 73 = .ok (.iload_n 2, 1) := by decide +kernel
theorem dX1_mostMet_74 : decode cX1_mostMet 74 = .ok (.goto 6, 3) := by decide +kernel
theorem dX1_mostMet_77 : decode cX1_mostMet 77 = .ok (.iload_n 2, 1) := by decide +kernel
theorem dX1_mostMet_78 : decode cX1_mostMet 78 = .ok (.iload_n 3, 1) := by decide +kernel
theorem dX1_mostMet_79 : decode cX1_mostMet 79 = .ok (.iadd, 1) := by decide +kernel
theorem dX1_mostMet_80 : decode cX1_mostMet 80 = .ok (.ireturn, 1) := by decide +kernel
theorem dX1_lay_0 : decode cX1_lay 0 = .ok (.aload_n 0, 1) := by decide +kernel
theorem dX1_lay_1 : decode cX1_lay 1 = .ok (.iload_n 1, 1) := by decide +kernel
theorem dX1_lay_2 : decode cX1_lay 2 = .ok (.invokevirtual 41, 3) := by decide +kernel
theorem dX1_lay_5 : decode cX1_lay 5 = .ok (.istore_n 3, 1) := by decide +kernel
theorem dX1_lay_6 : decode cX1_lay 6 = .ok (.aload_n 0, 1) := by decide +kernel
theorem dX1_lay_7 : decode cX1_lay 7 = .ok (.iload_n 2, 1) := by decide +kernel
theorem dX1_lay_8 : decode cX1_lay 8 = .ok (.invokevirtual 45, 3) := by decide +kernel
theorem dX1_lay_11 : decode cX1_lay 11 = .ok (.sipush 999, 3) := by decide +kernel
theorem dX1_lay_14 : decode cX1_lay 14 = .ok (.istore 4, 2) := by decide +kernel
theorem dX1_lay_16 : decode cX1_lay 16 = .ok (.sipush 999, 3) := by decide +kernel
theorem dX1_lay_19 : decode cX1_lay 19 = .ok (.istore 5, 2) := by decide +kernel
theorem dX1_lay_21 : decode cX1_lay 21 = .ok (.iconst 0, 1) := by decide +kernel
theorem dX1_lay_22 : decode cX1_lay 22 = .ok (.istore 6, 2) := by decide +kernel
theorem dX1_lay_24 : decode cX1_lay 24 = .ok (.iload 6, 2) := by decide +kernel
theorem dX1_lay_26 : decode cX1_lay 26 = .ok (.bipush 24, 2) := by decide +kernel
theorem dX1_lay_28 : decode cX1_lay 28 = .ok (.if_icmp .gt 58, 3) := by decide +kernel
theorem dX1_lay_31 : decode cX1_lay 31 = .ok (.aload_n 0, 1) := by decide +kernel
theorem dX1_lay_32 : decode cX1_lay 32 = .ok (.getfield 15, 3) := by decide +kernel
theorem dX1_lay_35 : decode cX1_lay 35 = .ok (.iload 6, 2) := by decide +kernel
theorem dX1_lay_37 : decode cX1_lay 37 = .ok (.iaload, 1) := by decide +kernel
theorem dX1_lay_38 : decode cX1_lay 38 = .ok (.iload 4, 2) := by decide +kernel
theorem dX1_lay_40 : decode cX1_lay 40 = .ok (.if_icmp .ge 14, 3) := by decide +kernel
theorem dX1_lay_43 : decode cX1_lay 43 = .ok (.aload_n 0, 1) := by decide +kernel
theorem dX1_lay_44 : decode cX1_lay 44 = .ok (.iload 6, 2) := by decide +kernel
theorem dX1_lay_46 : decode cX1_lay 46 = .ok (.iload_n 1, 1) := by decide +kernel
theorem dX1_lay_47 : decode cX1_lay 47 = .ok (.iload_n 3, 1) := by decide +kernel
theorem dX1_lay_48 : decode cX1_lay 48 = .ok (.invokevirtual 49, 3) := by decide +kernel
theorem dX1_lay_51 : decode cX1_lay 51 = .ok (.goto 6, 3) := by decide +kernel
theorem dX1_lay_54 : decode cX1_lay 54 = .ok (.sipush 999, 3) := by decide +kernel
theorem dX1_lay_57 : decode cX1_lay 57 = .ok (.istore 7, 2) := by decide +kernel
theorem dX1_lay_59 : decode cX1_lay 59 = .ok (.iload 7, 2) := by decide +kernel
theorem dX1_lay_61 : decode cX1_lay 61 = .ok (.sipush 999, 3) := by decide +kernel
theorem dX1_lay_64 : decode cX1_lay 64 = .ok (.if_icmp .ge 16, 3) := by decide +kernel
theorem dX1_lay_67 : decode cX1_lay 67 = .ok (.aload_n 0, 1) := by decide +kernel
theorem dX1_lay_68 : decode cX1_lay 68 = .ok (.getfield 15, 3) := by decide +kernel
theorem dX1_lay_71 : decode cX1_lay 71 = .ok (.iload 6, 2) := by decide +kernel
theorem dX1_lay_73 : decode cX1_lay 73 = .ok (.iaload, 1) := by decide +kernel
theorem dX1_lay_74 : decode cX1_lay 74 = .ok (.istore 4, 2) := by decide +kernel
theorem dX1_lay_76 : decode cX1_lay 76 = .ok (.iload 7, 2) := by decide +kernel
theorem dX1_lay_78 : decode cX1_lay 78 = .ok (.istore 5, 2) := by decide +kernel
theorem dX1_lay_80 : decode cX1_lay 80 = .ok (.iinc 6 1, 3) := by decide +kernel
theorem dX1_lay_83 : decode cX1_lay 83 = .ok (.goto (-59), 3) := by decide +kernel
theorem dX1_lay_86 : decode cX1_lay 86 = .ok (.aload_n 0, 1) := by decide +kernel
theorem dX1_lay_87 : decode cX1_lay 87 = .ok (.iconst 0, 1) := by decide +kernel
theorem dX1_lay_88 : decode cX1_lay 88 = .ok (.iload 4, 2) := by decide +kernel
theorem dX1_lay_90 : decode cX1_lay 90 = .ok (.iload_n 2, 1) := by decide +kernel
theorem dX1_lay_91 : decode cX1_lay 91 = .ok (.invokevirtual 53, 3) := by decide +kernel
theorem dX1_lay_94 : decode cX1_lay 94 = .ok (.pop, 1) := by decide +kernel
theorem dX1_lay_95 : decode cX1_lay 95 = .ok (.aload_n 0, 1) := by decide +kernel
theorem dX1_lay_96 : decode cX1_lay 96 = .ok (.iconst 1, 1) := by decide +kernel
theorem dX1_lay_97 : decode cX1_lay 97 = .ok (.iload 5, 2) := by decide +kernel
theorem dX1_lay_99 : decode cX1_lay 99 = .ok (.iload_n 2, 1) := by decide +kernel
theorem dX1_lay_100 : decode cX1_lay 100 = .ok (.invokevirtual 53, 3) := by decide +kernel
theorem dX1_lay_103 : decode cX1_lay 103 = .ok (.pop, 1) := by decide +kernel
theorem dX1_lay_104 : decode cX1_lay 104 = .ok (.return_, 1) := by decide +kernel
theorem dX1_firstMate_0 : decode cX1_firstMate 0 = .ok (.iload_n 2, 1) := by decide +kernel
theorem dX1_firstMate_1 : decode cX1_firstMate 1 = .ok (.iconst 1, 1) := by decide +kernel
theorem dX1_firstMate_2 : decode cX1_firstMate 2 = .ok (.if_icmp .ne 20, 3) := by decide +kernel
theorem dX1_firstMate_5 : decode cX1_firstMate 5 = .ok (.aload_n 0, 1) := by decide +kernel
theorem dX1_firstMate_6 : decode cX1_firstMate 6 = .ok (.iload_n 1, 1) := by decide +kernel
theorem dX1_firstMate_7 : decode cX1_firstMate 7 = .ok (.invokevirtual 57, 3) := by decide +kernel
theorem dX1_firstMate_10 : decode cX1_firstMate 10 = .ok (.iload_n 3, 1) := by decide +kernel
theorem dX1_firstMate_11 : decode cX1_firstMate 11 = .ok (.if_icmp .ne 7, 3) := by decide +kernel
theorem dX1_firstMate_14 : decode cX1_firstMate 14 = .ok (.iconst 0, 1) := by decide +kernel
theorem dX1_firstMate_15 : decode cX1_firstMate 15 = .ok (.goto 6, 3) := by decide +kernel
theorem dX1_firstMate_18 : decode cX1_firstMate 18 = .ok (.sipush 999, 3) := by decide +kernel
theorem dX1_firstMate_21 : decode cX1_firstMate 21 = .ok (.ireturn, 1) := by decide +kernel
theorem dX1_firstMate_22 : decode cX1_firstMate 22 = .ok (.sipush 999, 3) := by decide +kernel
theorem dX1_firstMate_25 : decode cX1_firstMate 25 = .ok (.istore 4, 2) := by decide +kernel
theorem dX1_firstMate_27 : decode cX1_firstMate 27 = .ok (.iconst 0, 1) := by decide +kernel
theorem dX1_firstMate_28 : decode cX1_firstMate 28 = .ok (.istore 5, 2) := by decide +kernel
theorem dX1_firstMate_30 : decode cX1_firstMate 30 = .ok (.iload 5, 2) := by decide +kernel
theorem dX1_firstMate_32 : decode cX1_firstMate 32 = .ok (.bipush 24, 2) := by decide +kernel
theorem dX1_firstMate_34 : decode cX1_firstMate 34 = .ok (.if_icmp .gt 41, 3) := by decide +kernel
theorem dX1_firstMate_37 : decode cX1_firstMate 37 = .ok (.aload_n 0, 1) := by decide +kernel
theorem dX1_firstMate_38 : decode cX1_firstMate 38 = .ok (.getfield 15, 3) := by decide +kernel
theorem dX1_firstMate_41 : decode cX1_firstMate 41 = .ok (.iload 5, 2) := by decide +kernel
theorem dX1_firstMate_43 : decode cX1_firstMate 43 = .ok (.iaload, 1) := by decide +kernel
theorem dX1_firstMate_44 : decode cX1_firstMate 44 = .ok (.iload 4, 2) := by decide +kernel
theorem dX1_firstMate_46 : decode cX1_firstMate 46 = .ok (.if_icmp .ge 23, 3) := by decide +kernel
theorem dX1_firstMate_49 : decode cX1_firstMate 49 = .ok (.aload_n 0, 1) := by decide +kernel
theorem dX1_firstMate_50 : decode cX1_firstMate 50 = .ok (.iload_n 1, 1) := by decide +kernel
theorem dX1_firstMate_51 : decode cX1_firstMate 51 = .ok (.iload 5, 2) := by decide +kernel
theorem dX1_firstMate_53 : decode cX1_firstMate 53 = .ok (.invokevirtual 60, 3) := by decide +kernel
theorem dX1_firstMate_56 : decode cX1_firstMate 56 = .ok (.iload_n 3, 1) := by decide +kernel
theorem dX1_firstMate_57 : decode cX1_firstMate 57 = .ok (.if_icmp .ne 12, 3) := by decide +kernel
theorem dX1_firstMate_60 : decode cX1_firstMate 60 = .ok (.aload_n 0, 1) := by decide +kernel
theorem dX1_firstMate_61 : decode cX1_firstMate 61 = .ok (.getfield 15, 3) := by decide +kernel
theorem dX1_firstMate_64 : decode cX1_firstMate 64 = .ok (.iload 5, 2) := by decide +kernel
theorem dX1_firstMate_66 : decode cX1_firstMate 66 = .ok (.iaload, 1) := by decide +kernel
theorem dX1_firstMate_67 : decode cX1_firstMate 67 = .ok (.istore 4, 2) := by decide +kernel
theorem dX1_firstMate_69 : decode cX1_firstMate 69 = .ok (.iinc 5 1, 3) := by decide +kernel
theorem dX1_firstMate_72 : decode cX1_firstMate 72 = .ok (.goto (-42), 3) := by decide +kernel
theorem dX1_firstMate_75 : decode cX1_firstMate 75 = .ok (.iload 4, 2) := by decide +kernel
theorem dX1_firstMate_77 : decode cX1_firstMate 77 = .ok (.ireturn, 1) := by decide +kernel
theorem dX1_menMet_0 : decode cX1_menMet 0 = .ok (.iload_n 1, 1) := by decide +kernel
theorem dX1_menMet_1 : decode cX1_menMet 1 = .ok (.bipush 24, 2) := by decide +kernel
theorem dX1_menMet_3 : decode cX1_menMet 3 = .ok (.if_icmp .ne 7, 3) := by decide +kernel
theorem dX1_menMet_6 : decode cX1_menMet 6 = .ok (.iconst 0, 1) := by decide +kernel
theorem dX1_menMet_7 : decode cX1_menMet 7 = .ok (.goto 12, 3) := by decide +kernel
theorem dX1_menMet_10 : decode cX1_menMet 10 = .ok (.aload_n 0, 1) := by decide +kernel
theorem dX1_menMet_11 : decode cX1_menMet 11 = .ok (.getfield 9, 3) := by decide +kernel
theorem dX1_menMet_14 : decode cX1_menMet 14 = .ok (.iload_n 1, 1) := by decide +kernel
theorem dX1_menMet_15 : decode cX1_menMet 15 = .ok (.bipush 8, 2) := by decide +kernel
theorem dX1_menMet_17 : decode cX1_menMet 17 = .ok (.irem, 1) := by decide +kernel
theorem dX1_menMet_18 : decode cX1_menMet 18 = .ok (.iaload, 1) := by decide +kernel
theorem dX1_menMet_19 : decode cX1_menMet 19 = .ok (.ireturn, 1) := by decide +kernel
theorem dX1_menMetByBoth_0 : decode cX1_menMetByBoth 0 = .ok (.iload_n 1, 1) := by decide +kernel
theorem dX1_menMetByBoth_1 : decode cX1_menMetByBoth 1 = .ok (.bipush 24, 2) := by decide +kernel
theorem dX1_menMetByBoth_3 : decode cX1_menMetByBoth 3 = .ok (.if_icmp .eq 9, 3) := by decide +kernel
theorem dX1_menMetByBoth_6 : decode cX1_menMetByBoth 6 = .ok (.iload_n 2, 1) := by decide +kernel
theorem dX1_menMetByBoth_7 : decode cX1_menMetByBoth 7 = .ok (.bipush 24, 2) := by decide +kernel
theorem dX1_menMetByBoth_9 : decode cX1_menMetByBoth 9 = .ok (.if_icmp .ne 15, 3) := by decide +kernel
theorem dX1_menMetByBoth_12 : decode cX1_menMetByBoth 12 = .ok (.aload_n 0, 1) := by decide +kernel
theorem dX1_menMetByBoth_13 : decode cX1_menMetByBoth 13 = .ok (.iload_n 1, 1) := by decide +kernel
theorem dX1_menMetByBoth_14 : decode cX1_menMetByBoth 14 = .ok (.invokevirtual 57, 3) := by decide +kernel
theorem dX1_menMetByBoth_17 : decode cX1_menMetByBoth 17 = .ok (.aload_n 0, 1) := by decide +kernel
theorem dX1_menMetByBoth_18 : decode cX1_menMetByBoth 18 = .ok (.iload_n 2, 1) := by decide +kernel
theorem dX1_menMetByBoth_19 : decode cX1_menMetByBoth 19 = .ok (.invokevirtual 57, 3) := by decide +kernel
theorem dX1_menMetByBoth_22 : decode cX1_menMetByBoth 22 = .ok (.iadd, 1) := by decide +kernel
theorem dX1_menMetByBoth_23 : decode cX1_menMetByBoth 23 = .ok (.ireturn, 1) := by decide +kernel
theorem dX1_menMetByBoth_24 : decode cX1_menMetByBoth 24 = .ok (.iload_n 1, 1) := by decide +kernel
theorem dX1_menMetByBoth_25 : decode cX1_menMetByBoth 25 = .ok (.iload_n 2, 1) := by decide +kernel
theorem dX1_menMetByBoth_26 : decode cX1_menMetByBoth 26 = .ok (.invokestatic 64, 3) := by decide +kernel
theorem dX1_menMetByBoth_29 : decode cX1_menMetByBoth 29 = .ok (.istore_n 3, 1) := by decide +kernel
theorem dX1_menMetByBoth_30 : decode cX1_menMetByBoth 30 = .ok (.iload_n 1, 1) := by decide +kernel
theorem dX1_menMetByBoth_31 : decode cX1_menMetByBoth 31 = .ok (.iload_n 2, 1) := by decide +kernel
theorem dX1_menMetByBoth_32 : decode cX1_menMetByBoth 32 = .ok (.invokestatic 69, 3) := by decide +kernel
theorem dX1_menMetByBoth_35 : decode cX1_menMetByBoth 35 = .ok (.istore 4, 2) := by decide +kernel
theorem dX1_menMetByBoth_37 : decode cX1_menMetByBoth 37 = .ok (.iload 4, 2) := by decide +kernel
theorem dX1_menMetByBoth_39 : decode cX1_menMetByBoth 39 = .ok (.bipush 8, 2) := by decide +kernel
theorem dX1_menMetByBoth_41 : decode cX1_menMetByBoth 41 = .ok (.idiv, 1) := by decide +kernel
theorem dX1_menMetByBoth_42 : decode cX1_menMetByBoth 42 = .ok (.iload_n 3, 1) := by decide +kernel
theorem dX1_menMetByBoth_43 : decode cX1_menMetByBoth 43 = .ok (.bipush 8, 2) := by decide +kernel
theorem dX1_menMetByBoth_45 : decode cX1_menMetByBoth 45 = .ok (.idiv, 1) := by decide +kernel
theorem dX1_menMetByBoth_46 : decode cX1_menMetByBoth 46 = .ok (.isub, 1) := by decide +kernel
theorem dX1_menMetByBoth_47 : decode cX1_menMetByBoth 47 = .ok (.istore 5, 2) := by decide +kernel
theorem dX1_menMetByBoth_49 : decode cX1_menMetByBoth 49 = .ok (.aload_n 0, 1) := by decide +kernel
theorem dX1_menMetByBoth_50 : decode cX1_menMetByBoth 50 = .ok (.getfield 21, 3) := by decide +kernel
theorem dX1_menMetByBoth_53 : decode cX1_menMetByBoth 53 = .ok (.iload_n 3, 1) := by decide +kernel
theorem dX1_menMetByBoth_54 : decode cX1_menMetByBoth 54 = .ok (.bipush 8, 2) := by decide +kernel
theorem dX1_menMetByBoth_56 : decode cX1_menMetByBoth 56 = .ok (.irem, 1) := by decide +kernel
theorem dX1_menMetByBoth_57 : decode cX1_menMetByBoth 57 = .ok (.iload 4, 2) := by decide +kernel
theorem dX1_menMetByBoth_59 : decode cX1_menMetByBoth 59 = .ok (.bipush 8, 2) := by decide +kernel
theorem dX1_menMetByBoth_61 : decode cX1_menMetByBoth 61 = .ok (.irem, 1) := by decide +kernel
theorem dX1_menMetByBoth_62 : decode cX1_menMetByBoth 62 = .ok (.invokevirtual 72, 3) := by decide +kernel
theorem dX1_menMetByBoth_65 : decode cX1_menMetByBoth 65 = .ok (.istore 6, 2) := by decide +kernel
theorem dX1_menMetByBoth_67 : decode cX1_menMetByBoth 67 = .ok (.iload 6, 2) := by decide +kernel
theorem dX1_menMetByBoth_69 : decode cX1_menMetByBoth 69 = .ok (.ifCond .eq 15, 3) := by decide +kernel
theorem dX1_menMetByBoth_72 : decode cX1_menMetByBoth 72 = .ok (.iload 5, 2) := by decide +kernel
theorem dX1_menMetByBoth_74 : decode cX1_menMetByBoth 74 = .ok (.ifCond .le 14, 3) := by decide +kernel
theorem dX1_menMetByBoth_77 : decode cX1_menMetByBoth 77 = .ok (.iload 5, 2) := by decide +kernel
theorem dX1_menMetByBoth_79 : decode cX1_menMetByBoth 79 = .ok (.iload 6, 2) := by decide +kernel
theorem dX1_menMetByBoth_81 : decode cX1_menMetByBoth 81 = .ok (.if_icmp .lt 7, 3) := by decide +kernel
theorem dX1_menMetByBoth_84 : decode cX1_menMetByBoth 84 = .ok (.iconst 1, 1) := by decide +kernel
theorem dX1_menMetByBoth_85 : decode cX1_menMetByBoth 85 = .ok (.goto 4, 3) := by decide +kernel
theorem dX1_menMetByBoth_88 : decode cX1_menMetByBoth 88 = .ok (.iconst 0, 1) := by decide +kernel
theorem dX1_menMetByBoth_89 : decode cX1_menMetByBoth 89 = .ok (.istore 7, 2) := by decide +kernel
theorem dX1_menMetByBoth_91 : decode cX1_menMetByBoth 91 = .ok (.iload 7, 2) := by decide +kernel
theorem dX1_menMetByBoth_93 : decode cX1_menMetByBoth 93 = .ok (.ifCond .eq 11, 3) := by decide +kernel
theorem dX1_menMetByBoth_96 : decode cX1_menMetByBoth 96 = .ok (.aload_n 0, 1) := by decide +kernel
theorem dX1_menMetByBoth_97 : decode cX1_menMetByBoth 97 = .ok (.iload_n 3, 1) := by decide +kernel
theorem dX1_menMetByBoth_98 : decode cX1_menMetByBoth 98 = .ok (.invokevirtual 57, 3) := by decide +kernel
theorem dX1_menMetByBoth_101 : decode cX1_menMetByBoth 101 = .ok (.goto 15, 3) := by decide +kernel
theorem dX1_menMetByBoth_104 : decode cX1_menMetByBoth 104 = .ok (.aload_n 0, 1) := by decide +kernel
theorem dX1_menMetByBoth_105 : decode cX1_menMetByBoth 105 = .ok (.iload_n 3, 1) := by decide +kernel
theorem dX1_menMetByBoth_106 : decode cX1_menMetByBoth 106 = .ok (.invokevirtual 57, 3) := by decide +kernel
theorem dX1_menMetByBoth_109 : decode cX1_menMetByBoth 109 = .ok (.aload_n 0, 1) := by decide +kernel
theorem dX1_menMetByBoth_110 : decode cX1_menMetByBoth 110 = .ok (.iload 4, 2) := by decide +kernel
theorem dX1_menMetByBoth_112 : decode cX1_menMetByBoth 112 = .ok (.invokevirtual 57, 3) := by decide +kernel
theorem dX1_menMetByBoth_115 : decode cX1_menMetByBoth 115 = .ok (.iadd, 1) := by decide +kernel
theorem dX1_menMetByBoth_116 : decode cX1_menMetByBoth 116 = .ok (.ireturn, 1) := by decide +kernel
theorem dX1_findFirstWalks_0 : decode cX1_findFirstWalks 0 = .ok (.aload_n 0, 1) := by decide +kernel
theorem dX1_findFirstWalks_1 : decode cX1_findFirstWalks 1 = .ok (.getfield 15, 3) := by decide +kernel
theorem dX1_findFirstWalks_4 : decode cX1_findFirstWalks 4 = .ok (.sipush 999, 3) := by decide +kernel
theorem dX1_findFirstWalks_7 : decode cX1_findFirstWalks 7 = .ok (.invokestatic 25, 3) := by decide +kernel
theorem dX1_findFirstWalks_10 : decode cX1_findFirstWalks 10 = .ok (.iconst 1, 1) := by decide +kernel
theorem dX1_findFirstWalks_11 : decode cX1_findFirstWalks 11 = .ok (.istore_n 2, 1) := by decide +kernel
theorem dX1_findFirstWalks_12 : decode cX1_findFirstWalks 12 = .ok (.iconst 0, 1) := by decide +kernel
theorem dX1_findFirstWalks_13 : decode cX1_findFirstWalks 13 = .ok (.istore_n 3, 1) := by decide +kernel
theorem dX1_findFirstWalks_14 : decode cX1_findFirstWalks 14 = .ok (.iload_n 3, 1) := by decide +kernel
theorem dX1_findFirstWalks_15 : decode cX1_findFirstWalks 15 = .ok (.iload_n 1, 1) := by decide +kernel
theorem dX1_findFirstWalks_16 : decode cX1_findFirstWalks 16 = .ok (.if_icmp .ge 19, 3) := by decide +kernel
theorem dX1_findFirstWalks_19 : decode cX1_findFirstWalks 19 = .ok (.iload_n 2, 1) := by decide +kernel
theorem dX1_findFirstWalks_20 : decode cX1_findFirstWalks 20 = .ok (.aload_n 0, 1) := by decide +kernel
theorem dX1_findFirstWalks_21 : decode cX1_findFirstWalks 21 = .ok (.getfield 21, 3) := by decide +kernel
theorem dX1_findFirstWalks_24 : decode cX1_findFirstWalks 24 = .ok (.getfield 37, 3) := by decide +kernel
theorem dX1_findFirstWalks_27 : decode cX1_findFirstWalks 27 = .ok (.imul, 1) := by decide +kernel
theorem dX1_findFirstWalks_28 : decode cX1_findFirstWalks 28 = .ok (.istore_n 2, 1) := by decide +kernel
theorem dX1_findFirstWalks_29 : decode cX1_findFirstWalks 29 = .ok (.iinc 3 1, 3) := by decide +kernel
theorem dX1_findFirstWalks_32 : decode cX1_findFirstWalks 32 = .ok (.goto (-18), 3) := by decide +kernel
theorem dX1_findFirstWalks_35 : decode cX1_findFirstWalks 35 = .ok (.iconst 0, 1) := by decide +kernel
theorem dX1_findFirstWalks_36 : decode cX1_findFirstWalks 36 = .ok (.istore_n 3, 1) := by decide +kernel
theorem dX1_findFirstWalks_37 : decode cX1_findFirstWalks 37 = .ok (.iload_n 3, 1) := by decide +kernel
theorem dX1_findFirstWalks_38 : decode cX1_findFirstWalks 38 = .ok (.iload_n 2, 1) := by decide +kernel
theorem dX1_findFirstWalks_39 : decode cX1_findFirstWalks 39 = .ok (.if_icmp .ge 44, 3) := by decide +kernel
theorem dX1_findFirstWalks_42 : decode cX1_findFirstWalks 42 = .ok (.aload_n 0, 1) := by decide +kernel
theorem dX1_findFirstWalks_43 : decode cX1_findFirstWalks 43 = .ok (.iconst 0, 1) := by decide +kernel
theorem dX1_findFirstWalks_44 : decode cX1_findFirstWalks 44 = .ok (.iload_n 3, 1) := by decide +kernel
theorem dX1_findFirstWalks_45 : decode cX1_findFirstWalks 45 = .ok (.iload_n 1, 1) := by decide +kernel
theorem dX1_findFirstWalks_46 : decode cX1_findFirstWalks 46 = .ok (.invokevirtual 53, 3) := by decide +kernel
theorem dX1_findFirstWalks_49 : decode cX1_findFirstWalks 49 = .ok (.ifCond .eq 28, 3) := by decide +kernel
theorem dX1_findFirstWalks_52 : decode cX1_findFirstWalks 52 = .ok (.aload_n 0, 1) := by decide +kernel
theorem dX1_findFirstWalks_53 : decode cX1_findFirstWalks 53 = .ok (.iload_n 1, 1) := by decide +kernel
theorem dX1_findFirstWalks_54 : decode cX1_findFirstWalks 54 = .ok (.invokevirtual 75, 3) := by decide +kernel
theorem dX1_findFirstWalks_57 : decode cX1_findFirstWalks 57 = .ok (.istore 4, 2) := by decide +kernel
theorem dX1_findFirstWalks_59 : decode cX1_findFirstWalks 59 = .ok (.aload_n 0, 1) := by decide +kernel
theorem dX1_findFirstWalks_60 : decode cX1_findFirstWalks 60 = .ok (.getfield 15, 3) := by decide +kernel
theorem dX1_findFirstWalks_63 : decode cX1_findFirstWalks 63 = .ok (.iload 4, 2) := by decide +kernel
theorem dX1_findFirstWalks_65 : decode cX1_findFirstWalks 65 = .ok (.aload_n 0, 1) := by decide +kernel
theorem dX1_findFirstWalks_66 : decode cX1_findFirstWalks 66 = .ok (.getfield 15, 3) := by decide +kernel
theorem dX1_findFirstWalks_69 : decode cX1_findFirstWalks 69 = .ok (.iload 4, 2) := by decide +kernel
theorem dX1_findFirstWalks_71 : decode cX1_findFirstWalks 71 = .ok (.iaload, 1) := by decide +kernel
theorem dX1_findFirstWalks_72 : decode cX1_findFirstWalks 72 = .ok (.iload_n 3, 1) := by decide +kernel
theorem dX1_findFirstWalks_73 : decode cX1_findFirstWalks 73 = .ok (.invokestatic 64, 3) := by decide +kernel
theorem dX1_findFirstWalks_76 : decode cX1_findFirstWalks 76 = .ok (.iastore, 1) := by decide +kernel
theorem dX1_findFirstWalks_77 : decode cX1_findFirstWalks 77 = .ok (.iinc 3 1, 3) := by decide +kernel
theorem dX1_findFirstWalks_80 : decode cX1_findFirstWalks 80 = .ok (.goto (-43), 3) := by decide +kernel
theorem dX1_findFirstWalks_83 : decode cX1_findFirstWalks 83 = .ok (.return_, 1) := by decide +kernel
theorem dX1_walkOut_0 : decode cX1_walkOut 0 = .ok (.iload_n 2, 1) := by decide +kernel
theorem dX1_walkOut_1 : decode cX1_walkOut 1 = .ok (.istore 4, 2) := by decide +kernel
theorem dX1_walkOut_3 : decode cX1_walkOut 3 = .ok (.bipush (-9), 2) := by decide +kernel
theorem dX1_walkOut_5 : decode cX1_walkOut 5 = .ok (.istore 5, 2) := by decide +kernel
theorem dX1_walkOut_7 : decode cX1_walkOut 7 = .ok (.iconst 1, 1) := by decide +kernel
theorem dX1_walkOut_8 : decode cX1_walkOut 8 = .ok (.istore 6, 2) := by decide +kernel
theorem dX1_walkOut_10 : decode cX1_walkOut 10 = .ok (.iload_n 3, 1) := by decide +kernel
theorem dX1_walkOut_11 : decode cX1_walkOut 11 = .ok (.iconst 1, 1) := by decide +kernel
theorem dX1_walkOut_12 : decode cX1_walkOut 12 = .ok (.isub, 1) := by decide +kernel
theorem dX1_walkOut_13 : decode cX1_walkOut 13 = .ok (.istore 7, 2) := by decide +kernel
theorem dX1_walkOut_15 : decode cX1_walkOut 15 = .ok (.iload 7, 2) := by decide +kernel
theorem dX1_walkOut_17 : decode cX1_walkOut 17 = .ok (.ifCond .lt 111, 3) := by decide +kernel
theorem dX1_walkOut_20 : decode cX1_walkOut 20 = .ok (.aload_n 0, 1) := by decide +kernel
theorem dX1_walkOut_21 : decode cX1_walkOut 21 = .ok (.getfield 21, 3) := by decide +kernel
theorem dX1_walkOut_24 : decode cX1_walkOut 24 = .ok (.getfield 37, 3) := by decide +kernel
theorem dX1_walkOut_27 : decode cX1_walkOut 27 = .ok (.ifCond .le 16, 3) := by decide +kernel
theorem dX1_walkOut_30 : decode cX1_walkOut 30 = .ok (.iload 4, 2) := by decide +kernel
theorem dX1_walkOut_32 : decode cX1_walkOut 32 = .ok (.aload_n 0, 1) := by decide +kernel
theorem dX1_walkOut_33 : decode cX1_walkOut 33 = .ok (.getfield 21, 3) := by decide +kernel
theorem dX1_walkOut_36 : decode cX1_walkOut 36 = .ok (.getfield 37, 3) := by decide +kernel
theorem dX1_walkOut_39 : decode cX1_walkOut 39 = .ok (.irem, 1) := by decide +kernel
theorem dX1_walkOut_40 : decode cX1_walkOut 40 = .ok (.goto 4, 3) := by decide +kernel
theorem dX1_walkOut_43 : decode cX1_walkOut 43 = .ok (.iconst 0, 1) := by decide +kernel
theorem dX1_walkOut_44 : decode cX1_walkOut 44 = .ok (.istore 8, 2) := by decide +kernel
theorem dX1_walkOut_46 : decode cX1_walkOut 46 = .ok (.aload_n 0, 1) := by decide +kernel
theorem dX1_walkOut_47 : decode cX1_walkOut 47 = .ok (.getfield 21, 3) := by decide +kernel
theorem dX1_walkOut_50 : decode cX1_walkOut 50 = .ok (.getfield 37, 3) := by decide +kernel
theorem dX1_walkOut_53 : decode cX1_walkOut 53 = .ok (.ifCond .le 16, 3) := by decide +kernel
theorem dX1_walkOut_56 : decode cX1_walkOut 56 = .ok (.iload 4, 2) := by decide +kernel
theorem dX1_walkOut_58 : decode cX1_walkOut 58 = .ok (.aload_n 0, 1) := by decide +kernel
theorem dX1_walkOut_59 : decode cX1_walkOut 59 = .ok (.getfield 21, 3) := by decide +kernel
theorem dX1_walkOut_62 : decode cX1_walkOut 62 = .ok (.getfield 37, 3) := by decide +kernel
theorem dX1_walkOut_65 : decode cX1_walkOut 65 = .ok (.idiv, 1) := by decide +kernel
theorem dX1_walkOut_66 : decode cX1_walkOut 66 = .ok (.goto 4, 3) := by decide +kernel
theorem dX1_walkOut_69 : decode cX1_walkOut 69 = .ok (.iconst 0, 1) := by decide +kernel
theorem dX1_walkOut_70 : decode cX1_walkOut 70 = .ok (.istore 4, 2) := by decide +kernel
theorem dX1_walkOut_72 : decode cX1_walkOut 72 = .ok (.aload_n 0, 1) := by decide +kernel
theorem dX1_walkOut_73 : decode cX1_walkOut 73 = .ok (.getfield 18, 3) := by decide +kernel
theorem dX1_walkOut_76 : decode cX1_walkOut 76 = .ok (.iload_n 1, 1) := by decide +kernel
theorem dX1_walkOut_77 : decode cX1_walkOut 77 = .ok (.iconst 3, 1) := by decide +kernel
theorem dX1_walkOut_78 : decode cX1_walkOut 78 = .ok (.imul, 1) := by decide +kernel
theorem dX1_walkOut_79 : decode cX1_walkOut 79 = .ok (.iload 7, 2) := by decide +kernel
theorem dX1_walkOut_81 : decode cX1_walkOut 81 = .ok (.iadd, 1) := by decide +kernel
theorem dX1_walkOut_82 : decode cX1_walkOut 82 = .ok (.iload 8, 2) := by decide +kernel
theorem dX1_walkOut_84 : decode cX1_walkOut 84 = .ok (.iastore, 1) := by decide +kernel
theorem dX1_walkOut_85 : decode cX1_walkOut 85 = .ok (.iload 6, 2) := by decide +kernel
theorem dX1_walkOut_87 : decode cX1_walkOut 87 = .ok (.ifCond .eq 28, 3) := by decide +kernel
theorem dX1_walkOut_90 : decode cX1_walkOut 90 = .ok (.iload 5, 2) := by decide +kernel
theorem dX1_walkOut_92 : decode cX1_walkOut 92 = .ok (.bipush (-9), 2) := by decide +kernel
theorem dX1_walkOut_94 : decode cX1_walkOut 94 = .ok (.if_icmp .eq 17, 3) := by decide +kernel
theorem dX1_walkOut_97 : decode cX1_walkOut 97 = .ok (.aload_n 0, 1) := by decide +kernel
theorem dX1_walkOut_98 : decode cX1_walkOut 98 = .ok (.getfield 21, 3) := by decide +kernel
theorem dX1_walkOut_101 : decode cX1_walkOut 101 = .ok (.iload 8, 2) := by decide +kernel
theorem dX1_walkOut_103 : decode cX1_walkOut 103 = .ok (.iload 5, 2) := by decide +kernel
theorem dX1_walkOut_105 : decode cX1_walkOut 105 = .ok (.invokevirtual 78, 3) := by decide +kernel
theorem dX1_walkOut_108 : decode cX1_walkOut 108 = .ok (.ifCond .eq 7, 3) := by decide +kernel
theorem dX1_walkOut_111 : decode cX1_walkOut 111 = .ok (.iconst 1, 1) := by decide +kernel
theorem dX1_walkOut_112 : decode cX1_walkOut 112 = .ok (.goto 4, 3) := by decide +kernel
theorem dX1_walkOut_115 : decode cX1_walkOut 115 = .ok (.iconst 0, 1) := by decide +kernel
theorem dX1_walkOut_116 : decode cX1_walkOut 116 = .ok (.istore 6, 2) := by decide +kernel
theorem dX1_walkOut_118 : decode cX1_walkOut 118 = .ok (.iload 8, 2) := by decide +kernel
theorem dX1_walkOut_120 : decode cX1_walkOut 120 = .ok (.istore 5, 2) := by decide +kernel
theorem dX1_walkOut_122 : decode cX1_walkOut 122 = .ok (.iinc 7 (-1), 3) := by decide +kernel
theorem dX1_walkOut_125 : decode cX1_walkOut 125 = .ok (.goto (-110), 3) := by decide +kernel
theorem dX1_walkOut_128 : decode cX1_walkOut 128 = .ok (.iload 6, 2) := by decide +kernel
theorem dX1_walkOut_130 : decode cX1_walkOut 130 = .ok (.ireturn, 1) := by decide +kernel
theorem dX1_kindWalked_0 : decode cX1_kindWalked 0 = .ok (.iconst 0, 1) := by decide +kernel
theorem dX1_kindWalked_1 : decode cX1_kindWalked 1 = .ok (.istore_n 2, 1) := by decide +kernel
theorem dX1_kindWalked_2 : decode cX1_kindWalked 2 = .ok (.iload_n 2, 1) := by decide +kernel
theorem dX1_kindWalked_3 : decode cX1_kindWalked 3 = .ok (.iload_n 1, 1) := by decide +kernel
theorem dX1_kindWalked_4 : decode cX1_kindWalked 4 = .ok (.if_icmp .ge 32, 3) := by decide +kernel
theorem dX1_kindWalked_7 : decode cX1_kindWalked 7 = .ok (.aload_n 0, 1) := by decide +kernel
theorem dX1_kindWalked_8 : decode cX1_kindWalked 8 = .ok (.iconst 0, 1) := by decide +kernel
theorem dX1_kindWalked_9 : decode cX1_kindWalked 9 = .ok (.iload_n 2, 1) := by decide +kernel
theorem dX1_kindWalked_10 : decode cX1_kindWalked 10 = .ok (.invokevirtual 82, 3) := by decide +kernel
theorem dX1_kindWalked_13 : decode cX1_kindWalked 13 = .ok (.istore_n 3, 1) := by decide +kernel
theorem dX1_kindWalked_14 : decode cX1_kindWalked 14 = .ok (.aload_n 0, 1) := by decide +kernel
theorem dX1_kindWalked_15 : decode cX1_kindWalked 15 = .ok (.getfield 9, 3) := by decide +kernel
theorem dX1_kindWalked_18 : decode cX1_kindWalked 18 = .ok (.iload_n 3, 1) := by decide +kernel
theorem dX1_kindWalked_19 : decode cX1_kindWalked 19 = .ok (.iaload, 1) := by decide +kernel
theorem dX1_kindWalked_20 : decode cX1_kindWalked 20 = .ok (.ifCond .le 10, 3) := by decide +kernel
theorem dX1_kindWalked_23 : decode cX1_kindWalked 23 = .ok (.iload_n 2, 1) := by decide +kernel
theorem dX1_kindWalked_24 : decode cX1_kindWalked 24 = .ok (.bipush 8, 2) := by decide +kernel
theorem dX1_kindWalked_26 : decode cX1_kindWalked 26 = .ok (.imul, 1) := by decide +kernel
theorem dX1_kindWalked_27 : decode cX1_kindWalked 27 = .ok (.iload_n 3, 1) := by decide +kernel
theorem dX1_kindWalked_28 : decode cX1_kindWalked 28 = .ok (.iadd, 1) := by decide +kernel
theorem dX1_kindWalked_29 : decode cX1_kindWalked 29 = .ok (.ireturn, 1) := by decide +kernel
theorem dX1_kindWalked_30 : decode cX1_kindWalked 30 = .ok (.iinc 2 1, 3) := by decide +kernel
theorem dX1_kindWalked_33 : decode cX1_kindWalked 33 = .ok (.goto (-31), 3) := by decide +kernel
theorem dX1_kindWalked_36 : decode cX1_kindWalked 36 = .ok (.bipush 24, 2) := by decide +kernel
theorem dX1_kindWalked_38 : decode cX1_kindWalked 38 = .ok (.ireturn, 1) := by decide +kernel
theorem dX2_init_0 : decode cX2_init 0 = .ok (.aload_n 0, 1) := by decide +kernel
theorem dX2_init_1 : decode cX2_init 1 = .ok (.invokespecial 3, 3) := by decide +kernel
theorem dX2_init_4 : decode cX2_init 4 = .ok (.return_, 1) := by decide +kernel
theorem dX2_begin_0 : decode cX2_begin 0 = .ok (.aload_n 0, 1) := by decide +kernel
theorem dX2_begin_1 : decode cX2_begin 1 = .ok (.iload_n 1, 1) := by decide +kernel
theorem dX2_begin_2 : decode cX2_begin 2 = .ok (.putfield 9, 3) := by decide +kernel
theorem dX2_begin_5 : decode cX2_begin 5 = .ok (.aload_n 0, 1) := by decide +kernel
theorem dX2_begin_6 : decode cX2_begin 6 = .ok (.iload_n 2, 1) := by decide +kernel
theorem dX2_begin_7 : decode cX2_begin 7 = .ok (.putfield 15, 3) := by decide +kernel
theorem dX2_begin_10 : decode cX2_begin 10 = .ok (.aload_n 0, 1) := by decide +kernel
theorem dX2_begin_11 : decode cX2_begin 11 = .ok (.iconst 0, 1) := by decide +kernel
theorem dX2_begin_12 : decode cX2_begin 12 = .ok (.putfield 18, 3) := by decide +kernel
theorem dX2_begin_15 : decode cX2_begin 15 = .ok (.aload_n 0, 1) := by decide +kernel
theorem dX2_begin_16 : decode cX2_begin 16 = .ok (.iconst 0, 1) := by decide +kernel
theorem dX2_begin_17 : decode cX2_begin 17 = .ok (.putfield 21, 3) := by decide +kernel
theorem dX2_begin_20 : decode cX2_begin 20 = .ok (.return_, 1) := by decide +kernel
theorem dX2_addCrew_0 : decode cX2_addCrew 0 = .ok (.aload_n 0, 1) := by decide +kernel
theorem dX2_addCrew_1 : decode cX2_addCrew 1 = .ok (.dup, 1) := by decide +kernel
theorem dX2_addCrew_2 : decode cX2_addCrew 2 = .ok (.getfield 9, 3) := by decide +kernel
theorem dX2_addCrew_5 : decode cX2_addCrew 5 = .ok (.iload_n 1, 1) := by decide +kernel
theorem dX2_addCrew_6 : decode cX2_addCrew 6 = .ok (.iadd, 1) := by decide +kernel
theorem dX2_addCrew_7 : decode cX2_addCrew 7 = .ok (.putfield 9, 3) := by decide +kernel
theorem dX2_addCrew_10 : decode cX2_addCrew 10 = .ok (.aload_n 0, 1) := by decide +kernel
theorem dX2_addCrew_11 : decode cX2_addCrew 11 = .ok (.dup, 1) := by decide +kernel
theorem dX2_addCrew_12 : decode cX2_addCrew 12 = .ok (.getfield 15, 3) := by decide +kernel
theorem dX2_addCrew_15 : decode cX2_addCrew 15 = .ok (.iload_n 2, 1) := by decide +kernel
theorem dX2_addCrew_16 : decode cX2_addCrew 16 = .ok (.iadd, 1) := by decide +kernel
theorem dX2_addCrew_17 : decode cX2_addCrew 17 = .ok (.putfield 15, 3) := by decide +kernel
theorem dX2_addCrew_20 : decode cX2_addCrew 20 = .ok (.return_, 1) := by decide +kernel
theorem dX2_addSpare_0 : decode cX2_addSpare 0 = .ok (.aload_n 0, 1) := by decide +kernel
theorem dX2_addSpare_1 : decode cX2_addSpare 1 = .ok (.dup, 1) := by decide +kernel
theorem dX2_addSpare_2 : decode cX2_addSpare 2 = .ok (.getfield 18, 3) := by decide +kernel
theorem dX2_addSpare_5 : decode cX2_addSpare 5 = .ok (.iload_n 1, 1) := by decide +kernel
theorem dX2_addSpare_6 : decode cX2_addSpare 6 = .ok (.iadd, 1) := by decide +kernel
theorem dX2_addSpare_7 : decode cX2_addSpare 7 = .ok (.putfield 18, 3) := by decide +kernel
theorem dX2_addSpare_10 : decode cX2_addSpare 10 = .ok (.aload_n 0, 1) := by decide +kernel
theorem dX2_addSpare_11 : decode cX2_addSpare 11 = .ok (.dup, 1) := by decide +kernel
theorem dX2_addSpare_12 : decode cX2_addSpare 12 = .ok (.getfield 21, 3) := by decide +kernel
theorem dX2_addSpare_15 : decode cX2_addSpare 15 = .ok (.iload_n 1, 1) := by decide +kernel
theorem dX2_addSpare_16 : decode cX2_addSpare 16 = .ok (.iload_n 2, 1) := by decide +kernel
theorem dX2_addSpare_17 : decode cX2_addSpare 17 = .ok (.invokestatic 24, 3) := by decide +kernel
theorem dX2_addSpare_20 : decode cX2_addSpare 20 = .ok (.iadd, 1) := by decide +kernel
theorem dX2_addSpare_21 : decode cX2_addSpare 21 = .ok (.putfield 21, 3) := by decide +kernel
theorem dX2_addSpare_24 : decode cX2_addSpare 24 = .ok (.return_, 1) := by decide +kernel
theorem dX2_leastFor_0 : decode cX2_leastFor 0 = .ok (.iconst 0, 1) := by decide +kernel
theorem dX2_leastFor_1 : decode cX2_leastFor 1 = .ok (.iload_n 2, 1) := by decide +kernel
theorem dX2_leastFor_2 : decode cX2_leastFor 2 = .ok (.aload_n 0, 1) := by decide +kernel
theorem dX2_leastFor_3 : decode cX2_leastFor 3 = .ok (.getfield 15, 3) := by decide +kernel
theorem dX2_leastFor_6 : decode cX2_leastFor 6 = .ok (.isub, 1) := by decide +kernel
theorem dX2_leastFor_7 : decode cX2_leastFor 7 = .ok (.invokestatic 30, 3) := by decide +kernel
theorem dX2_leastFor_10 : decode cX2_leastFor 10 = .ok (.istore_n 3, 1) := by decide +kernel
theorem dX2_leastFor_11 : decode cX2_leastFor 11 = .ok (.iload_n 3, 1) := by decide +kernel
theorem dX2_leastFor_12 : decode cX2_leastFor 12 = .ok (.iload_n 1, 1) := by decide +kernel
theorem dX2_leastFor_13 : decode cX2_leastFor 13 = .ok (.aload_n 0, 1) := by decide +kernel
theorem dX2_leastFor_14 : decode cX2_leastFor 14 = .ok (.getfield 9, 3) := by decide +kernel
theorem dX2_leastFor_17 : decode cX2_leastFor 17 = .ok (.isub, 1) := by decide +kernel
theorem dX2_leastFor_18 : decode cX2_leastFor 18 = .ok (.invokestatic 30, 3) := by decide +kernel
theorem dX2_leastFor_21 : decode cX2_leastFor 21 = .ok (.istore 4, 2) := by decide +kernel
theorem dX2_leastFor_23 : decode cX2_leastFor 23 = .ok (.iload_n 3, 1) := by decide +kernel
theorem dX2_leastFor_24 : decode cX2_leastFor 24 = .ok (.aload_n 0, 1) := by decide +kernel
theorem dX2_leastFor_25 : decode cX2_leastFor 25 = .ok (.getfield 21, 3) := by decide +kernel
theorem dX2_leastFor_28 : decode cX2_leastFor 28 = .ok (.if_icmp .gt 17, 3) := by decide +kernel
theorem dX2_leastFor_31 : decode cX2_leastFor 31 = .ok (.iload 4, 2) := by decide +kernel
theorem dX2_leastFor_33 : decode cX2_leastFor 33 = .ok (.aload_n 0, 1) := by decide +kernel
theorem dX2_leastFor_34 : decode cX2_leastFor 34 = .ok (.getfield 18, 3) := by decide +kernel
theorem dX2_leastFor_37 : decode cX2_leastFor 37 = .ok (.if_icmp .gt 8, 3) := by decide +kernel
theorem dX2_leastFor_40 : decode cX2_leastFor 40 = .ok (.iload 4, 2) := by decide +kernel
theorem dX2_leastFor_42 : decode cX2_leastFor 42 = .ok (.goto 5, 3) := by decide +kernel
theorem dX2_leastFor_45 : decode cX2_leastFor 45 = .ok (.bipush (-9), 2) := by decide +kernel
theorem dX2_leastFor_47 : decode cX2_leastFor 47 = .ok (.ireturn, 1) := by decide +kernel
theorem dX3_init_0 : decode cX3_init 0 = .ok (.aload_n 0, 1) := by decide +kernel
theorem dX3_init_1 : decode cX3_init 1 = .ok (.invokespecial 3, 3) := by decide +kernel
theorem dX3_init_4 : decode cX3_init 4 = .ok (.aload_n 0, 1) := by decide +kernel
theorem dX3_init_5 : decode cX3_init 5 = .ok (.iconst 4, 1) := by decide +kernel
theorem dX3_init_6 : decode cX3_init 6 = .ok (.newarray .int, 2) := by decide +kernel
theorem dX3_init_8 : decode cX3_init 8 = .ok (.putfield 9, 3) := by decide +kernel
theorem dX3_init_11 : decode cX3_init 11 = .ok (.aload_n 0, 1) := by decide +kernel
theorem dX3_init_12 : decode cX3_init 12 = .ok (.iconst 4, 1) := by decide +kernel
theorem dX3_init_13 : decode cX3_init 13 = .ok (.newarray .int, 2) := by decide +kernel
theorem dX3_init_15 : decode cX3_init 15 = .ok (.putfield 15, 3) := by decide +kernel
theorem dX3_init_18 : decode cX3_init 18 = .ok (.aload_n 0, 1) := by decide +kernel
theorem dX3_init_19 : decode cX3_init 19 = .ok (.iload_n 1, 1) := by decide +kernel
theorem dX3_init_20 : decode cX3_init 20 = .ok (.putfield 18, 3) := by decide +kernel
theorem dX3_init_23 : decode cX3_init 23 = .ok (.aload_n 0, 1) := by decide +kernel
theorem dX3_init_24 : decode cX3_init 24 = .ok (.iload_n 2, 1) := by decide +kernel
theorem dX3_init_25 : decode cX3_init 25 = .ok (.putfield 22, 3) := by decide +kernel
theorem dX3_init_28 : decode cX3_init 28 = .ok (.aload_n 0, 1) := by decide +kernel
theorem dX3_init_29 : decode cX3_init 29 = .ok (.iload_n 3, 1) := by decide +kernel
theorem dX3_init_30 : decode cX3_init 30 = .ok (.putfield 25, 3) := by decide +kernel
theorem dX3_init_33 : decode cX3_init 33 = .ok (.aload_n 0, 1) := by decide +kernel
theorem dX3_init_34 : decode cX3_init 34 = .ok (.iload 4, 2) := by decide +kernel
theorem dX3_init_36 : decode cX3_init 36 = .ok (.putfield 28, 3) := by decide +kernel
theorem dX3_init_39 : decode cX3_init 39 = .ok (.aload_n 0, 1) := by decide +kernel
theorem dX3_init_40 : decode cX3_init 40 = .ok (.iload 5, 2) := by decide +kernel
theorem dX3_init_42 : decode cX3_init 42 = .ok (.putfield 31, 3) := by decide +kernel
theorem dX3_init_45 : decode cX3_init 45 = .ok (.aload_n 0, 1) := by decide +kernel
theorem dX3_init_46 : decode cX3_init 46 = .ok (.iload 6, 2) := by decide +kernel
theorem dX3_init_48 : decode cX3_init 48 = .ok (.putfield 34, 3) := by decide +kernel
theorem dX3_init_51 : decode cX3_init 51 = .ok (.aload_n 0, 1) := by decide +kernel
theorem dX3_init_52 : decode cX3_init 52 = .ok (.iload 7, 2) := by decide +kernel
theorem dX3_init_54 : decode cX3_init 54 = .ok (.putfield 37, 3) := by decide +kernel
theorem dX3_init_57 : decode cX3_init 57 = .ok (.aload_n 0, 1) := by decide +kernel
theorem dX3_init_58 : decode cX3_init 58 = .ok (.iload 7, 2) := by decide +kernel
theorem dX3_init_60 : decode cX3_init 60 = .ok (.putfield 40, 3) := by decide +kernel
theorem dX3_init_63 : decode cX3_init 63 = .ok (.return_, 1) := by decide +kernel
theorem dX3_isSeaman_0 : decode cX3_isSeaman 0 = .ok (.aload_n 0, 1) := by decide +kernel
theorem dX3_isSeaman_1 : decode cX3_isSeaman 1 = .ok (.getfield 34, 3) := by decide +kernel
theorem dX3_isSeaman_4 : decode cX3_isSeaman 4 = .ok (.iconst 3, 1) := by decide +kernel
theorem dX3_isSeaman_5 : decode cX3_isSeaman 5 = .ok (.if_icmp .lt 7, 3) := by decide +kernel
theorem dX3_isSeaman_8 : decode cX3_isSeaman 8 = .ok (.iconst 1, 1) := by decide +kernel
theorem dX3_isSeaman_9 : decode cX3_isSeaman 9 = .ok (.goto 4, 3) := by decide +kernel
theorem dX3_isSeaman_12 : decode cX3_isSeaman 12 = .ok (.iconst 0, 1) := by decide +kernel
theorem dX3_isSeaman_13 : decode cX3_isSeaman 13 = .ok (.ireturn, 1) := by decide +kernel
theorem dX3_goTo_0 : decode cX3_goTo 0 = .ok (.aload_n 0, 1) := by decide +kernel
theorem dX3_goTo_1 : decode cX3_goTo 1 = .ok (.getfield 40, 3) := by decide +kernel
theorem dX3_goTo_4 : decode cX3_goTo 4 = .ok (.istore_n 3, 1) := by decide +kernel
theorem dX3_goTo_5 : decode cX3_goTo 5 = .ok (.aload_n 0, 1) := by decide +kernel
theorem dX3_goTo_6 : decode cX3_goTo 6 = .ok (.iload_n 1, 1) := by decide +kernel
theorem dX3_goTo_7 : decode cX3_goTo 7 = .ok (.putfield 40, 3) := by decide +kernel
theorem dX3_goTo_10 : decode cX3_goTo 10 = .ok (.aload_n 0, 1) := by decide +kernel
theorem dX3_goTo_11 : decode cX3_goTo 11 = .ok (.getfield 43, 3) := by decide +kernel
theorem dX3_goTo_14 : decode cX3_goTo 14 = .ok (.ifCond .eq 18, 3) := by decide +kernel
theorem dX3_goTo_17 : decode cX3_goTo 17 = .ok (.aload_n 0, 1) := by decide +kernel
theorem dX3_goTo_18 : decode cX3_goTo 18 = .ok (.getfield 9, 3) := by decide +kernel
theorem dX3_goTo_21 : decode cX3_goTo 21 = .ok (.aload_n 0, 1) := by decide +kernel
theorem dX3_goTo_22 : decode cX3_goTo 22 = .ok (.getfield 43, 3) := by decide +kernel
theorem dX3_goTo_25 : decode cX3_goTo 25 = .ok (.iconst 1, 1) := by decide +kernel
theorem dX3_goTo_26 : decode cX3_goTo 26 = .ok (.isub, 1) := by decide +kernel
theorem dX3_goTo_27 : decode cX3_goTo 27 = .ok (.iaload, 1) := by decide +kernel
theorem dX3_goTo_28 : decode cX3_goTo 28 = .ok (.iload_n 2, 1) := by decide +kernel
theorem dX3_goTo_29 : decode cX3_goTo 29 = .ok (.if_icmp .eq 27, 3) := by decide +kernel
theorem dX3_goTo_32 : decode cX3_goTo 32 = .ok (.aload_n 0, 1) := by decide +kernel
theorem dX3_goTo_33 : decode cX3_goTo 33 = .ok (.invokevirtual 46, 3) := by decide +kernel
theorem dX3_goTo_36 : decode cX3_goTo 36 = .ok (.aload_n 0, 1) := by decide +kernel
theorem dX3_goTo_37 : decode cX3_goTo 37 = .ok (.getfield 9, 3) := by decide +kernel
theorem dX3_goTo_40 : decode cX3_goTo 40 = .ok (.aload_n 0, 1) := by decide +kernel
theorem dX3_goTo_41 : decode cX3_goTo 41 = .ok (.getfield 43, 3) := by decide +kernel
theorem dX3_goTo_44 : decode cX3_goTo 44 = .ok (.iload_n 2, 1) := by decide +kernel
theorem dX3_goTo_45 : decode cX3_goTo 45 = .ok (.iastore, 1) := by decide +kernel
theorem dX3_goTo_46 : decode cX3_goTo 46 = .ok (.aload_n 0, 1) := by decide +kernel
theorem dX3_goTo_47 : decode cX3_goTo 47 = .ok (.dup, 1) := by decide +kernel
theorem dX3_goTo_48 : decode cX3_goTo 48 = .ok (.getfield 43, 3) := by decide +kernel
theorem dX3_goTo_51 : decode cX3_goTo 51 = .ok (.iconst 1, 1) := by decide +kernel
theorem dX3_goTo_52 : decode cX3_goTo 52 = .ok (.iadd, 1) := by decide +kernel
theorem dX3_goTo_53 : decode cX3_goTo 53 = .ok (.putfield 43, 3) := by decide +kernel
theorem dX3_goTo_56 : decode cX3_goTo 56 = .ok (.aload_n 0, 1) := by decide +kernel
theorem dX3_goTo_57 : decode cX3_goTo 57 = .ok (.getfield 15, 3) := by decide +kernel
theorem dX3_goTo_60 : decode cX3_goTo 60 = .ok (.aload_n 0, 1) := by decide +kernel
theorem dX3_goTo_61 : decode cX3_goTo 61 = .ok (.getfield 43, 3) := by decide +kernel
theorem dX3_goTo_64 : decode cX3_goTo 64 = .ok (.iconst 1, 1) := by decide +kernel
theorem dX3_goTo_65 : decode cX3_goTo 65 = .ok (.isub, 1) := by decide +kernel
theorem dX3_goTo_66 : decode cX3_goTo 66 = .ok (.iload_n 1, 1) := by decide +kernel
theorem dX3_goTo_67 : decode cX3_goTo 67 = .ok (.iastore, 1) := by decide +kernel
theorem dX3_goTo_68 : decode cX3_goTo 68 = .ok (.iload_n 3, 1) := by decide +kernel
theorem dX3_goTo_69 : decode cX3_goTo 69 = .ok (.ireturn, 1) := by decide +kernel
theorem dX3_makeRoom_0 : decode cX3_makeRoom 0 = .ok (.aload_n 0, 1) := by decide +kernel
theorem dX3_makeRoom_1 : decode cX3_makeRoom 1 = .ok (.getfield 43, 3) := by decide +kernel
theorem dX3_makeRoom_4 : decode cX3_makeRoom 4 = .ok (.aload_n 0, 1) := by decide +kernel
theorem dX3_makeRoom_5 : decode cX3_makeRoom 5 = .ok (.getfield 9, 3) := by decide +kernel
theorem dX3_makeRoom_8 : decode cX3_makeRoom 8 = .ok (.arraylength, 1) := by decide +kernel
theorem dX3_makeRoom_9 : decode cX3_makeRoom 9 = .ok (.if_icmp .lt 37, 3) := by decide +kernel
theorem dX3_makeRoom_12 : decode cX3_makeRoom 12 = .ok (.aload_n 0, 1) := by decide +kernel
theorem dX3_makeRoom_13 : decode cX3_makeRoom 13 = .ok (.aload_n 0, 1) := by decide +kernel
theorem dX3_makeRoom_14 : decode cX3_makeRoom 14 = .ok (.getfield 9, 3) := by decide +kernel
theorem dX3_makeRoom_17 : decode cX3_makeRoom 17 = .ok (.aload_n 0, 1) := by decide +kernel
theorem dX3_makeRoom_18 : decode cX3_makeRoom 18 = .ok (.getfield 43, 3) := by decide +kernel
theorem dX3_makeRoom_21 : decode cX3_makeRoom 21 = .ok (.iconst 2, 1) := by decide +kernel
theorem dX3_makeRoom_22 : decode cX3_makeRoom 22 = .ok (.imul, 1) := by decide +kernel
theorem dX3_makeRoom_23 : decode cX3_makeRoom 23 = .ok (.invokestatic 49, 3) := by decide +kernel
theorem dX3_makeRoom_26 : decode cX3_makeRoom 26 = .ok (.putfield 9, 3) := by decide +kernel
theorem dX3_makeRoom_29 : decode cX3_makeRoom 29 = .ok (.aload_n 0, 1) := by decide +kernel
theorem dX3_makeRoom_30 : decode cX3_makeRoom 30 = .ok (.aload_n 0, 1) := by decide +kernel
theorem dX3_makeRoom_31 : decode cX3_makeRoom 31 = .ok (.getfield 15, 3) := by decide +kernel
theorem dX3_makeRoom_34 : decode cX3_makeRoom 34 = .ok (.aload_n 0, 1) := by decide +kernel
theorem dX3_makeRoom_35 : decode cX3_makeRoom 35 = .ok (.getfield 43, 3) := by decide +kernel
theorem dX3_makeRoom_38 : decode cX3_makeRoom 38 = .ok (.iconst 2, 1) := by decide +kernel
theorem dX3_makeRoom_39 : decode cX3_makeRoom 39 = .ok (.imul, 1) := by decide +kernel
theorem dX3_makeRoom_40 : decode cX3_makeRoom 40 = .ok (.invokestatic 49, 3) := by decide +kernel
theorem dX3_makeRoom_43 : decode cX3_makeRoom 43 = .ok (.putfield 15, 3) := by decide +kernel
theorem dX3_makeRoom_46 : decode cX3_makeRoom 46 = .ok (.return_, 1) := by decide +kernel
theorem dX3_lastMoved_0 : decode cX3_lastMoved 0 = .ok (.aload_n 0, 1) := by decide +kernel
theorem dX3_lastMoved_1 : decode cX3_lastMoved 1 = .ok (.getfield 43, 3) := by decide +kernel
theorem dX3_lastMoved_4 : decode cX3_lastMoved 4 = .ok (.ifCond .ne 8, 3) := by decide +kernel
theorem dX3_lastMoved_7 : decode cX3_lastMoved 7 = .ok (.bipush (-9), 2) := by decide +kernel
theorem dX3_lastMoved_9 : decode cX3_lastMoved 9 = .ok (.goto 14, 3) := by decide +kernel
theorem dX3_lastMoved_12 : decode cX3_lastMoved 12 = .ok (.aload_n 0, 1) := by decide +kernel
theorem dX3_lastMoved_13 : decode cX3_lastMoved 13 = .ok (.getfield 9, 3) := by decide +kernel
theorem dX3_lastMoved_16 : decode cX3_lastMoved 16 = .ok (.aload_n 0, 1) := by decide +kernel
theorem dX3_lastMoved_17 : decode cX3_lastMoved 17 = .ok (.getfield 43, 3) := by decide +kernel
theorem dX3_lastMoved_20 : decode cX3_lastMoved 20 = .ok (.iconst 1, 1) := by decide +kernel
theorem dX3_lastMoved_21 : decode cX3_lastMoved 21 = .ok (.isub, 1) := by decide +kernel
theorem dX3_lastMoved_22 : decode cX3_lastMoved 22 = .ok (.iaload, 1) := by decide +kernel
theorem dX3_lastMoved_23 : decode cX3_lastMoved 23 = .ok (.ireturn, 1) := by decide +kernel
theorem dX3_moveAsOf_0 : decode cX3_moveAsOf 0 = .ok (.aload_n 0, 1) := by decide +kernel
theorem dX3_moveAsOf_1 : decode cX3_moveAsOf 1 = .ok (.getfield 43, 3) := by decide +kernel
theorem dX3_moveAsOf_4 : decode cX3_moveAsOf 4 = .ok (.iconst 1, 1) := by decide +kernel
theorem dX3_moveAsOf_5 : decode cX3_moveAsOf 5 = .ok (.isub, 1) := by decide +kernel
theorem dX3_moveAsOf_6 : decode cX3_moveAsOf 6 = .ok (.istore_n 2, 1) := by decide +kernel
theorem dX3_moveAsOf_7 : decode cX3_moveAsOf 7 = .ok (.iload_n 2, 1) := by decide +kernel
theorem dX3_moveAsOf_8 : decode cX3_moveAsOf 8 = .ok (.ifCond .lt 19, 3) := by decide +kernel
theorem dX3_moveAsOf_11 : decode cX3_moveAsOf 11 = .ok (.aload_n 0, 1) := by decide +kernel
theorem dX3_moveAsOf_12 : decode cX3_moveAsOf 12 = .ok (.getfield 9, 3) := by decide +kernel
theorem dX3_moveAsOf_15 : decode cX3_moveAsOf 15 = .ok (.iload_n 2, 1) := by decide +kernel
theorem dX3_moveAsOf_16 : decode cX3_moveAsOf 16 = .ok (.iaload, 1) := by decide +kernel
theorem dX3_moveAsOf_17 : decode cX3_moveAsOf 17 = .ok (.iload_n 1, 1) := by decide +kernel
theorem dX3_moveAsOf_18 : decode cX3_moveAsOf 18 = .ok (.if_icmp .le 9, 3) := by decide +kernel
theorem dX3_moveAsOf_21 : decode cX3_moveAsOf 21 = .ok (.iinc 2 (-1), 3) := by decide +kernel
theorem dX3_moveAsOf_24 : decode cX3_moveAsOf 24 = .ok (.goto (-17), 3) := by decide +kernel
theorem dX3_moveAsOf_27 : decode cX3_moveAsOf 27 = .ok (.iload_n 2, 1) := by decide +kernel
theorem dX3_moveAsOf_28 : decode cX3_moveAsOf 28 = .ok (.ireturn, 1) := by decide +kernel
theorem dX3_placeAsOf_0 : decode cX3_placeAsOf 0 = .ok (.aload_n 0, 1) := by decide +kernel
theorem dX3_placeAsOf_1 : decode cX3_placeAsOf 1 = .ok (.iload_n 1, 1) := by decide +kernel
theorem dX3_placeAsOf_2 : decode cX3_placeAsOf 2 = .ok (.invokevirtual 55, 3) := by decide +kernel
theorem dX3_placeAsOf_5 : decode cX3_placeAsOf 5 = .ok (.istore_n 2, 1) := by decide +kernel
theorem dX3_placeAsOf_6 : decode cX3_placeAsOf 6 = .ok (.iload_n 2, 1) := by decide +kernel
theorem dX3_placeAsOf_7 : decode cX3_placeAsOf 7 = .ok (.ifCond .ge 10, 3) := by decide +kernel
theorem dX3_placeAsOf_10 : decode cX3_placeAsOf 10 = .ok (.aload_n 0, 1) := by decide +kernel
theorem dX3_placeAsOf_11 : decode cX3_placeAsOf 11 = .ok (.getfield 37, 3) := by decide +kernel
theorem dX3_placeAsOf_14 : decode cX3_placeAsOf 14 = .ok (.goto 9, 3) := by decide +kernel
theorem dX3_placeAsOf_17 : decode cX3_placeAsOf 17 = .ok (.aload_n 0, 1) := by decide +kernel
theorem dX3_placeAsOf_18 : decode cX3_placeAsOf 18 = .ok (.getfield 15, 3) := by decide +kernel
theorem dX3_placeAsOf_21 : decode cX3_placeAsOf 21 = .ok (.iload_n 2, 1) := by decide +kernel
theorem dX3_placeAsOf_22 : decode cX3_placeAsOf 22 = .ok (.iaload, 1) := by decide +kernel
theorem dX3_placeAsOf_23 : decode cX3_placeAsOf 23 = .ok (.ireturn, 1) := by decide +kernel
theorem dX3_tidesOffShore_0 : decode cX3_tidesOffShore 0 = .ok (.iload_n 1, 1) := by decide +kernel
theorem dX3_tidesOffShore_1 : decode cX3_tidesOffShore 1 = .ok (.istore_n 2, 1) := by decide +kernel
theorem dX3_tidesOffShore_2 : decode cX3_tidesOffShore 2 = .ok (.aload_n 0, 1) := by decide +kernel
theorem dX3_tidesOffShore_3 : decode cX3_tidesOffShore 3 = .ok (.iload_n 1, 1) := by decide +kernel
theorem dX3_tidesOffShore_4 : decode cX3_tidesOffShore 4 = .ok (.invokevirtual 55, 3) := by decide +kernel
theorem dX3_tidesOffShore_7 : decode cX3_tidesOffShore 7 = .ok (.istore_n 3, 1) := by decide +kernel
theorem dX3_tidesOffShore_8 : decode cX3_tidesOffShore 8 = .ok (.iload_n 3, 1) := by decide +kernel
theorem dX3_tidesOffShore_9 : decode cX3_tidesOffShore 9 = .ok (.ifCond .lt 34, 3) := by decide +kernel
theorem dX3_tidesOffShore_12 : decode cX3_tidesOffShore 12 = .ok (.aload_n 0, 1) := by decide +kernel
theorem dX3_tidesOffShore_13 : decode cX3_tidesOffShore 13 = .ok (.getfield 15, 3) := by decide +kernel
theorem dX3_tidesOffShore_16 : decode cX3_tidesOffShore 16 = .ok (.iload_n 3, 1) := by decide +kernel
theorem dX3_tidesOffShore_17 : decode cX3_tidesOffShore 17 = .ok (.iaload, 1) := by decide +kernel
theorem dX3_tidesOffShore_18 : decode cX3_tidesOffShore 18 = .ok (.invokestatic 59, 3) := by decide +kernel
theorem dX3_tidesOffShore_21 : decode cX3_tidesOffShore 21 = .ok (.ifCond .eq 7, 3) := by decide +kernel
theorem dX3_tidesOffShore_24 : decode cX3_tidesOffShore 24 = .ok (.iload_n 1, 1) := by decide +kernel
theorem dX3_tidesOffShore_25 : decode cX3_tidesOffShore 25 = .ok (.iload_n 2, 1) := by decide +kernel
theorem dX3_tidesOffShore_26 : decode cX3_tidesOffShore 26 = .ok (.isub, 1) := by decide +kernel
theorem dX3_tidesOffShore_27 : decode cX3_tidesOffShore 27 = .ok (.ireturn, 1) := by decide +kernel
theorem dX3_tidesOffShore_28 : decode cX3_tidesOffShore 28 = .ok (.aload_n 0, 1) := by decide +kernel
theorem dX3_tidesOffShore_29 : decode cX3_tidesOffShore 29 = .ok (.getfield 9, 3) := by decide +kernel
theorem dX3_tidesOffShore_32 : decode cX3_tidesOffShore 32 = .ok (.iload_n 3, 1) := by decide +kernel
theorem dX3_tidesOffShore_33 : decode cX3_tidesOffShore 33 = .ok (.iaload, 1) := by decide +kernel
theorem dX3_tidesOffShore_34 : decode cX3_tidesOffShore 34 = .ok (.iconst 1, 1) := by decide +kernel
theorem dX3_tidesOffShore_35 : decode cX3_tidesOffShore 35 = .ok (.isub, 1) := by decide +kernel
theorem dX3_tidesOffShore_36 : decode cX3_tidesOffShore 36 = .ok (.istore_n 2, 1) := by decide +kernel
theorem dX3_tidesOffShore_37 : decode cX3_tidesOffShore 37 = .ok (.iinc 3 (-1), 3) := by decide +kernel
theorem dX3_tidesOffShore_40 : decode cX3_tidesOffShore 40 = .ok (.goto (-32), 3) := by decide +kernel
theorem dX3_tidesOffShore_43 : decode cX3_tidesOffShore 43 = .ok (.iload_n 1, 1) := by decide +kernel
theorem dX3_tidesOffShore_44 : decode cX3_tidesOffShore 44 = .ok (.iload_n 2, 1) := by decide +kernel
theorem dX3_tidesOffShore_45 : decode cX3_tidesOffShore 45 = .ok (.isub, 1) := by decide +kernel
theorem dX3_tidesOffShore_46 : decode cX3_tidesOffShore 46 = .ok (.ireturn, 1) := by decide +kernel
theorem dX4_init_0 : decode cX4_init 0 = .ok (.aload_n 0, 1) := by decide +kernel
theorem dX4_init_1 : decode cX4_init 1 = .ok (.invokespecial 3, 3) := by decide +kernel
theorem dX4_init_4 : decode cX4_init 4 = .ok (.aload_n 0, 1) := by decide +kernel
theorem dX4_init_5 : decode cX4_init 5 = .ok (.iload_n 1, 1) := by decide +kernel
theorem dX4_init_6 : decode cX4_init 6 = .ok (.putfield 9, 3) := by decide +kernel
theorem dX4_init_9 : decode cX4_init 9 = .ok (.aload_n 0, 1) := by decide +kernel
theorem dX4_init_10 : decode cX4_init 10 = .ok (.iload_n 2, 1) := by decide +kernel
theorem dX4_init_11 : decode cX4_init 11 = .ok (.putfield 15, 3) := by decide +kernel
theorem dX4_init_14 : decode cX4_init 14 = .ok (.aload_n 0, 1) := by decide +kernel
theorem dX4_init_15 : decode cX4_init 15 = .ok (.iload_n 3, 1) := by decide +kernel
theorem dX4_init_16 : decode cX4_init 16 = .ok (.putfield 18, 3) := by decide +kernel
theorem dX4_init_19 : decode cX4_init 19 = .ok (.aload_n 0, 1) := by decide +kernel
theorem dX4_init_20 : decode cX4_init 20 = .ok (.aload 4, 2) := by decide +kernel
theorem dX4_init_22 : decode cX4_init 22 = .ok (.putfield 21, 3) := by decide +kernel
theorem dX4_init_25 : decode cX4_init 25 = .ok (.aload_n 0, 1) := by decide +kernel
theorem dX4_init_26 : decode cX4_init 26 = .ok (.aload 5, 2) := by decide +kernel
theorem dX4_init_28 : decode cX4_init 28 = .ok (.putfield 25, 3) := by decide +kernel
theorem dX4_init_31 : decode cX4_init 31 = .ok (.aload_n 0, 1) := by decide +kernel
theorem dX4_init_32 : decode cX4_init 32 = .ok (.aload 6, 2) := by decide +kernel
theorem dX4_init_34 : decode cX4_init 34 = .ok (.putfield 28, 3) := by decide +kernel
theorem dX4_init_37 : decode cX4_init 37 = .ok (.return_, 1) := by decide +kernel
theorem dX4_coverage_0 : decode cX4_coverage 0 = .ok (.aload_n 0, 1) := by decide +kernel
theorem dX4_coverage_1 : decode cX4_coverage 1 = .ok (.getfield 28, 3) := by decide +kernel
theorem dX4_coverage_4 : decode cX4_coverage 4 = .ok (.iload_n 2, 1) := by decide +kernel
theorem dX4_coverage_5 : decode cX4_coverage 5 = .ok (.invokevirtual 31, 3) := by decide +kernel
theorem dX4_coverage_8 : decode cX4_coverage 8 = .ok (.ifCond .eq 11, 3) := by decide +kernel
theorem dX4_coverage_11 : decode cX4_coverage 11 = .ok (.aload_n 0, 1) := by decide +kernel
theorem dX4_coverage_12 : decode cX4_coverage 12 = .ok (.aload_n 1, 1) := by decide +kernel
theorem dX4_coverage_13 : decode cX4_coverage 13 = .ok (.invokevirtual 37, 3) := by decide +kernel
theorem dX4_coverage_16 : decode cX4_coverage 16 = .ok (.ifCond .ne 5, 3) := by decide +kernel
theorem dX4_coverage_19 : decode cX4_coverage 19 = .ok (.iconst 0, 1) := by decide +kernel
theorem dX4_coverage_20 : decode cX4_coverage 20 = .ok (.ireturn, 1) := by decide +kernel
theorem dX4_coverage_21 : decode cX4_coverage 21 = .ok (.aload_n 0, 1) := by decide +kernel
theorem dX4_coverage_22 : decode cX4_coverage 22 = .ok (.getfield 15, 3) := by decide +kernel
theorem dX4_coverage_25 : decode cX4_coverage 25 = .ok (.bipush (-9), 2) := by decide +kernel
theorem dX4_coverage_27 : decode cX4_coverage 27 = .ok (.if_icmp .eq 38, 3) := by decide +kernel
theorem dX4_coverage_30 : decode cX4_coverage 30 = .ok (.aload_n 0, 1) := by decide +kernel
theorem dX4_coverage_31 : decode cX4_coverage 31 = .ok (.getfield 18, 3) := by decide +kernel
theorem dX4_coverage_34 : decode cX4_coverage 34 = .ok (.bipush (-9), 2) := by decide +kernel
theorem dX4_coverage_36 : decode cX4_coverage 36 = .ok (.if_icmp .eq 29, 3) := by decide +kernel
theorem dX4_coverage_39 : decode cX4_coverage 39 = .ok (.aload_n 0, 1) := by decide +kernel
theorem dX4_coverage_40 : decode cX4_coverage 40 = .ok (.getfield 21, 3) := by decide +kernel
theorem dX4_coverage_43 : decode cX4_coverage 43 = .ok (.invokevirtual 41, 3) := by decide +kernel
theorem dX4_coverage_46 : decode cX4_coverage 46 = .ok (.iconst 5, 1) := by decide +kernel
theorem dX4_coverage_47 : decode cX4_coverage 47 = .ok (.if_icmp .gt 18, 3) := by decide +kernel
theorem dX4_coverage_50 : decode cX4_coverage 50 = .ok (.aload_n 0, 1) := by decide +kernel
theorem dX4_coverage_51 : decode cX4_coverage 51 = .ok (.getfield 25, 3) := by decide +kernel
theorem dX4_coverage_54 : decode cX4_coverage 54 = .ok (.invokevirtual 41, 3) := by decide +kernel
theorem dX4_coverage_57 : decode cX4_coverage 57 = .ok (.iconst 2, 1) := by decide +kernel
theorem dX4_coverage_58 : decode cX4_coverage 58 = .ok (.if_icmp .gt 7, 3) := by decide +kernel
theorem dX4_coverage_61 : decode cX4_coverage 61 = .ok (.iconst 1, 1) := by decide +kernel
theorem dX4_coverage_62 : decode cX4_coverage 62 = .ok (.goto 4, 3) := by decide +kernel
theorem dX4_coverage_65 : decode cX4_coverage 65 = .ok (.iconst 0, 1) := by decide +kernel
theorem dX4_coverage_66 : decode cX4_coverage 66 = .ok (.istore_n 3, 1) := by decide +kernel
theorem dX4_coverage_67 : decode cX4_coverage 67 = .ok (.iload_n 3, 1) := by decide +kernel
theorem dX4_coverage_68 : decode cX4_coverage 68 = .ok (.ifCond .eq 7, 3) := by decide +kernel
theorem dX4_coverage_71 : decode cX4_coverage 71 = .ok (.iconst 2, 1) := by decide +kernel
theorem dX4_coverage_72 : decode cX4_coverage 72 = .ok (.goto 4, 3) := by decide +kernel
theorem dX4_coverage_75 : decode cX4_coverage 75 = .ok (.iconst 1, 1) := by decide +kernel
theorem dX4_coverage_76 : decode cX4_coverage 76 = .ok (.ireturn, 1) := by decide +kernel
theorem dX4_describes_0 : decode cX4_describes 0 = .ok (.aload_n 0, 1) := by decide +kernel
theorem dX4_describes_1 : decode cX4_describes 1 = .ok (.getfield 15, 3) := by decide +kernel
theorem dX4_describes_4 : decode cX4_describes 4 = .ok (.bipush (-9), 2) := by decide +kernel
theorem dX4_describes_6 : decode cX4_describes 6 = .ok (.if_icmp .eq 14, 3) := by decide +kernel
theorem dX4_describes_9 : decode cX4_describes 9 = .ok (.aload_n 0, 1) := by decide +kernel
theorem dX4_describes_10 : decode cX4_describes 10 = .ok (.getfield 15, 3) := by decide +kernel
theorem dX4_describes_13 : decode cX4_describes 13 = .ok (.aload_n 1, 1) := by decide +kernel
theorem dX4_describes_14 : decode cX4_describes 14 = .ok (.getfield 45, 3) := by decide +kernel
theorem dX4_describes_17 : decode cX4_describes 17 = .ok (.if_icmp .ne 55, 3) := by decide +kernel
theorem dX4_describes_20 : decode cX4_describes 20 = .ok (.aload_n 0, 1) := by decide +kernel
theorem dX4_describes_21 : decode cX4_describes 21 = .ok (.getfield 18, 3) := by decide +kernel
theorem dX4_describes_24 : decode cX4_describes 24 = .ok (.bipush (-9), 2) := by decide +kernel
theorem dX4_describes_26 : decode cX4_describes 26 = .ok (.if_icmp .eq 14, 3) := by decide +kernel
theorem dX4_describes_29 : decode cX4_describes 29 = .ok (.aload_n 0, 1) := by decide +kernel
theorem dX4_describes_30 : decode cX4_describes 30 = .ok (.getfield 18, 3) := by decide +kernel
theorem dX4_describes_33 : decode cX4_describes 33 = .ok (.aload_n 1, 1) := by decide +kernel
theorem dX4_describes_34 : decode cX4_describes 34 = .ok (.getfield 48, 3) := by decide +kernel
theorem dX4_describes_37 : decode cX4_describes 37 = .ok (.if_icmp .ne 35, 3) := by decide +kernel
theorem dX4_describes_40 : decode cX4_describes 40 = .ok (.aload_n 0, 1) := by decide +kernel
theorem dX4_describes_41 : decode cX4_describes 41 = .ok (.getfield 21, 3) := by decide +kernel
theorem dX4_describes_44 : decode cX4_describes 44 = .ok (.aload_n 1, 1) := by decide +kernel
theorem dX4_describes_45 : decode cX4_describes 45 = .ok (.getfield 49, 3) := by decide +kernel
theorem dX4_describes_48 : decode cX4_describes 48 = .ok (.invokevirtual 31, 3) := by decide +kernel
theorem dX4_describes_51 : decode cX4_describes 51 = .ok (.ifCond .eq 21, 3) := by decide +kernel
theorem dX4_describes_54 : decode cX4_describes 54 = .ok (.aload_n 0, 1) := by decide +kernel
theorem dX4_describes_55 : decode cX4_describes 55 = .ok (.getfield 25, 3) := by decide +kernel
theorem dX4_describes_58 : decode cX4_describes 58 = .ok (.aload_n 1, 1) := by decide +kernel
theorem dX4_describes_59 : decode cX4_describes 59 = .ok (.getfield 52, 3) := by decide +kernel
theorem dX4_describes_62 : decode cX4_describes 62 = .ok (.invokevirtual 31, 3) := by decide +kernel
theorem dX4_describes_65 : decode cX4_describes 65 = .ok (.ifCond .eq 7, 3) := by decide +kernel
theorem dX4_describes_68 : decode cX4_describes 68 = .ok (.iconst 1, 1) := by decide +kernel
theorem dX4_describes_69 : decode cX4_describes 69 = .ok (.goto 4, 3) := by decide +kernel
theorem dX4_describes_72 : decode cX4_describes 72 = .ok (.iconst 0, 1) := by decide +kernel
theorem dX4_describes_73 : decode cX4_describes 73 = .ok (.ireturn, 1) := by decide +kernel
theorem dX5_init_0 : decode cX5_init 0 = .ok (.aload_n 0, 1) := by decide +kernel
theorem dX5_init_1 : decode cX5_init 1 = .ok (.invokespecial 3, 3) := by decide +kernel
theorem dX5_init_4 : decode cX5_init 4 = .ok (.aload_n 0, 1) := by decide +kernel
theorem dX5_init_5 : decode cX5_init 5 = .ok (.bipush 60, 2) := by decide +kernel
theorem dX5_init_7 : decode cX5_init 7 = .ok (.anewarray 9, 3) := by decide +kernel
theorem dX5_init_10 : decode cX5_init 10 = .ok (.putfield 11, 3) := by decide +kernel
theorem dX5_init_13 : decode cX5_init 13 = .ok (.return_, 1) := by decide +kernel
theorem dX5_add_0 : decode cX5_add 0 = .ok (.aload_n 0, 1) := by decide +kernel
theorem dX5_add_1 : decode cX5_add 1 = .ok (.getfield 17, 3) := by decide +kernel
theorem dX5_add_4 : decode cX5_add 4 = .ok (.aload_n 0, 1) := by decide +kernel
theorem dX5_add_5 : decode cX5_add 5 = .ok (.getfield 11, 3) := by decide +kernel
theorem dX5_add_8 : decode cX5_add 8 = .ok (.arraylength, 1) := by decide +kernel
theorem dX5_add_9 : decode cX5_add 9 = .ok (.if_icmp .ge 23, 3) := by decide +kernel
theorem dX5_add_12 : decode cX5_add 12 = .ok (.aload_n 0, 1) := by decide +kernel
theorem dX5_add_13 : decode cX5_add 13 = .ok (.getfield 11, 3) := by decide +kernel
theorem dX5_add_16 : decode cX5_add 16 = .ok (.aload_n 0, 1) := by decide +kernel
theorem dX5_add_17 : decode cX5_add 17 = .ok (.getfield 17, 3) := by decide +kernel
theorem dX5_add_20 : decode cX5_add 20 = .ok (.aload_n 1, 1) := by decide +kernel
theorem dX5_add_21 : decode cX5_add 21 = .ok (.aastore, 1) := by decide +kernel
theorem dX5_add_22 : decode cX5_add 22 = .ok (.aload_n 0, 1) := by decide +kernel
theorem dX5_add_23 : decode cX5_add 23 = .ok (.dup, 1) := by decide +kernel
theorem dX5_add_24 : decode cX5_add 24 = .ok (.getfield 17, 3) := by decide +kernel
theorem dX5_add_27 : decode cX5_add 27 = .ok (.iconst 1, 1) := by decide +kernel
theorem dX5_add_28 : decode cX5_add 28 = .ok (.iadd, 1) := by decide +kernel
theorem dX5_add_29 : decode cX5_add 29 = .ok (.putfield 17, 3) := by decide +kernel
theorem dX5_add_32 : decode cX5_add 32 = .ok (.return_, 1) := by decide +kernel
theorem dX5_find_0 : decode cX5_find 0 = .ok (.iload_n 1, 1) := by decide +kernel
theorem dX5_find_1 : decode cX5_find 1 = .ok (.iconst 0, 1) := by decide +kernel
theorem dX5_find_2 : decode cX5_find 2 = .ok (.aload_n 0, 1) := by decide +kernel
theorem dX5_find_3 : decode cX5_find 3 = .ok (.getfield 17, 3) := by decide +kernel
theorem dX5_find_6 : decode cX5_find 6 = .ok (.iconst 1, 1) := by decide +kernel
theorem dX5_find_7 : decode cX5_find 7 = .ok (.isub, 1) := by decide +kernel
theorem dX5_find_8 : decode cX5_find 8 = .ok (.invokestatic 21, 3) := by decide +kernel
theorem dX5_find_11 : decode cX5_find 11 = .ok (.ifCond .eq 12, 3) := by decide +kernel
theorem dX5_find_14 : decode cX5_find 14 = .ok (.aload_n 0, 1) := by decide +kernel
theorem dX5_find_15 : decode cX5_find 15 = .ok (.getfield 11, 3) := by decide +kernel
theorem dX5_find_18 : decode cX5_find 18 = .ok (.iload_n 1, 1) := by decide +kernel
theorem dX5_find_19 : decode cX5_find 19 = .ok (.aaload, 1) := by decide +kernel
theorem dX5_find_20 : decode cX5_find 20 = .ok (.goto 4, 3) := by decide +kernel
theorem dX5_find_23 : decode cX5_find 23 = .ok (.aconst_null, 1) := by decide +kernel
theorem dX5_find_24 : decode cX5_find 24 = .ok (.areturn, 1) := by decide +kernel
theorem dX5_hush_0 : decode cX5_hush 0 = .ok (.aload_n 0, 1) := by decide +kernel
theorem dX5_hush_1 : decode cX5_hush 1 = .ok (.aload_n 0, 1) := by decide +kernel
theorem dX5_hush_2 : decode cX5_hush 2 = .ok (.getfield 17, 3) := by decide +kernel
theorem dX5_hush_5 : decode cX5_hush 5 = .ok (.putfield 25, 3) := by decide +kernel
theorem dX5_hush_8 : decode cX5_hush 8 = .ok (.return_, 1) := by decide +kernel
theorem dX5_takingsInNews_0 : decode cX5_takingsInNews 0 = .ok (.iconst 0, 1) := by decide +kernel
theorem dX5_takingsInNews_1 : decode cX5_takingsInNews 1 = .ok (.istore_n 1, 1) := by decide +kernel
theorem dX5_takingsInNews_2 : decode cX5_takingsInNews 2 = .ok (.aload_n 0, 1) := by decide +kernel
theorem dX5_takingsInNews_3 : decode cX5_takingsInNews 3 = .ok (.getfield 25, 3) := by decide +kernel
theorem dX5_takingsInNews_6 : decode cX5_takingsInNews 6 = .ok (.istore_n 2, 1) := by decide +kernel
theorem dX5_takingsInNews_7 : decode cX5_takingsInNews 7 = .ok (.iload_n 2, 1) := by decide +kernel
theorem dX5_takingsInNews_8 : decode cX5_takingsInNews 8 = .ok (.aload_n 0, 1) := by decide +kernel
theorem dX5_takingsInNews_9 : decode cX5_takingsInNews 9 = .ok (.getfield 17, 3) := by decide +kernel
theorem dX5_takingsInNews_12 : decode cX5_takingsInNews 12 = .ok (.if_icmp .ge 27, 3) := by decide +kernel
theorem dX5_takingsInNews_15 : decode cX5_takingsInNews 15 = .ok (.aload_n 0, 1) := by decide +kernel
theorem dX5_takingsInNews_16 : decode cX5_takingsInNews 16 = .ok (.getfield 11, 3) := by decide +kernel
theorem dX5_takingsInNews_19 : decode cX5_takingsInNews 19 = .ok (.iload_n 2, 1) := by decide +kernel
theorem dX5_takingsInNews_20 : decode cX5_takingsInNews 20 = .ok (.aaload, 1) := by decide +kernel
theorem dX5_takingsInNews_21 : decode cX5_takingsInNews 21 = .ok (.getfield 28, 3) := by decide +kernel
theorem dX5_takingsInNews_24 : decode cX5_takingsInNews 24 = .ok (.invokestatic 31, 3) := by decide +kernel
theorem dX5_takingsInNews_27 : decode cX5_takingsInNews 27 = .ok (.ifCond .eq 6, 3) := by decide +kernel
theorem dX5_takingsInNews_30 : decode cX5_takingsInNews 30 = .ok (.iinc 1 1, 3) := by decide +kernel
theorem dX5_takingsInNews_33 : decode cX5_takingsInNews 33 = .ok (.iinc 2 1, 3) := by decide +kernel
theorem dX5_takingsInNews_36 : decode cX5_takingsInNews 36 = .ok (.goto (-29), 3) := by decide +kernel
theorem dX5_takingsInNews_39 : decode cX5_takingsInNews 39 = .ok (.iload_n 1, 1) := by decide +kernel
theorem dX5_takingsInNews_40 : decode cX5_takingsInNews 40 = .ok (.ireturn, 1) := by decide +kernel
theorem dX5_firstHeard_0 : decode cX5_firstHeard 0 = .ok (.sipush 999, 3) := by decide +kernel
theorem dX5_firstHeard_3 : decode cX5_firstHeard 3 = .ok (.istore_n 3, 1) := by decide +kernel
theorem dX5_firstHeard_4 : decode cX5_firstHeard 4 = .ok (.aload_n 0, 1) := by decide +kernel
theorem dX5_firstHeard_5 : decode cX5_firstHeard 5 = .ok (.getfield 25, 3) := by decide +kernel
theorem dX5_firstHeard_8 : decode cX5_firstHeard 8 = .ok (.istore 4, 2) := by decide +kernel
theorem dX5_firstHeard_10 : decode cX5_firstHeard 10 = .ok (.iload 4, 2) := by decide +kernel
theorem dX5_firstHeard_12 : decode cX5_firstHeard 12 = .ok (.aload_n 0, 1) := by decide +kernel
theorem dX5_firstHeard_13 : decode cX5_firstHeard 13 = .ok (.getfield 17, 3) := by decide +kernel
theorem dX5_firstHeard_16 : decode cX5_firstHeard 16 = .ok (.if_icmp .ge 68, 3) := by decide +kernel
theorem dX5_firstHeard_19 : decode cX5_firstHeard 19 = .ok (.aload_n 0, 1) := by decide +kernel
theorem dX5_firstHeard_20 : decode cX5_firstHeard 20 = .ok (.getfield 11, 3) := by decide +kernel
theorem dX5_firstHeard_23 : decode cX5_firstHeard 23 = .ok (.iload 4, 2) := by decide +kernel
theorem dX5_firstHeard_25 : decode cX5_firstHeard 25 = .ok (.aaload, 1) := by decide +kernel
theorem dX5_firstHeard_26 : decode cX5_firstHeard 26 = .ok (.astore 5, 2) := by decide +kernel
theorem dX5_firstHeard_28 : decode cX5_firstHeard 28 = .ok (.aload 5, 2) := by decide +kernel
theorem dX5_firstHeard_30 : decode cX5_firstHeard 30 = .ok (.getfield 28, 3) := by decide +kernel
theorem dX5_firstHeard_33 : decode cX5_firstHeard 33 = .ok (.invokestatic 31, 3) := by decide +kernel
theorem dX5_firstHeard_36 : decode cX5_firstHeard 36 = .ok (.ifCond .eq 16, 3) := by decide +kernel
theorem dX5_firstHeard_39 : decode cX5_firstHeard 39 = .ok (.aload_n 2, 1) := by decide +kernel
theorem dX5_firstHeard_40 : decode cX5_firstHeard 40 = .ok (.aload 5, 2) := by decide +kernel
theorem dX5_firstHeard_42 : decode cX5_firstHeard 42 = .ok (.getfield 28, 3) := by decide +kernel
theorem dX5_firstHeard_45 : decode cX5_firstHeard 45 = .ok (.iload_n 1, 1) := by decide +kernel
theorem dX5_firstHeard_46 : decode cX5_firstHeard 46 = .ok (.invokevirtual 35, 3) := by decide +kernel
theorem dX5_firstHeard_49 : decode cX5_firstHeard 49 = .ok (.goto 6, 3) := by decide +kernel
theorem dX5_firstHeard_52 : decode cX5_firstHeard 52 = .ok (.sipush 999, 3) := by decide +kernel
theorem dX5_firstHeard_55 : decode cX5_firstHeard 55 = .ok (.istore 6, 2) := by decide +kernel
theorem dX5_firstHeard_57 : decode cX5_firstHeard 57 = .ok (.iload 6, 2) := by decide +kernel
theorem dX5_firstHeard_59 : decode cX5_firstHeard 59 = .ok (.sipush 999, 3) := by decide +kernel
theorem dX5_firstHeard_62 : decode cX5_firstHeard 62 = .ok (.if_icmp .ge 16, 3) := by decide +kernel
theorem dX5_firstHeard_65 : decode cX5_firstHeard 65 = .ok (.iload_n 3, 1) := by decide +kernel
theorem dX5_firstHeard_66 : decode cX5_firstHeard 66 = .ok (.aload 5, 2) := by decide +kernel
theorem dX5_firstHeard_68 : decode cX5_firstHeard 68 = .ok (.getfield 41, 3) := by decide +kernel
theorem dX5_firstHeard_71 : decode cX5_firstHeard 71 = .ok (.iload 6, 2) := by decide +kernel
theorem dX5_firstHeard_73 : decode cX5_firstHeard 73 = .ok (.iadd, 1) := by decide +kernel
theorem dX5_firstHeard_74 : decode cX5_firstHeard 74 = .ok (.invokestatic 44, 3) := by decide +kernel
theorem dX5_firstHeard_77 : decode cX5_firstHeard 77 = .ok (.istore_n 3, 1) := by decide +kernel
theorem dX5_firstHeard_78 : decode cX5_firstHeard 78 = .ok (.iinc 4 1, 3) := by decide +kernel
theorem dX5_firstHeard_81 : decode cX5_firstHeard 81 = .ok (.goto (-71), 3) := by decide +kernel
theorem dX5_firstHeard_84 : decode cX5_firstHeard 84 = .ok (.iload_n 3, 1) := by decide +kernel
theorem dX5_firstHeard_85 : decode cX5_firstHeard 85 = .ok (.ireturn, 1) := by decide +kernel
theorem dX5_menWhoShowed_0 : decode cX5_menWhoShowed 0 = .ok (.lconst 0, 1) := by decide +kernel
theorem dX5_menWhoShowed_1 : decode cX5_menWhoShowed 1 = .ok (.lstore 4, 2) := by decide +kernel
theorem dX5_menWhoShowed_3 : decode cX5_menWhoShowed 3 = .ok (.iconst 0, 1) := by decide +kernel
theorem dX5_menWhoShowed_4 : decode cX5_menWhoShowed 4 = .ok (.istore 6, 2) := by decide +kernel
theorem dX5_menWhoShowed_6 : decode cX5_menWhoShowed 6 = .ok (.iload 6, 2) := by decide +kernel
theorem dX5_menWhoShowed_8 : decode cX5_menWhoShowed 8 = .ok (.aload_n 0, 1) := by decide +kernel
theorem dX5_menWhoShowed_9 : decode cX5_menWhoShowed 9 = .ok (.getfield 17, 3) := by decide +kernel
theorem dX5_menWhoShowed_12 : decode cX5_menWhoShowed 12 = .ok (.if_icmp .ge 52, 3) := by decide +kernel
theorem dX5_menWhoShowed_15 : decode cX5_menWhoShowed 15 = .ok (.aload_n 0, 1) := by decide +kernel
theorem dX5_menWhoShowed_16 : decode cX5_menWhoShowed 16 = .ok (.getfield 11, 3) := by decide +kernel
theorem dX5_menWhoShowed_19 : decode cX5_menWhoShowed 19 = .ok (.iload 6, 2) := by decide +kernel
theorem dX5_menWhoShowed_21 : decode cX5_menWhoShowed 21 = .ok (.aaload, 1) := by decide +kernel
theorem dX5_menWhoShowed_22 : decode cX5_menWhoShowed 22 = .ok (.astore 7, 2) := by decide +kernel
theorem dX5_menWhoShowed_24 : decode cX5_menWhoShowed 24 = .ok (.aload 7, 2) := by decide +kernel
theorem dX5_menWhoShowed_26 : decode cX5_menWhoShowed 26 = .ok (.getfield 49, 3) := by decide +kernel
theorem dX5_menWhoShowed_29 : decode cX5_menWhoShowed 29 = .ok (.iload_n 1, 1) := by decide +kernel
theorem dX5_menWhoShowed_30 : decode cX5_menWhoShowed 30 = .ok (.if_icmp .ne 28, 3) := by decide +kernel
theorem dX5_menWhoShowed_33 : decode cX5_menWhoShowed 33 = .ok (.aload 7, 2) := by decide +kernel
theorem dX5_menWhoShowed_35 : decode cX5_menWhoShowed 35 = .ok (.getfield 41, 3) := by decide +kernel
theorem dX5_menWhoShowed_38 : decode cX5_menWhoShowed 38 = .ok (.iload_n 2, 1) := by decide +kernel
theorem dX5_menWhoShowed_39 : decode cX5_menWhoShowed 39 = .ok (.iload_n 3, 1) := by decide +kernel
theorem dX5_menWhoShowed_40 : decode cX5_menWhoShowed 40 = .ok (.invokestatic 21, 3) := by decide +kernel
theorem dX5_menWhoShowed_43 : decode cX5_menWhoShowed 43 = .ok (.ifCond .eq 15, 3) := by decide +kernel
theorem dX5_menWhoShowed_46 : decode cX5_menWhoShowed 46 = .ok (.lload 4, 2) := by decide +kernel
theorem dX5_menWhoShowed_48 : decode cX5_menWhoShowed 48 = .ok (.lconst 1, 1) := by decide +kernel
theorem dX5_menWhoShowed_49 : decode cX5_menWhoShowed 49 = .ok (.aload 7, 2) := by decide +kernel
theorem dX5_menWhoShowed_51 : decode cX5_menWhoShowed 51 = .ok (.getfield 52, 3) := by decide +kernel
theorem dX5_menWhoShowed_54 : decode cX5_menWhoShowed 54 = .ok (.lshl, 1) := by decide +kernel
theorem dX5_menWhoShowed_55 : decode cX5_menWhoShowed 55 = .ok (.lor, 1) := by decide +kernel
theorem dX5_menWhoShowed_56 : decode cX5_menWhoShowed 56 = .ok (.lstore 4, 2) := by decide +kernel
theorem dX5_menWhoShowed_58 : decode cX5_menWhoShowed 58 = .ok (.iinc 6 1, 3) := by decide +kernel
theorem dX5_menWhoShowed_61 : decode cX5_menWhoShowed 61 = .ok (.goto (-55), 3) := by decide +kernel
theorem dX5_menWhoShowed_64 : decode cX5_menWhoShowed 64 = .ok (.lload 4, 2) := by decide +kernel
theorem dX5_menWhoShowed_66 : decode cX5_menWhoShowed 66 = .ok (.invokestatic 55, 3) := by decide +kernel
theorem dX5_menWhoShowed_69 : decode cX5_menWhoShowed 69 = .ok (.ireturn, 1) := by decide +kernel
theorem dX6_init_0 : decode cX6_init 0 = .ok (.aload_n 0, 1) := by decide +kernel
theorem dX6_init_1 : decode cX6_init 1 = .ok (.invokespecial 1, 3) := by decide +kernel
theorem dX6_init_4 : decode cX6_init 4 = .ok (.aload_n 0, 1) := by decide +kernel
theorem dX6_init_5 : decode cX6_init 5 = .ok (.iconst 1, 1) := by decide +kernel
theorem dX6_init_6 : decode cX6_init 6 = .ok (.putfield 7, 3) := by decide +kernel
theorem dX6_init_9 : decode cX6_init 9 = .ok (.aload_n 0, 1) := by decide +kernel
theorem dX6_init_10 : decode cX6_init 10 = .ok (.iload_n 1, 1) := by decide +kernel
theorem dX6_init_11 : decode cX6_init 11 = .ok (.putfield 13, 3) := by decide +kernel
theorem dX6_init_14 : decode cX6_init 14 = .ok (.aload_n 0, 1) := by decide +kernel
theorem dX6_init_15 : decode cX6_init 15 = .ok (.iload_n 2, 1) := by decide +kernel
theorem dX6_init_16 : decode cX6_init 16 = .ok (.putfield 17, 3) := by decide +kernel
theorem dX6_init_19 : decode cX6_init 19 = .ok (.aload_n 0, 1) := by decide +kernel
theorem dX6_init_20 : decode cX6_init 20 = .ok (.iload_n 3, 1) := by decide +kernel
theorem dX6_init_21 : decode cX6_init 21 = .ok (.putfield 20, 3) := by decide +kernel
theorem dX6_init_24 : decode cX6_init 24 = .ok (.aload_n 0, 1) := by decide +kernel
theorem dX6_init_25 : decode cX6_init 25 = .ok (.iload 4, 2) := by decide +kernel
theorem dX6_init_27 : decode cX6_init 27 = .ok (.putfield 23, 3) := by decide +kernel
theorem dX6_init_30 : decode cX6_init 30 = .ok (.return_, 1) := by decide +kernel
theorem dX7_init_0 : decode cX7_init 0 = .ok (.aload_n 0, 1) := by decide +kernel
theorem dX7_init_1 : decode cX7_init 1 = .ok (.invokespecial 1, 3) := by decide +kernel
theorem dX7_init_4 : decode cX7_init 4 = .ok (.aload_n 0, 1) := by decide +kernel
theorem dX7_init_5 : decode cX7_init 5 = .ok (.iload_n 1, 1) := by decide +kernel
theorem dX7_init_6 : decode cX7_init 6 = .ok (.putfield 7, 3) := by decide +kernel
theorem dX7_init_9 : decode cX7_init 9 = .ok (.aload_n 0, 1) := by decide +kernel
theorem dX7_init_10 : decode cX7_init 10 = .ok (.iload_n 2, 1) := by decide +kernel
theorem dX7_init_11 : decode cX7_init 11 = .ok (.putfield 13, 3) := by decide +kernel
theorem dX7_init_14 : decode cX7_init 14 = .ok (.return_, 1) := by decide +kernel
theorem dX7_holds_0 : decode cX7_holds 0 = .ok (.iload_n 1, 1) := by decide +kernel
theorem dX7_holds_1 : decode cX7_holds 1 = .ok (.aload_n 0, 1) := by decide +kernel
theorem dX7_holds_2 : decode cX7_holds 2 = .ok (.getfield 7, 3) := by decide +kernel
theorem dX7_holds_5 : decode cX7_holds 5 = .ok (.aload_n 0, 1) := by decide +kernel
theorem dX7_holds_6 : decode cX7_holds 6 = .ok (.getfield 13, 3) := by decide +kernel
theorem dX7_holds_9 : decode cX7_holds 9 = .ok (.invokestatic 16, 3) := by decide +kernel
theorem dX7_holds_12 : decode cX7_holds 12 = .ok (.ireturn, 1) := by decide +kernel
theorem dX7_width_0 : decode cX7_width 0 = .ok (.aload_n 0, 1) := by decide +kernel
theorem dX7_width_1 : decode cX7_width 1 = .ok (.getfield 13, 3) := by decide +kernel
theorem dX7_width_4 : decode cX7_width 4 = .ok (.aload_n 0, 1) := by decide +kernel
theorem dX7_width_5 : decode cX7_width 5 = .ok (.getfield 7, 3) := by decide +kernel
theorem dX7_width_8 : decode cX7_width 8 = .ok (.isub, 1) := by decide +kernel
theorem dX7_width_9 : decode cX7_width 9 = .ok (.ireturn, 1) := by decide +kernel
theorem dX8_init_0 : decode cX8_init 0 = .ok (.aload_n 0, 1) := by decide +kernel
theorem dX8_init_1 : decode cX8_init 1 = .ok (.invokespecial 1, 3) := by decide +kernel
theorem dX8_init_4 : decode cX8_init 4 = .ok (.aload_n 0, 1) := by decide +kernel
theorem dX8_init_5 : decode cX8_init 5 = .ok (.iload_n 1, 1) := by decide +kernel
theorem dX8_init_6 : decode cX8_init 6 = .ok (.putfield 7, 3) := by decide +kernel
theorem dX8_init_9 : decode cX8_init 9 = .ok (.aload_n 0, 1) := by decide +kernel
theorem dX8_init_10 : decode cX8_init 10 = .ok (.iload_n 2, 1) := by decide +kernel
theorem dX8_init_11 : decode cX8_init 11 = .ok (.putfield 13, 3) := by decide +kernel
theorem dX8_init_14 : decode cX8_init 14 = .ok (.aload_n 0, 1) := by decide +kernel
theorem dX8_init_15 : decode cX8_init 15 = .ok (.iload_n 3, 1) := by decide +kernel
theorem dX8_init_16 : decode cX8_init 16 = .ok (.putfield 16, 3) := by decide +kernel
theorem dX8_init_19 : decode cX8_init 19 = .ok (.aload_n 0, 1) := by decide +kernel
theorem dX8_init_20 : decode cX8_init 20 = .ok (.iload 4, 2) := by decide +kernel
theorem dX8_init_22 : decode cX8_init 22 = .ok (.putfield 19, 3) := by decide +kernel
theorem dX8_init_25 : decode cX8_init 25 = .ok (.aload_n 0, 1) := by decide +kernel
theorem dX8_init_26 : decode cX8_init 26 = .ok (.iload 5, 2) := by decide +kernel
theorem dX8_init_28 : decode cX8_init 28 = .ok (.putfield 22, 3) := by decide +kernel
theorem dX8_init_31 : decode cX8_init 31 = .ok (.aload_n 0, 1) := by decide +kernel
theorem dX8_init_32 : decode cX8_init 32 = .ok (.iload 6, 2) := by decide +kernel
theorem dX8_init_34 : decode cX8_init 34 = .ok (.putfield 26, 3) := by decide +kernel
theorem dX8_init_37 : decode cX8_init 37 = .ok (.return_, 1) := by decide +kernel
theorem dX9_init_0 : decode cX9_init 0 = .ok (.aload_n 0, 1) := by decide +kernel
theorem dX9_init_1 : decode cX9_init 1 = .ok (.invokespecial 3, 3) := by decide +kernel
theorem dX9_init_4 : decode cX9_init 4 = .ok (.aload_n 0, 1) := by decide +kernel
theorem dX9_init_5 : decode cX9_init 5 = .ok (.bipush (-9), 2) := by decide +kernel
theorem dX9_init_7 : decode cX9_init 7 = .ok (.putfield 9, 3) := by decide +kernel
theorem dX9_init_10 : decode cX9_init 10 = .ok (.aload_n 0, 1) := by decide +kernel
theorem dX9_init_11 : decode cX9_init 11 = .ok (.iload_n 1, 1) := by decide +kernel
theorem dX9_init_12 : decode cX9_init 12 = .ok (.putfield 15, 3) := by decide +kernel
theorem dX9_init_15 : decode cX9_init 15 = .ok (.aload_n 0, 1) := by decide +kernel
theorem dX9_init_16 : decode cX9_init 16 = .ok (.iload_n 2, 1) := by decide +kernel
theorem dX9_init_17 : decode cX9_init 17 = .ok (.putfield 18, 3) := by decide +kernel
theorem dX9_init_20 : decode cX9_init 20 = .ok (.return_, 1) := by decide +kernel
theorem dX10_init_0 : decode cX10_init 0 = .ok (.aload_n 0, 1) := by decide +kernel
theorem dX10_init_1 : decode cX10_init 1 = .ok (.invokespecial 3, 3) := by decide +kernel
theorem dX10_init_4 : decode cX10_init 4 = .ok (.aload_n 0, 1) := by decide +kernel
theorem dX10_init_5 : decode cX10_init 5 = .ok (.iconst 4, 1) := by decide +kernel
theorem dX10_init_6 : decode cX10_init 6 = .ok (.putfield 9, 3) := by decide +kernel
theorem dX10_init_9 : decode cX10_init 9 = .ok (.aload_n 0, 1) := by decide +kernel
theorem dX10_init_10 : decode cX10_init 10 = .ok (.bipush 64, 2) := by decide +kernel
theorem dX10_init_12 : decode cX10_init 12 = .ok (.newarray .boolean, 2) := by decide +kernel
theorem dX10_init_14 : decode cX10_init 14 = .ok (.putfield 15, 3) := by decide +kernel
theorem dX10_init_17 : decode cX10_init 17 = .ok (.aload_n 0, 1) := by decide +kernel
theorem dX10_init_18 : decode cX10_init 18 = .ok (.bipush 64, 2) := by decide +kernel
theorem dX10_init_20 : decode cX10_init 20 = .ok (.newarray .int, 2) := by decide +kernel
theorem dX10_init_22 : decode cX10_init 22 = .ok (.putfield 19, 3) := by decide +kernel
theorem dX10_init_25 : decode cX10_init 25 = .ok (.return_, 1) := by decide +kernel
theorem dX10_has_0 : decode cX10_has 0 = .ok (.iload_n 1, 1) := by decide +kernel
theorem dX10_has_1 : decode cX10_has 1 = .ok (.iconst 0, 1) := by decide +kernel
theorem dX10_has_2 : decode cX10_has 2 = .ok (.aload_n 0, 1) := by decide +kernel
theorem dX10_has_3 : decode cX10_has 3 = .ok (.getfield 9, 3) := by decide +kernel
theorem dX10_has_6 : decode cX10_has 6 = .ok (.iconst 1, 1) := by decide +kernel
theorem dX10_has_7 : decode cX10_has 7 = .ok (.isub, 1) := by decide +kernel
theorem dX10_has_8 : decode cX10_has 8 = .ok (.invokestatic 23, 3) := by decide +kernel
theorem dX10_has_11 : decode cX10_has 11 = .ok (.ireturn, 1) := by decide +kernel
theorem dX10_cell_0 : decode cX10_cell 0 = .ok (.iload_n 0, 1) := by decide +kernel
theorem dX10_cell_1 : decode cX10_cell 1 = .ok (.bipush 8, 2) := by decide +kernel
theorem dX10_cell_3 : decode cX10_cell 3 = .ok (.imul, 1) := by decide +kernel
theorem dX10_cell_4 : decode cX10_cell 4 = .ok (.iload_n 1, 1) := by decide +kernel
theorem dX10_cell_5 : decode cX10_cell 5 = .ok (.iadd, 1) := by decide +kernel
theorem dX10_cell_6 : decode cX10_cell 6 = .ok (.ireturn, 1) := by decide +kernel
theorem dX10_resize_0 : decode cX10_resize 0 = .ok (.aload_n 0, 1) := by decide +kernel
theorem dX10_resize_1 : decode cX10_resize 1 = .ok (.iload_n 1, 1) := by decide +kernel
theorem dX10_resize_2 : decode cX10_resize 2 = .ok (.putfield 9, 3) := by decide +kernel
theorem dX10_resize_5 : decode cX10_resize 5 = .ok (.aload_n 0, 1) := by decide +kernel
theorem dX10_resize_6 : decode cX10_resize 6 = .ok (.iconst 0, 1) := by decide +kernel
theorem dX10_resize_7 : decode cX10_resize 7 = .ok (.putfield 27, 3) := by decide +kernel
theorem dX10_resize_10 : decode cX10_resize 10 = .ok (.iload_n 1, 1) := by decide +kernel
theorem dX10_resize_11 : decode cX10_resize 11 = .ok (.istore_n 2, 1) := by decide +kernel
theorem dX10_resize_12 : decode cX10_resize 12 = .ok (.iload_n 2, 1) := by decide +kernel
theorem dX10_resize_13 : decode cX10_resize 13 = .ok (.bipush 8, 2) := by decide +kernel
theorem dX10_resize_15 : decode cX10_resize 15 = .ok (.if_icmp .ge 45, 3) := by decide +kernel
theorem dX10_resize_18 : decode cX10_resize 18 = .ok (.iconst 0, 1) := by decide +kernel
theorem dX10_resize_19 : decode cX10_resize 19 = .ok (.istore_n 3, 1) := by decide +kernel
theorem dX10_resize_20 : decode cX10_resize 20 = .ok (.iload_n 3, 1) := by decide +kernel
theorem dX10_resize_21 : decode cX10_resize 21 = .ok (.bipush 8, 2) := by decide +kernel
theorem dX10_resize_23 : decode cX10_resize 23 = .ok (.if_icmp .ge 31, 3) := by decide +kernel
theorem dX10_resize_26 : decode cX10_resize 26 = .ok (.aload_n 0, 1) := by decide +kernel
theorem dX10_resize_27 : decode cX10_resize 27 = .ok (.getfield 15, 3) := by decide +kernel
theorem dX10_resize_30 : decode cX10_resize 30 = .ok (.iload_n 2, 1) := by decide +kernel
theorem dX10_resize_31 : decode cX10_resize 31 = .ok (.iload_n 3, 1) := by decide +kernel
theorem dX10_resize_32 : decode cX10_resize 32 = .ok (.invokestatic 31, 3) := by decide +kernel
theorem dX10_resize_35 : decode cX10_resize 35 = .ok (.iconst 0, 1) := by decide +kernel
theorem dX10_resize_36 : decode cX10_resize 36 = .ok (.bastore, 1) := by decide +kernel
theorem dX10_resize_37 : decode cX10_resize 37 = .ok (.aload_n 0, 1) := by decide +kernel
theorem dX10_resize_38 : decode cX10_resize 38 = .ok (.getfield 15, 3) := by decide +kernel
theorem dX10_resize_41 : decode cX10_resize 41 = .ok (.iload_n 3, 1) := by decide +kernel
theorem dX10_resize_42 : decode cX10_resize 42 = .ok (.iload_n 2, 1) := by decide +kernel
theorem dX10_resize_43 : decode cX10_resize 43 = .ok (.invokestatic 31, 3) := by decide +kernel
theorem dX10_resize_46 : decode cX10_resize 46 = .ok (.iconst 0, 1) := by decide +kernel
theorem dX10_resize_47 : decode cX10_resize 47 = .ok (.bastore, 1) := by decide +kernel
theorem dX10_resize_48 : decode cX10_resize 48 = .ok (.iinc 3 1, 3) := by decide +kernel
theorem dX10_resize_51 : decode cX10_resize 51 = .ok (.goto (-31), 3) := by decide +kernel
theorem dX10_resize_54 : decode cX10_resize 54 = .ok (.iinc 2 1, 3) := by decide +kernel
theorem dX10_resize_57 : decode cX10_resize 57 = .ok (.goto (-45), 3) := by decide +kernel
theorem dX10_resize_60 : decode cX10_resize 60 = .ok (.return_, 1) := by decide +kernel
theorem dX10_setWay_0 : decode cX10_setWay 0 = .ok (.aload_n 0, 1) := by decide +kernel
theorem dX10_setWay_1 : decode cX10_setWay 1 = .ok (.getfield 15, 3) := by decide +kernel
theorem dX10_setWay_4 : decode cX10_setWay 4 = .ok (.iload_n 1, 1) := by decide +kernel
theorem dX10_setWay_5 : decode cX10_setWay 5 = .ok (.iload_n 2, 1) := by decide +kernel
theorem dX10_setWay_6 : decode cX10_setWay 6 = .ok (.invokestatic 31, 3) := by decide +kernel
theorem dX10_setWay_9 : decode cX10_setWay 9 = .ok (.baload, 1) := by decide +kernel
theorem dX10_setWay_10 : decode cX10_setWay 10 = .ok (.istore 4, 2) := by decide +kernel
theorem dX10_setWay_12 : decode cX10_setWay 12 = .ok (.aload_n 0, 1) := by decide +kernel
theorem dX10_setWay_13 : decode cX10_setWay 13 = .ok (.getfield 15, 3) := by decide +kernel
theorem dX10_setWay_16 : decode cX10_setWay 16 = .ok (.iload_n 1, 1) := by decide +kernel
theorem dX10_setWay_17 : decode cX10_setWay 17 = .ok (.iload_n 2, 1) := by decide +kernel
theorem dX10_setWay_18 : decode cX10_setWay 18 = .ok (.invokestatic 31, 3) := by decide +kernel
theorem dX10_setWay_21 : decode cX10_setWay 21 = .ok (.iload_n 3, 1) := by decide +kernel
theorem dX10_setWay_22 : decode cX10_setWay 22 = .ok (.bastore, 1) := by decide +kernel
theorem dX10_setWay_23 : decode cX10_setWay 23 = .ok (.aload_n 0, 1) := by decide +kernel
theorem dX10_setWay_24 : decode cX10_setWay 24 = .ok (.getfield 15, 3) := by decide +kernel
theorem dX10_setWay_27 : decode cX10_setWay 27 = .ok (.iload_n 2, 1) := by decide +kernel
theorem dX10_setWay_28 : decode cX10_setWay 28 = .ok (.iload_n 1, 1) := by decide +kernel
theorem dX10_setWay_29 : decode cX10_setWay 29 = .ok (.invokestatic 31, 3) := by decide +kernel
theorem dX10_setWay_32 : decode cX10_setWay 32 = .ok (.iload_n 3, 1) := by decide +kernel
theorem dX10_setWay_33 : decode cX10_setWay 33 = .ok (.bastore, 1) := by decide +kernel
theorem dX10_setWay_34 : decode cX10_setWay 34 = .ok (.iload 4, 2) := by decide +kernel
theorem dX10_setWay_36 : decode cX10_setWay 36 = .ok (.iload_n 3, 1) := by decide +kernel
theorem dX10_setWay_37 : decode cX10_setWay 37 = .ok (.if_icmp .eq 8, 3) := by decide +kernel
theorem dX10_setWay_40 : decode cX10_setWay 40 = .ok (.aload_n 0, 1) := by decide +kernel
theorem dX10_setWay_41 : decode cX10_setWay 41 = .ok (.iconst 0, 1) := by decide +kernel
theorem dX10_setWay_42 : decode cX10_setWay 42 = .ok (.putfield 27, 3) := by decide +kernel
theorem dX10_setWay_45 : decode cX10_setWay 45 = .ok (.iload 4, 2) := by decide +kernel
theorem dX10_setWay_47 : decode cX10_setWay 47 = .ok (.ireturn, 1) := by decide +kernel
theorem dX10_isStep_0 : decode cX10_isStep 0 = .ok (.iload_n 1, 1) := by decide +kernel
theorem dX10_isStep_1 : decode cX10_isStep 1 = .ok (.iload_n 2, 1) := by decide +kernel
theorem dX10_isStep_2 : decode cX10_isStep 2 = .ok (.if_icmp .eq 16, 3) := by decide +kernel
theorem dX10_isStep_5 : decode cX10_isStep 5 = .ok (.aload_n 0, 1) := by decide +kernel
theorem dX10_isStep_6 : decode cX10_isStep 6 = .ok (.getfield 15, 3) := by decide +kernel
theorem dX10_isStep_9 : decode cX10_isStep 9 = .ok (.iload_n 1, 1) := by decide +kernel
theorem dX10_isStep_10 : decode cX10_isStep 10 = .ok (.iload_n 2, 1) := by decide +kernel
theorem dX10_isStep_11 : decode cX10_isStep 11 = .ok (.invokestatic 31, 3) := by decide +kernel
theorem dX10_isStep_14 : decode cX10_isStep 14 = .ok (.baload, 1) := by decide +kernel
theorem dX10_isStep_15 : decode cX10_isStep 15 = .ok (.ifCond .eq 7, 3) := by decide +kernel
theorem dX10_isStep_18 : decode cX10_isStep 18 = .ok (.iconst 1, 1) := by decide +kernel
theorem dX10_isStep_19 : decode cX10_isStep 19 = .ok (.goto 4, 3) := by decide +kernel
theorem dX10_isStep_22 : decode cX10_isStep 22 = .ok (.iconst 0, 1) := by decide +kernel
theorem dX10_isStep_23 : decode cX10_isStep 23 = .ok (.ireturn, 1) := by decide +kernel
theorem dX10_hops_0 : decode cX10_hops 0 = .ok (.aload_n 0, 1) := by decide +kernel
theorem dX10_hops_1 : decode cX10_hops 1 = .ok (.getfield 27, 3) := by decide +kernel
theorem dX10_hops_4 : decode cX10_hops 4 = .ok (.ifCond .ne 7, 3) := by decide +kernel
theorem dX10_hops_7 : decode cX10_hops 7 = .ok (.aload_n 0, 1) := by decide +kernel
theorem dX10_hops_8 : decode cX10_hops 8 = .ok (.invokevirtual 35, 3) := by decide +kernel
theorem dX10_hops_11 : decode cX10_hops 11 = .ok (.aload_n 0, 1) := by decide +kernel
theorem dX10_hops_12 : decode cX10_hops 12 = .ok (.getfield 19, 3) := by decide +kernel
theorem dX10_hops_15 : decode cX10_hops 15 = .ok (.iload_n 1, 1) := by decide +kernel
theorem dX10_hops_16 : decode cX10_hops 16 = .ok (.iload_n 2, 1) := by decide +kernel
theorem dX10_hops_17 : decode cX10_hops 17 = .ok (.invokestatic 31, 3) := by decide +kernel
theorem dX10_hops_20 : decode cX10_hops 20 = .ok (.iaload, 1) := by decide +kernel
theorem dX10_hops_21 : decode cX10_hops 21 = .ok (.ireturn, 1) := by decide +kernel
theorem dX10_measure_0 : decode cX10_measure 0 = .ok (.aload_n 0, 1) := by decide +kernel
theorem dX10_measure_1 : decode cX10_measure 1 = .ok (.iconst 1, 1) := by decide +kernel
theorem dX10_measure_2 : decode cX10_measure 2 = .ok (.putfield 27, 3) := by decide +kernel
theorem dX10_measure_5 : decode cX10_measure 5 = .ok (.iconst 0, 1) := by decide +kernel
theorem dX10_measure_6 : decode cX10_measure 6 = .ok (.istore_n 1, 1) := by decide +kernel
theorem dX10_measure_7 : decode cX10_measure 7 = .ok (.iload_n 1, 1) := by decide +kernel
theorem dX10_measure_8 : decode cX10_measure 8 = .ok (.aload_n 0, 1) := by decide +kernel
theorem dX10_measure_9 : decode cX10_measure 9 = .ok (.getfield 9, 3) := by decide +kernel
theorem dX10_measure_12 : decode cX10_measure 12 = .ok (.if_icmp .ge 64, 3) := by decide +kernel
theorem dX10_measure_15 : decode cX10_measure 15 = .ok (.iconst 0, 1) := by decide +kernel
theorem dX10_measure_16 : decode cX10_measure 16 = .ok (.istore_n 2, 1) := by decide +kernel
theorem dX10_measure_17 : decode cX10_measure 17 = .ok (.iload_n 2, 1) := by decide +kernel
theorem dX10_measure_18 : decode cX10_measure 18 = .ok (.aload_n 0, 1) := by decide +kernel
theorem dX10_measure_19 : decode cX10_measure 19 = .ok (.getfield 9, 3) := by decide +kernel
theorem dX10_measure_22 : decode cX10_measure 22 = .ok (.if_icmp .ge 48, 3) := by decide +kernel
theorem dX10_measure_25 : decode cX10_measure 25 = .ok (.aload_n 0, 1) := by decide +kernel
theorem dX10_measure_26 : decode cX10_measure 26 = .ok (.getfield 19, 3) := by decide +kernel
theorem dX10_measure_29 : decode cX10_measure 29 = .ok (.iload_n 1, 1) := by decide +kernel
theorem dX10_measure_30 : decode cX10_measure 30 = .ok (.iload_n 2, 1) := by decide +kernel
theorem dX10_measure_31 : decode cX10_measure 31 = .ok (.invokestatic 31, 3) := by decide +kernel
theorem dX10_measure_34 : decode cX10_measure 34 = .ok (.iload_n 1, 1) := by decide +kernel
theorem dX10_measure_35 : decode cX10_measure 35 = .ok (.iload_n 2, 1) := by decide +kernel
theorem dX10_measure_36 : decode cX10_measure 36 = .ok (.if_icmp .ne 7, 3) := by decide +kernel
theorem dX10_measure_39 : decode cX10_measure 39 = .ok (.iconst 0, 1) := by decide +kernel
theorem dX10_measure_40 : decode cX10_measure 40 = .ok (.goto 23, 3) := by decide +kernel
theorem dX10_measure_43 : decode cX10_measure 43 = .ok (.aload_n 0, 1) := by decide +kernel
theorem dX10_measure_44 : decode cX10_measure 44 = .ok (.getfield 15, 3) := by decide +kernel
theorem dX10_measure_47 : decode cX10_measure 47 = .ok (.iload_n 1, 1) := by decide +kernel
theorem dX10_measure_48 : decode cX10_measure 48 = .ok (.iload_n 2, 1) := by decide +kernel
theorem dX10_measure_49 : decode cX10_measure 49 = .ok (.invokestatic 31, 3) := by decide +kernel
theorem dX10_measure_52 : decode cX10_measure 52 = .ok (.baload, 1) := by decide +kernel
theorem dX10_measure_53 : decode cX10_measure 53 = .ok (.ifCond .eq 7, 3) := by decide +kernel
theorem dX10_measure_56 : decode cX10_measure 56 = .ok (.iconst 1, 1) := by decide +kernel
theorem dX10_measure_57 : decode cX10_measure 57 = .ok (.goto 6, 3) := by decide +kernel
theorem dX10_measure_60 : decode cX10_measure 60 = .ok (.sipush 999, 3) := by decide +kernel
theorem dX10_measure_63 : decode cX10_measure 63 = .ok (.iastore, 1) := by decide +kernel
theorem dX10_measure_64 : decode cX10_measure 64 = .ok (.iinc 2 1, 3) := by decide +kernel
theorem dX10_measure_67 : decode cX10_measure 67 = .ok (.goto (-50), 3) := by decide +kernel
theorem dX10_measure_70 : decode cX10_measure 70 = .ok (.iinc 1 1, 3) := by decide +kernel
theorem dX10_measure_73 : decode cX10_measure 73 = .ok (.goto (-66), 3) := by decide +kernel
theorem dX10_measure_76 : decode cX10_measure 76 = .ok (.iconst 0, 1) := by decide +kernel
theorem dX10_measure_77 : decode cX10_measure 77 = .ok (.istore_n 1, 1) := by decide +kernel
theorem dX10_measure_78 : decode cX10_measure 78 = .ok (.iload_n 1, 1) := by decide +kernel
theorem dX10_measure_79 : decode cX10_measure 79 = .ok (.aload_n 0, 1) := by decide +kernel
theorem dX10_measure_80 : decode cX10_measure 80 = .ok (.getfield 9, 3) := by decide +kernel
theorem dX10_measure_83 : decode cX10_measure 83 = .ok (.if_icmp .ge 89, 3) := by decide +kernel
theorem dX10_measure_86 : decode cX10_measure 86 = .ok (.iconst 0, 1) := by decide +kernel
theorem dX10_measure_87 : decode cX10_measure 87 = .ok (.istore_n 2, 1) := by decide +kernel
theorem dX10_measure_88 : decode cX10_measure 88 = .ok (.iload_n 2, 1) := by decide +kernel
theorem dX10_measure_89 : decode cX10_measure 89 = .ok (.aload_n 0, 1) := by decide +kernel
theorem dX10_measure_90 : decode cX10_measure 90 = .ok (.getfield 9, 3) := by decide +kernel
theorem dX10_measure_93 : decode cX10_measure 93 = .ok (.if_icmp .ge 73, 3) := by decide +kernel
theorem dX10_measure_96 : decode cX10_measure 96 = .ok (.iconst 0, 1) := by decide +kernel
theorem dX10_measure_97 : decode cX10_measure 97 = .ok (.istore_n 3, 1) := by decide +kernel
theorem dX10_measure_98 : decode cX10_measure 98 = .ok (.iload_n 3, 1) := by decide +kernel
theorem dX10_measure_99 : decode cX10_measure 99 = .ok (.aload_n 0, 1) := by decide +kernel
theorem dX10_measure_100 : decode cX10_measure 100 = .ok (.getfield 9, 3) := by decide +kernel
theorem dX10_measure_103 : decode cX10_measure 103 = .ok (.if_icmp .ge 57, 3) := by decide +kernel
theorem dX10_measure_106 : decode cX10_measure 106 = .ok (.aload_n 0, 1) := by decide +kernel
theorem dX10_measure_107 : decode cX10_measure 107 = .ok (.getfield 19, 3) := by decide +kernel
theorem dX10_measure_110 : decode cX10_measure 110 = .ok (.iload_n 2, 1) := by decide +kernel
theorem dX10_measure_111 : decode cX10_measure 111 = .ok (.iload_n 1, 1) := by decide +kernel
theorem dX10_measure_112 : decode cX10_measure 112 = .ok (.invokestatic 31, 3) := by decide +kernel
theorem dX10_measure_115 : decode cX10_measure 115 = .ok (.iaload, 1) := by decide +kernel
theorem dX10_measure_116 : decode cX10_measure 116 = .ok (.aload_n 0, 1) := by decide +kernel
theorem dX10_measure_117 : decode cX10_measure 117 = .ok (.getfield 19, 3) := by decide +kernel
theorem dX10_measure_120 : decode cX10_measure 120 = .ok (.iload_n 1, 1) := by decide +kernel
theorem dX10_measure_121 : decode cX10_measure 121 = .ok (.iload_n 3, 1) := by decide +kernel
theorem dX10_measure_122 : decode cX10_measure 122 = .ok (.invokestatic 31, 3) := by decide +kernel
theorem dX10_measure_125 : decode cX10_measure 125 = .ok (.iaload, 1) := by decide +kernel
theorem dX10_measure_126 : decode cX10_measure 126 = .ok (.iadd, 1) := by decide +kernel
theorem dX10_measure_127 : decode cX10_measure 127 = .ok (.istore 4, 2) := by decide +kernel
theorem dX10_measure_129 : decode cX10_measure 129 = .ok (.aload_n 0, 1) := by decide +kernel
theorem dX10_measure_130 : decode cX10_measure 130 = .ok (.getfield 19, 3) := by decide +kernel
theorem dX10_measure_133 : decode cX10_measure 133 = .ok (.iload_n 2, 1) := by decide +kernel
theorem dX10_measure_134 : decode cX10_measure 134 = .ok (.iload_n 3, 1) := by decide +kernel
theorem dX10_measure_135 : decode cX10_measure 135 = .ok (.invokestatic 31, 3) := by decide +kernel
theorem dX10_measure_138 : decode cX10_measure 138 = .ok (.aload_n 0, 1) := by decide +kernel
theorem dX10_measure_139 : decode cX10_measure 139 = .ok (.getfield 19, 3) := by decide +kernel
theorem dX10_measure_142 : decode cX10_measure 142 = .ok (.iload_n 2, 1) := by decide +kernel
theorem dX10_measure_143 : decode cX10_measure 143 = .ok (.iload_n 3, 1) := by decide +kernel
theorem dX10_measure_144 : decode cX10_measure 144 = .ok (.invokestatic 31, 3) := by decide +kernel
theorem dX10_measure_147 : decode cX10_measure 147 = .ok (.iaload, 1) := by decide +kernel
theorem dX10_measure_148 : decode cX10_measure 148 = .ok (.iload 4, 2) := by decide +kernel
theorem dX10_measure_150 : decode cX10_measure 150 = .ok (.invokestatic 38, 3) := by decide +kernel
theorem dX10_measure_153 : decode cX10_measure 153 = .ok (.iastore, 1) := by decide +kernel
theorem dX10_measure_154 : decode cX10_measure 154 = .ok (.iinc 3 1, 3) := by decide +kernel
theorem dX10_measure_157 : decode cX10_measure 157 = .ok (.goto (-59), 3) := by decide +kernel
theorem dX10_measure_160 : decode cX10_measure 160 = .ok (.iinc 2 1, 3) := by decide +kernel
theorem dX10_measure_163 : decode cX10_measure 163 = .ok (.goto (-75), 3) := by decide +kernel
theorem dX10_measure_166 : decode cX10_measure 166 = .ok (.iinc 1 1, 3) := by decide +kernel
theorem dX10_measure_169 : decode cX10_measure 169 = .ok (.goto (-91), 3) := by decide +kernel
theorem dX10_measure_172 : decode cX10_measure 172 = .ok (.return_, 1) := by decide +kernel
theorem dX11_init_0 : decode cX11_init 0 = .ok (.aload_n 0, 1) := by decide +kernel
theorem dX11_init_1 : decode cX11_init 1 = .ok (.invokespecial 1, 3) := by decide +kernel
theorem dX11_init_4 : decode cX11_init 4 = .ok (.aload_n 0, 1) := by decide +kernel
theorem dX11_init_5 : decode cX11_init 5 = .ok (.new 7, 3) := by decide +kernel
theorem dX11_init_8 : decode cX11_init 8 = .ok (.dup, 1) := by decide +kernel
theorem dX11_init_9 : decode cX11_init 9 = .ok (.invokespecial 9, 3) := by decide +kernel
theorem dX11_init_12 : decode cX11_init 12 = .ok (.putfield 10, 3) := by decide +kernel
theorem dX11_init_15 : decode cX11_init 15 = .ok (.aload_n 0, 1) := by decide +kernel
theorem dX11_init_16 : decode cX11_init 16 = .ok (.bipush 40, 2) := by decide +kernel
theorem dX11_init_18 : decode cX11_init 18 = .ok (.anewarray 16, 3) := by decide +kernel
theorem dX11_init_21 : decode cX11_init 21 = .ok (.putfield 18, 3) := by decide +kernel
theorem dX11_init_24 : decode cX11_init 24 = .ok (.aload_n 0, 1) := by decide +kernel
theorem dX11_init_25 : decode cX11_init 25 = .ok (.bipush 60, 2) := by decide +kernel
theorem dX11_init_27 : decode cX11_init 27 = .ok (.anewarray 22, 3) := by decide +kernel
theorem dX11_init_30 : decode cX11_init 30 = .ok (.putfield 24, 3) := by decide +kernel
theorem dX11_init_33 : decode cX11_init 33 = .ok (.aload_n 0, 1) := by decide +kernel
theorem dX11_init_34 : decode cX11_init 34 = .ok (.bipush 8, 2) := by decide +kernel
theorem dX11_init_36 : decode cX11_init 36 = .ok (.anewarray 28, 3) := by decide +kernel
theorem dX11_init_39 : decode cX11_init 39 = .ok (.putfield 30, 3) := by decide +kernel
theorem dX11_init_42 : decode cX11_init 42 = .ok (.aload_n 0, 1) := by decide +kernel
theorem dX11_init_43 : decode cX11_init 43 = .ok (.new 34, 3) := by decide +kernel
theorem dX11_init_46 : decode cX11_init 46 = .ok (.dup, 1) := by decide +kernel
theorem dX11_init_47 : decode cX11_init 47 = .ok (.invokespecial 36, 3) := by decide +kernel
theorem dX11_init_50 : decode cX11_init 50 = .ok (.putfield 37, 3) := by decide +kernel
theorem dX11_init_53 : decode cX11_init 53 = .ok (.aload_n 0, 1) := by decide +kernel
theorem dX11_init_54 : decode cX11_init 54 = .ok (.bipush 10, 2) := by decide +kernel
theorem dX11_init_56 : decode cX11_init 56 = .ok (.anewarray 41, 3) := by decide +kernel
theorem dX11_init_59 : decode cX11_init 59 = .ok (.putfield 43, 3) := by decide +kernel
theorem dX11_init_62 : decode cX11_init 62 = .ok (.aload_n 0, 1) := by decide +kernel
theorem dX11_init_63 : decode cX11_init 63 = .ok (.bipush 40, 2) := by decide +kernel
theorem dX11_init_65 : decode cX11_init 65 = .ok (.anewarray 47, 3) := by decide +kernel
theorem dX11_init_68 : decode cX11_init 68 = .ok (.putfield 49, 3) := by decide +kernel
theorem dX11_init_71 : decode cX11_init 71 = .ok (.aload_n 0, 1) := by decide +kernel
theorem dX11_init_72 : decode cX11_init 72 = .ok (.bipush 10, 2) := by decide +kernel
theorem dX11_init_74 : decode cX11_init 74 = .ok (.newarray .int, 2) := by decide +kernel
theorem dX11_init_76 : decode cX11_init 76 = .ok (.putfield 53, 3) := by decide +kernel
theorem dX11_init_79 : decode cX11_init 79 = .ok (.aload_n 0, 1) := by decide +kernel
theorem dX11_init_80 : decode cX11_init 80 = .ok (.bipush 8, 2) := by decide +kernel
theorem dX11_init_82 : decode cX11_init 82 = .ok (.newarray .int, 2) := by decide +kernel
theorem dX11_init_84 : decode cX11_init 84 = .ok (.putfield 57, 3) := by decide +kernel
theorem dX11_init_87 : decode cX11_init 87 = .ok (.aload_n 0, 1) := by decide +kernel
theorem dX11_init_88 : decode cX11_init 88 = .ok (.new 60, 3) := by decide +kernel
theorem dX11_init_91 : decode cX11_init 91 = .ok (.dup, 1) := by decide +kernel
theorem dX11_init_92 : decode cX11_init 92 = .ok (.aload_n 0, 1) := by decide +kernel
theorem dX11_init_93 : decode cX11_init 93 = .ok (.getfield 10, 3) := by decide +kernel
theorem dX11_init_96 : decode cX11_init 96 = .ok (.invokespecial 62, 3) := by decide +kernel
theorem dX11_init_99 : decode cX11_init 99 = .ok (.putfield 65, 3) := by decide +kernel
theorem dX11_init_102 : decode cX11_init 102 = .ok (.aload_n 0, 1) := by decide +kernel
theorem dX11_init_103 : decode cX11_init 103 = .ok (.new 69, 3) := by decide +kernel
theorem dX11_init_106 : decode cX11_init 106 = .ok (.dup, 1) := by decide +kernel
theorem dX11_init_107 : decode cX11_init 107 = .ok (.invokespecial 71, 3) := by decide +kernel
theorem dX11_init_110 : decode cX11_init 110 = .ok (.putfield 72, 3) := by decide +kernel
theorem dX11_init_113 : decode cX11_init 113 = .ok (.aload_n 0, 1) := by decide +kernel
theorem dX11_init_114 : decode cX11_init 114 = .ok (.bipush 10, 2) := by decide +kernel
theorem dX11_init_116 : decode cX11_init 116 = .ok (.putfield 76, 3) := by decide +kernel
theorem dX11_init_119 : decode cX11_init 119 = .ok (.aload_n 0, 1) := by decide +kernel
theorem dX11_init_120 : decode cX11_init 120 = .ok (.bipush 50, 2) := by decide +kernel
theorem dX11_init_122 : decode cX11_init 122 = .ok (.putfield 80, 3) := by decide +kernel
theorem dX11_init_125 : decode cX11_init 125 = .ok (.aload_n 0, 1) := by decide +kernel
theorem dX11_init_126 : decode cX11_init 126 = .ok (.getfield 53, 3) := by decide +kernel
theorem dX11_init_129 : decode cX11_init 129 = .ok (.ldc 83, 2) := by decide +kernel
theorem dX11_init_131 : decode cX11_init 131 = .ok (.invokestatic 84, 3) := by decide +kernel
theorem dX11_init_134 : decode cX11_init 134 = .ok (.return_, 1) := by decide +kernel
theorem dX11_streets_0 : decode cX11_streets 0 = .ok (.iload_n 1, 1) := by decide +kernel
theorem dX11_streets_1 : decode cX11_streets 1 = .ok (.iconst 1, 1) := by decide +kernel
theorem dX11_streets_2 : decode cX11_streets 2 = .ok (.bipush 8, 2) := by decide +kernel
theorem dX11_streets_4 : decode cX11_streets 4 = .ok (.invokestatic 90, 3) := by decide +kernel
theorem dX11_streets_7 : decode cX11_streets 7 = .ok (.ifCond .ne 6, 3) := by decide +kernel
theorem dX11_streets_10 : decode cX11_streets 10 = .ok (.bipush (-2), 2) := by decide +kernel
theorem dX11_streets_12 : decode cX11_streets 12 = .ok (.ireturn, 1) := by decide +kernel
theorem dX11_streets_13 : decode cX11_streets 13 = .ok (.aload_n 0, 1) := by decide +kernel
theorem dX11_streets_14 : decode cX11_streets 14 = .ok (.getfield 94, 3) := by decide +kernel
theorem dX11_streets_17 : decode cX11_streets 17 = .ok (.ifCond .le 6, 3) := by decide +kernel
theorem dX11_streets_20 : decode cX11_streets 20 = .ok (.bipush (-3), 2) := by decide +kernel
theorem dX11_streets_22 : decode cX11_streets 22 = .ok (.ireturn, 1) := by decide +kernel
theorem dX11_streets_23 : decode cX11_streets 23 = .ok (.aload_n 0, 1) := by decide +kernel
theorem dX11_streets_24 : decode cX11_streets 24 = .ok (.getfield 10, 3) := by decide +kernel
theorem dX11_streets_27 : decode cX11_streets 27 = .ok (.getfield 97, 3) := by decide +kernel
theorem dX11_streets_30 : decode cX11_streets 30 = .ok (.istore_n 2, 1) := by decide +kernel
theorem dX11_streets_31 : decode cX11_streets 31 = .ok (.aload_n 0, 1) := by decide +kernel
theorem dX11_streets_32 : decode cX11_streets 32 = .ok (.getfield 10, 3) := by decide +kernel
theorem dX11_streets_35 : decode cX11_streets 35 = .ok (.iload_n 1, 1) := by decide +kernel
theorem dX11_streets_36 : decode cX11_streets 36 = .ok (.invokevirtual 100, 3) := by decide +kernel
theorem dX11_streets_39 : decode cX11_streets 39 = .ok (.iload_n 2, 1) := by decide +kernel
theorem dX11_streets_40 : decode cX11_streets 40 = .ok (.ireturn, 1) := by decide +kernel
theorem dX11_way_0 : decode cX11_way 0 = .ok (.aload_n 0, 1) := by decide +kernel
theorem dX11_way_1 : decode cX11_way 1 = .ok (.getfield 10, 3) := by decide +kernel
theorem dX11_way_4 : decode cX11_way 4 = .ok (.iload_n 1, 1) := by decide +kernel
theorem dX11_way_5 : decode cX11_way 5 = .ok (.invokevirtual 104, 3) := by decide +kernel
theorem dX11_way_8 : decode cX11_way 8 = .ok (.ifCond .eq 14, 3) := by decide +kernel
theorem dX11_way_11 : decode cX11_way 11 = .ok (.aload_n 0, 1) := by decide +kernel
theorem dX11_way_12 : decode cX11_way 12 = .ok (.getfield 10, 3) := by decide +kernel
theorem dX11_way_15 : decode cX11_way 15 = .ok (.iload_n 2, 1) := by decide +kernel
theorem dX11_way_16 : decode cX11_way 16 = .ok (.invokevirtual 104, 3) := by decide +kernel
theorem dX11_way_19 : decode cX11_way 19 = .ok (.ifCond .ne 5, 3) := by decide +kernel
theorem dX11_way_22 : decode cX11_way 22 = .ok (.iconst (-1), 1) := by decide +kernel
theorem dX11_way_23 : decode cX11_way 23 = .ok (.ireturn, 1) := by decide +kernel
theorem dX11_way_24 : decode cX11_way 24 = .ok (.iload_n 1, 1) := by decide +kernel
theorem dX11_way_25 : decode cX11_way 25 = .ok (.iload_n 2, 1) := by decide +kernel
theorem dX11_way_26 : decode cX11_way 26 = .ok (.if_icmp .ne 6, 3) := by decide +kernel
theorem dX11_way_29 : decode cX11_way 29 = .ok (.bipush (-2), 2) := by decide +kernel
theorem dX11_way_31 : decode cX11_way 31 = .ok (.ireturn, 1) := by decide +kernel
theorem dX11_way_32 : decode cX11_way 32 = .ok (.aload_n 0, 1) := by decide +kernel
theorem dX11_way_33 : decode cX11_way 33 = .ok (.getfield 10, 3) := by decide +kernel
theorem dX11_way_36 : decode cX11_way 36 = .ok (.iload_n 1, 1) := by decide +kernel
theorem dX11_way_37 : decode cX11_way 37 = .ok (.iload_n 2, 1) := by decide +kernel
theorem dX11_way_38 : decode cX11_way 38 = .ok (.iload_n 3, 1) := by decide +kernel
theorem dX11_way_39 : decode cX11_way 39 = .ok (.invokevirtual 108, 3) := by decide +kernel
theorem dX11_way_42 : decode cX11_way 42 = .ok (.invokestatic 112, 3) := by decide +kernel
theorem dX11_way_45 : decode cX11_way 45 = .ok (.ireturn, 1) := by decide +kernel
theorem dX11_far_0 : decode cX11_far 0 = .ok (.aload_n 0, 1) := by decide +kernel
theorem dX11_far_1 : decode cX11_far 1 = .ok (.getfield 10, 3) := by decide +kernel
theorem dX11_far_4 : decode cX11_far 4 = .ok (.iload_n 1, 1) := by decide +kernel
theorem dX11_far_5 : decode cX11_far 5 = .ok (.invokevirtual 104, 3) := by decide +kernel
theorem dX11_far_8 : decode cX11_far 8 = .ok (.ifCond .eq 14, 3) := by decide +kernel
theorem dX11_far_11 : decode cX11_far 11 = .ok (.aload_n 0, 1) := by decide +kernel
theorem dX11_far_12 : decode cX11_far 12 = .ok (.getfield 10, 3) := by decide +kernel
theorem dX11_far_15 : decode cX11_far 15 = .ok (.iload_n 2, 1) := by decide +kernel
theorem dX11_far_16 : decode cX11_far 16 = .ok (.invokevirtual 104, 3) := by decide +kernel
theorem dX11_far_19 : decode cX11_far 19 = .ok (.ifCond .ne 5, 3) := by decide +kernel
theorem dX11_far_22 : decode cX11_far 22 = .ok (.iconst (-1), 1) := by decide +kernel
theorem dX11_far_23 : decode cX11_far 23 = .ok (.ireturn, 1) := by decide +kernel
theorem dX11_far_24 : decode cX11_far 24 = .ok (.aload_n 0, 1) := by decide +kernel
theorem dX11_far_25 : decode cX11_far 25 = .ok (.getfield 10, 3) := by decide +kernel
theorem dX11_far_28 : decode cX11_far 28 = .ok (.iload_n 1, 1) := by decide +kernel
theorem dX11_far_29 : decode cX11_far 29 = .ok (.iload_n 2, 1) := by decide +kernel
theorem dX11_far_30 : decode cX11_far 30 = .ok (.invokevirtual 116, 3) := by decide +kernel
theorem dX11_far_33 : decode cX11_far 33 = .ok (.istore_n 3, 1) := by decide +kernel
theorem dX11_far_34 : decode cX11_far 34 = .ok (.iload_n 3, 1) := by decide +kernel
theorem dX11_far_35 : decode cX11_far 35 = .ok (.sipush 999, 3) := by decide +kernel
theorem dX11_far_38 : decode cX11_far 38 = .ok (.if_icmp .ne 8, 3) := by decide +kernel
theorem dX11_far_41 : decode cX11_far 41 = .ok (.bipush (-9), 2) := by decide +kernel
theorem dX11_far_43 : decode cX11_far 43 = .ok (.goto 4, 3) := by decide +kernel
theorem dX11_far_46 : decode cX11_far 46 = .ok (.iload_n 3, 1) := by decide +kernel
theorem dX11_far_47 : decode cX11_far 47 = .ok (.ireturn, 1) := by decide +kernel
theorem dX11_man_0 : decode cX11_man 0 = .ok (.aload_n 0, 1) := by decide +kernel
theorem dX11_man_1 : decode cX11_man 1 = .ok (.getfield 10, 3) := by decide +kernel
theorem dX11_man_4 : decode cX11_man 4 = .ok (.iload 7, 2) := by decide +kernel
theorem dX11_man_6 : decode cX11_man 6 = .ok (.invokevirtual 104, 3) := by decide +kernel
theorem dX11_man_9 : decode cX11_man 9 = .ok (.ifCond .ne 5, 3) := by decide +kernel
theorem dX11_man_12 : decode cX11_man 12 = .ok (.iconst (-1), 1) := by decide +kernel
theorem dX11_man_13 : decode cX11_man 13 = .ok (.ireturn, 1) := by decide +kernel
theorem dX11_man_14 : decode cX11_man 14 = .ok (.iload_n 1, 1) := by decide +kernel
theorem dX11_man_15 : decode cX11_man 15 = .ok (.bipush 10, 2) := by decide +kernel
theorem dX11_man_17 : decode cX11_man 17 = .ok (.bipush 60, 2) := by decide +kernel
theorem dX11_man_19 : decode cX11_man 19 = .ok (.invokestatic 90, 3) := by decide +kernel
theorem dX11_man_22 : decode cX11_man 22 = .ok (.ifCond .eq 54, 3) := by decide +kernel
theorem dX11_man_25 : decode cX11_man 25 = .ok (.iload_n 2, 1) := by decide +kernel
theorem dX11_man_26 : decode cX11_man 26 = .ok (.iconst 0, 1) := by decide +kernel
theorem dX11_man_27 : decode cX11_man 27 = .ok (.iconst 3, 1) := by decide +kernel
theorem dX11_man_28 : decode cX11_man 28 = .ok (.invokestatic 90, 3) := by decide +kernel
theorem dX11_man_31 : decode cX11_man 31 = .ok (.ifCond .eq 45, 3) := by decide +kernel
theorem dX11_man_34 : decode cX11_man 34 = .ok (.iload_n 3, 1) := by decide +kernel
theorem dX11_man_35 : decode cX11_man 35 = .ok (.iconst 0, 1) := by decide +kernel
theorem dX11_man_36 : decode cX11_man 36 = .ok (.iconst 3, 1) := by decide +kernel
theorem dX11_man_37 : decode cX11_man 37 = .ok (.invokestatic 90, 3) := by decide +kernel
theorem dX11_man_40 : decode cX11_man 40 = .ok (.ifCond .eq 36, 3) := by decide +kernel
theorem dX11_man_43 : decode cX11_man 43 = .ok (.iload 4, 2) := by decide +kernel
theorem dX11_man_45 : decode cX11_man 45 = .ok (.bipush 50, 2) := by decide +kernel
theorem dX11_man_47 : decode cX11_man 47 = .ok (.bipush 80, 2) := by decide +kernel
theorem dX11_man_49 : decode cX11_man 49 = .ok (.invokestatic 90, 3) := by decide +kernel
theorem dX11_man_52 : decode cX11_man 52 = .ok (.ifCond .eq 24, 3) := by decide +kernel
theorem dX11_man_55 : decode cX11_man 55 = .ok (.iload 5, 2) := by decide +kernel
theorem dX11_man_57 : decode cX11_man 57 = .ok (.iconst 0, 1) := by decide +kernel
theorem dX11_man_58 : decode cX11_man 58 = .ok (.iconst 5, 1) := by decide +kernel
theorem dX11_man_59 : decode cX11_man 59 = .ok (.invokestatic 90, 3) := by decide +kernel
theorem dX11_man_62 : decode cX11_man 62 = .ok (.ifCond .eq 14, 3) := by decide +kernel
theorem dX11_man_65 : decode cX11_man 65 = .ok (.iload 6, 2) := by decide +kernel
theorem dX11_man_67 : decode cX11_man 67 = .ok (.iconst 0, 1) := by decide +kernel
theorem dX11_man_68 : decode cX11_man 68 = .ok (.bipush 40, 2) := by decide +kernel
theorem dX11_man_70 : decode cX11_man 70 = .ok (.invokestatic 90, 3) := by decide +kernel
theorem dX11_man_73 : decode cX11_man 73 = .ok (.ifCond .ne 6, 3) := by decide +kernel
theorem dX11_man_76 : decode cX11_man 76 = .ok (.bipush (-2), 2) := by decide +kernel
theorem dX11_man_78 : decode cX11_man 78 = .ok (.ireturn, 1) := by decide +kernel
theorem dX11_man_79 : decode cX11_man 79 = .ok (.aload_n 0, 1) := by decide +kernel
theorem dX11_man_80 : decode cX11_man 80 = .ok (.getfield 94, 3) := by decide +kernel
theorem dX11_man_83 : decode cX11_man 83 = .ok (.bipush 40, 2) := by decide +kernel
theorem dX11_man_85 : decode cX11_man 85 = .ok (.if_icmp .lt 6, 3) := by decide +kernel
theorem dX11_man_88 : decode cX11_man 88 = .ok (.bipush (-4), 2) := by decide +kernel
theorem dX11_man_90 : decode cX11_man 90 = .ok (.ireturn, 1) := by decide +kernel
theorem dX11_man_91 : decode cX11_man 91 = .ok (.aload_n 0, 1) := by decide +kernel
theorem dX11_man_92 : decode cX11_man 92 = .ok (.getfield 18, 3) := by decide +kernel
theorem dX11_man_95 : decode cX11_man 95 = .ok (.aload_n 0, 1) := by decide +kernel
theorem dX11_man_96 : decode cX11_man 96 = .ok (.getfield 94, 3) := by decide +kernel
theorem dX11_man_99 : decode cX11_man 99 = .ok (.new 16, 3) := by decide +kernel
theorem dX11_man_102 : decode cX11_man 102 = .ok (.dup, 1) := by decide +kernel
theorem dX11_man_103 : decode cX11_man 103 = .ok (.iload_n 1, 1) := by decide +kernel
theorem dX11_man_104 : decode cX11_man 104 = .ok (.iload_n 2, 1) := by decide +kernel
theorem dX11_man_105 : decode cX11_man 105 = .ok (.iload_n 3, 1) := by decide +kernel
theorem dX11_man_106 : decode cX11_man 106 = .ok (.iload 4, 2) := by decide +kernel
theorem dX11_man_108 : decode cX11_man 108 = .ok (.iload 5, 2) := by decide +kernel
theorem dX11_man_110 : decode cX11_man 110 = .ok (.iload 6, 2) := by decide +kernel
theorem dX11_man_112 : decode cX11_man 112 = .ok (.iload 7, 2) := by decide +kernel
theorem dX11_man_114 : decode cX11_man 114 = .ok (.invokespecial 120, 3) := by decide +kernel
theorem dX11_man_117 : decode cX11_man 117 = .ok (.aastore, 1) := by decide +kernel
theorem dX11_man_118 : decode cX11_man 118 = .ok (.aload_n 0, 1) := by decide +kernel
theorem dX11_man_119 : decode cX11_man 119 = .ok (.dup, 1) := by decide +kernel
theorem dX11_man_120 : decode cX11_man 120 = .ok (.getfield 94, 3) := by decide +kernel
theorem dX11_man_123 : decode cX11_man 123 = .ok (.iconst 1, 1) := by decide +kernel
theorem dX11_man_124 : decode cX11_man 124 = .ok (.iadd, 1) := by decide +kernel
theorem dX11_man_125 : decode cX11_man 125 = .ok (.putfield 94, 3) := by decide +kernel
theorem dX11_man_128 : decode cX11_man 128 = .ok (.aload_n 0, 1) := by decide +kernel
theorem dX11_man_129 : decode cX11_man 129 = .ok (.getfield 94, 3) := by decide +kernel
theorem dX11_man_132 : decode cX11_man 132 = .ok (.iconst 1, 1) := by decide +kernel
theorem dX11_man_133 : decode cX11_man 133 = .ok (.isub, 1) := by decide +kernel
theorem dX11_man_134 : decode cX11_man 134 = .ok (.ireturn, 1) := by decide +kernel
theorem dX11_about_0 : decode cX11_about 0 = .ok (.aload_n 0, 1) := by decide +kernel
theorem dX11_about_1 : decode cX11_about 1 = .ok (.iload_n 1, 1) := by decide +kernel
theorem dX11_about_2 : decode cX11_about 2 = .ok (.invokevirtual 123, 3) := by decide +kernel
theorem dX11_about_5 : decode cX11_about 5 = .ok (.astore_n 3, 1) := by decide +kernel
theorem dX11_about_6 : decode cX11_about 6 = .ok (.aload_n 3, 1) := by decide +kernel
theorem dX11_about_7 : decode cX11_about 7 = .ok (.ifnonnull 5, 3) := by decide +kernel
theorem dX11_about_10 : decode cX11_about 10 = .ok (.iconst (-1), 1) := by decide +kernel
theorem dX11_about_11 : decode cX11_about 11 = .ok (.ireturn, 1) := by decide +kernel
theorem dX11_about_12 : decode cX11_about 12 = .ok (.iload_n 2, 1) := by decide +kernel
theorem dX11_about_13 : decode cX11_about 13 = .ok (.tableswitch 90 0 7 #[47, 52, 57, 62, 67, 72, 77, 82], 47) := by decide +kernel
theorem dX11_about_60 : decode cX11_about 60 = .ok (.aload_n 3, 1) := by decide +kernel
theorem dX11_about_61 : decode cX11_about 61 = .ok (.getfield 127, 3) := by decide +kernel
theorem dX11_about_64 : decode cX11_about 64 = .ok (.ireturn, 1) := by decide +kernel
theorem dX11_about_65 : decode cX11_about 65 = .ok (.aload_n 3, 1) := by decide +kernel
theorem dX11_about_66 : decode cX11_about 66 = .ok (.getfield 130, 3) := by decide +kernel
theorem dX11_about_69 : decode cX11_about 69 = .ok (.ireturn, 1) := by decide +kernel
theorem dX11_about_70 : decode cX11_about 70 = .ok (.aload_n 3, 1) := by decide +kernel
theorem dX11_about_71 : decode cX11_about 71 = .ok (.getfield 133, 3) := by decide +kernel
theorem dX11_about_74 : decode cX11_about 74 = .ok (.ireturn, 1) := by decide +kernel
theorem dX11_about_75 : decode cX11_about 75 = .ok (.aload_n 3, 1) := by decide +kernel
theorem dX11_about_76 : decode cX11_about 76 = .ok (.getfield 136, 3) := by decide +kernel
theorem dX11_about_79 : decode cX11_about 79 = .ok (.ireturn, 1) := by decide +kernel
theorem dX11_about_80 : decode cX11_about 80 = .ok (.aload_n 3, 1) := by decide +kernel
theorem dX11_about_81 : decode cX11_about 81 = .ok (.getfield 139, 3) := by decide +kernel
theorem dX11_about_84 : decode cX11_about 84 = .ok (.ireturn, 1) := by decide +kernel
theorem dX11_about_85 : decode cX11_about 85 = .ok (.aload_n 3, 1) := by decide +kernel
theorem dX11_about_86 : decode cX11_about 86 = .ok (.getfield 142, 3) := by decide +kernel
theorem dX11_about_89 : decode cX11_about 89 = .ok (.ireturn, 1) := by decide +kernel
theorem dX11_about_90 : decode cX11_about 90 = .ok (.aload_n 3, 1) := by decide +kernel
theorem dX11_about_91 : decode cX11_about 91 = .ok (.getfield 145, 3) := by decide +kernel
theorem dX11_about_94 : decode cX11_about 94 = .ok (.ireturn, 1) := by decide +kernel
theorem dX11_about_95 : decode cX11_about 95 = .ok (.aload_n 3, 1) := by decide +kernel
theorem dX11_about_96 : decode cX11_about 96 = .ok (.getfield 148, 3) := by decide +kernel
theorem dX11_about_99 : decode cX11_about 99 = .ok (.invokestatic 112, 3) := by decide +kernel
theorem dX11_about_102 : decode cX11_about 102 = .ok (.ireturn, 1) := by decide +kernel
theorem dX11_about_103 : decode cX11_about 103 = .ok (.bipush (-2), 2) := by decide +kernel
theorem dX11_about_105 : decode cX11_about 105 = .ok (.ireturn, 1) := by decide +kernel
theorem dX11_shy_0 : decode cX11_shy 0 = .ok (.aload_n 0, 1) := by decide +kernel
theorem dX11_shy_1 : decode cX11_shy 1 = .ok (.iload_n 1, 1) := by decide +kernel
theorem dX11_shy_2 : decode cX11_shy 2 = .ok (.invokevirtual 123, 3) := by decide +kernel
theorem dX11_shy_5 : decode cX11_shy 5 = .ok (.astore_n 3, 1) := by decide +kernel
theorem dX11_shy_6 : decode cX11_shy 6 = .ok (.aload_n 3, 1) := by decide +kernel
theorem dX11_shy_7 : decode cX11_shy 7 = .ok (.ifnonnull 5, 3) := by decide +kernel
theorem dX11_shy_10 : decode cX11_shy 10 = .ok (.iconst (-1), 1) := by decide +kernel
theorem dX11_shy_11 : decode cX11_shy 11 = .ok (.ireturn, 1) := by decide +kernel
theorem dX11_shy_12 : decode cX11_shy 12 = .ok (.aload_n 3, 1) := by decide +kernel
theorem dX11_shy_13 : decode cX11_shy 13 = .ok (.getfield 148, 3) := by decide +kernel
theorem dX11_shy_16 : decode cX11_shy 16 = .ok (.istore 4, 2) := by decide +kernel
theorem dX11_shy_18 : decode cX11_shy 18 = .ok (.aload_n 3, 1) := by decide +kernel
theorem dX11_shy_19 : decode cX11_shy 19 = .ok (.iload_n 2, 1) := by decide +kernel
theorem dX11_shy_20 : decode cX11_shy 20 = .ok (.putfield 148, 3) := by decide +kernel
theorem dX11_shy_23 : decode cX11_shy 23 = .ok (.iload 4, 2) := by decide +kernel
theorem dX11_shy_25 : decode cX11_shy 25 = .ok (.invokestatic 112, 3) := by decide +kernel
theorem dX11_shy_28 : decode cX11_shy 28 = .ok (.ireturn, 1) := by decide +kernel
theorem dX11_where_0 : decode cX11_where 0 = .ok (.aload_n 0, 1) := by decide +kernel
theorem dX11_where_1 : decode cX11_where 1 = .ok (.iload_n 1, 1) := by decide +kernel
theorem dX11_where_2 : decode cX11_where 2 = .ok (.invokevirtual 123, 3) := by decide +kernel
theorem dX11_where_5 : decode cX11_where 5 = .ok (.astore_n 3, 1) := by decide +kernel
theorem dX11_where_6 : decode cX11_where 6 = .ok (.aload_n 3, 1) := by decide +kernel
theorem dX11_where_7 : decode cX11_where 7 = .ok (.ifnonnull 5, 3) := by decide +kernel
theorem dX11_where_10 : decode cX11_where 10 = .ok (.iconst (-1), 1) := by decide +kernel
theorem dX11_where_11 : decode cX11_where 11 = .ok (.ireturn, 1) := by decide +kernel
theorem dX11_where_12 : decode cX11_where 12 = .ok (.iload_n 2, 1) := by decide +kernel
theorem dX11_where_13 : decode cX11_where 13 = .ok (.iconst 0, 1) := by decide +kernel
theorem dX11_where_14 : decode cX11_where 14 = .ok (.aload_n 0, 1) := by decide +kernel
theorem dX11_where_15 : decode cX11_where 15 = .ok (.getfield 152, 3) := by decide +kernel
theorem dX11_where_18 : decode cX11_where 18 = .ok (.invokestatic 90, 3) := by decide +kernel
theorem dX11_where_21 : decode cX11_where 21 = .ok (.ifCond .ne 6, 3) := by decide +kernel
theorem dX11_where_24 : decode cX11_where 24 = .ok (.bipush (-2), 2) := by decide +kernel
theorem dX11_where_26 : decode cX11_where 26 = .ok (.ireturn, 1) := by decide +kernel
theorem dX11_where_27 : decode cX11_where 27 = .ok (.aload_n 3, 1) := by decide +kernel
theorem dX11_where_28 : decode cX11_where 28 = .ok (.iload_n 2, 1) := by decide +kernel
theorem dX11_where_29 : decode cX11_where 29 = .ok (.invokevirtual 155, 3) := by decide +kernel
theorem dX11_where_32 : decode cX11_where 32 = .ok (.ireturn, 1) := by decide +kernel
theorem dX11_at_0 : decode cX11_at 0 = .ok (.aload_n 0, 1) := by decide +kernel
theorem dX11_at_1 : decode cX11_at 1 = .ok (.iload_n 1, 1) := by decide +kernel
theorem dX11_at_2 : decode cX11_at 2 = .ok (.invokevirtual 159, 3) := by decide +kernel
theorem dX11_at_5 : decode cX11_at 5 = .ok (.ifCond .ne 6, 3) := by decide +kernel
theorem dX11_at_8 : decode cX11_at 8 = .ok (.bipush (-2), 2) := by decide +kernel
theorem dX11_at_10 : decode cX11_at 10 = .ok (.ireturn, 1) := by decide +kernel
theorem dX11_at_11 : decode cX11_at 11 = .ok (.aload_n 0, 1) := by decide +kernel
theorem dX11_at_12 : decode cX11_at 12 = .ok (.iload_n 1, 1) := by decide +kernel
theorem dX11_at_13 : decode cX11_at 13 = .ok (.invokevirtual 162, 3) := by decide +kernel
theorem dX11_at_16 : decode cX11_at 16 = .ok (.ireturn, 1) := by decide +kernel
theorem dX11_tide_0 : decode cX11_tide 0 = .ok (.aload_n 0, 1) := by decide +kernel
theorem dX11_tide_1 : decode cX11_tide 1 = .ok (.getfield 152, 3) := by decide +kernel
theorem dX11_tide_4 : decode cX11_tide 4 = .ok (.ireturn, 1) := by decide +kernel
theorem dX11_pass_0 : decode cX11_pass 0 = .ok (.iload_n 1, 1) := by decide +kernel
theorem dX11_pass_1 : decode cX11_pass 1 = .ok (.iconst 1, 1) := by decide +kernel
theorem dX11_pass_2 : decode cX11_pass 2 = .ok (.bipush 60, 2) := by decide +kernel
theorem dX11_pass_4 : decode cX11_pass 4 = .ok (.invokestatic 90, 3) := by decide +kernel
theorem dX11_pass_7 : decode cX11_pass 7 = .ok (.ifCond .ne 6, 3) := by decide +kernel
theorem dX11_pass_10 : decode cX11_pass 10 = .ok (.bipush (-2), 2) := by decide +kernel
theorem dX11_pass_12 : decode cX11_pass 12 = .ok (.ireturn, 1) := by decide +kernel
theorem dX11_pass_13 : decode cX11_pass 13 = .ok (.aload_n 0, 1) := by decide +kernel
theorem dX11_pass_14 : decode cX11_pass 14 = .ok (.getfield 152, 3) := by decide +kernel
theorem dX11_pass_17 : decode cX11_pass 17 = .ok (.iload_n 1, 1) := by decide +kernel
theorem dX11_pass_18 : decode cX11_pass 18 = .ok (.iadd, 1) := by decide +kernel
theorem dX11_pass_19 : decode cX11_pass 19 = .ok (.sipush 899, 3) := by decide +kernel
theorem dX11_pass_22 : decode cX11_pass 22 = .ok (.if_icmp .le 6, 3) := by decide +kernel
theorem dX11_pass_25 : decode cX11_pass 25 = .ok (.bipush (-4), 2) := by decide +kernel
theorem dX11_pass_27 : decode cX11_pass 27 = .ok (.ireturn, 1) := by decide +kernel
theorem dX11_pass_28 : decode cX11_pass 28 = .ok (.iconst 0, 1) := by decide +kernel
theorem dX11_pass_29 : decode cX11_pass 29 = .ok (.istore_n 2, 1) := by decide +kernel
theorem dX11_pass_30 : decode cX11_pass 30 = .ok (.iload_n 2, 1) := by decide +kernel
theorem dX11_pass_31 : decode cX11_pass 31 = .ok (.aload_n 0, 1) := by decide +kernel
theorem dX11_pass_32 : decode cX11_pass 32 = .ok (.getfield 10, 3) := by decide +kernel
theorem dX11_pass_35 : decode cX11_pass 35 = .ok (.getfield 97, 3) := by decide +kernel
theorem dX11_pass_38 : decode cX11_pass 38 = .ok (.if_icmp .ge 27, 3) := by decide +kernel
theorem dX11_pass_41 : decode cX11_pass 41 = .ok (.aload_n 0, 1) := by decide +kernel
theorem dX11_pass_42 : decode cX11_pass 42 = .ok (.getfield 57, 3) := by decide +kernel
theorem dX11_pass_45 : decode cX11_pass 45 = .ok (.iload_n 2, 1) := by decide +kernel
theorem dX11_pass_46 : decode cX11_pass 46 = .ok (.aload_n 0, 1) := by decide +kernel
theorem dX11_pass_47 : decode cX11_pass 47 = .ok (.getfield 37, 3) := by decide +kernel
theorem dX11_pass_50 : decode cX11_pass 50 = .ok (.iload_n 2, 1) := by decide +kernel
theorem dX11_pass_51 : decode cX11_pass 51 = .ok (.aload_n 0, 1) := by decide +kernel
theorem dX11_pass_52 : decode cX11_pass 52 = .ok (.getfield 10, 3) := by decide +kernel
theorem dX11_pass_55 : decode cX11_pass 55 = .ok (.invokevirtual 165, 3) := by decide +kernel
theorem dX11_pass_58 : decode cX11_pass 58 = .ok (.iastore, 1) := by decide +kernel
theorem dX11_pass_59 : decode cX11_pass 59 = .ok (.iinc 2 1, 3) := by decide +kernel
theorem dX11_pass_62 : decode cX11_pass 62 = .ok (.goto (-32), 3) := by decide +kernel
theorem dX11_pass_65 : decode cX11_pass 65 = .ok (.iconst 0, 1) := by decide +kernel
theorem dX11_pass_66 : decode cX11_pass 66 = .ok (.istore_n 2, 1) := by decide +kernel
theorem dX11_pass_67 : decode cX11_pass 67 = .ok (.iload_n 2, 1) := by decide +kernel
theorem dX11_pass_68 : decode cX11_pass 68 = .ok (.iload_n 1, 1) := by decide +kernel
theorem dX11_pass_69 : decode cX11_pass 69 = .ok (.if_icmp .ge 31, 3) := by decide +kernel
theorem dX11_pass_72 : decode cX11_pass 72 = .ok (.aload_n 0, 1) := by decide +kernel
theorem dX11_pass_73 : decode cX11_pass 73 = .ok (.dup, 1) := by decide +kernel
theorem dX11_pass_74 : decode cX11_pass 74 = .ok (.getfield 152, 3) := by decide +kernel
theorem dX11_pass_77 : decode cX11_pass 77 = .ok (.iconst 1, 1) := by decide +kernel
theorem dX11_pass_78 : decode cX11_pass 78 = .ok (.iadd, 1) := by decide +kernel
theorem dX11_pass_79 : decode cX11_pass 79 = .ok (.putfield 152, 3) := by decide +kernel
theorem dX11_pass_82 : decode cX11_pass 82 = .ok (.aload_n 0, 1) := by decide +kernel
theorem dX11_pass_83 : decode cX11_pass 83 = .ok (.invokevirtual 169, 3) := by decide +kernel
theorem dX11_pass_86 : decode cX11_pass 86 = .ok (.aload_n 0, 1) := by decide +kernel
theorem dX11_pass_87 : decode cX11_pass 87 = .ok (.invokevirtual 172, 3) := by decide +kernel
theorem dX11_pass_90 : decode cX11_pass 90 = .ok (.aload_n 0, 1) := by decide +kernel
theorem dX11_pass_91 : decode cX11_pass 91 = .ok (.invokevirtual 175, 3) := by decide +kernel
theorem dX11_pass_94 : decode cX11_pass 94 = .ok (.iinc 2 1, 3) := by decide +kernel
theorem dX11_pass_97 : decode cX11_pass 97 = .ok (.goto (-30), 3) := by decide +kernel
theorem dX11_pass_100 : decode cX11_pass 100 = .ok (.aload_n 0, 1) := by decide +kernel
theorem dX11_pass_101 : decode cX11_pass 101 = .ok (.getfield 152, 3) := by decide +kernel
theorem dX11_pass_104 : decode cX11_pass 104 = .ok (.ireturn, 1) := by decide +kernel
theorem dX11_walk_0 : decode cX11_walk 0 = .ok (.aload_n 0, 1) := by decide +kernel
theorem dX11_walk_1 : decode cX11_walk 1 = .ok (.iload_n 1, 1) := by decide +kernel
theorem dX11_walk_2 : decode cX11_walk 2 = .ok (.invokevirtual 123, 3) := by decide +kernel
theorem dX11_walk_5 : decode cX11_walk 5 = .ok (.astore_n 3, 1) := by decide +kernel
theorem dX11_walk_6 : decode cX11_walk 6 = .ok (.aload_n 3, 1) := by decide +kernel
theorem dX11_walk_7 : decode cX11_walk 7 = .ok (.ifnull 14, 3) := by decide +kernel
theorem dX11_walk_10 : decode cX11_walk 10 = .ok (.aload_n 0, 1) := by decide +kernel
theorem dX11_walk_11 : decode cX11_walk 11 = .ok (.getfield 10, 3) := by decide +kernel
theorem dX11_walk_14 : decode cX11_walk 14 = .ok (.iload_n 2, 1) := by decide +kernel
theorem dX11_walk_15 : decode cX11_walk 15 = .ok (.invokevirtual 104, 3) := by decide +kernel
theorem dX11_walk_18 : decode cX11_walk 18 = .ok (.ifCond .ne 5, 3) := by decide +kernel
theorem dX11_walk_21 : decode cX11_walk 21 = .ok (.iconst (-1), 1) := by decide +kernel
theorem dX11_walk_22 : decode cX11_walk 22 = .ok (.ireturn, 1) := by decide +kernel
theorem dX11_walk_23 : decode cX11_walk 23 = .ok (.aload_n 3, 1) := by decide +kernel
theorem dX11_walk_24 : decode cX11_walk 24 = .ok (.getfield 178, 3) := by decide +kernel
theorem dX11_walk_27 : decode cX11_walk 27 = .ok (.invokestatic 181, 3) := by decide +kernel
theorem dX11_walk_30 : decode cX11_walk 30 = .ok (.ifCond .ne 6, 3) := by decide +kernel
theorem dX11_walk_33 : decode cX11_walk 33 = .ok (.bipush (-3), 2) := by decide +kernel
theorem dX11_walk_35 : decode cX11_walk 35 = .ok (.ireturn, 1) := by decide +kernel
theorem dX11_walk_36 : decode cX11_walk 36 = .ok (.aload_n 3, 1) := by decide +kernel
theorem dX11_walk_37 : decode cX11_walk 37 = .ok (.iload_n 2, 1) := by decide +kernel
theorem dX11_walk_38 : decode cX11_walk 38 = .ok (.aload_n 0, 1) := by decide +kernel
theorem dX11_walk_39 : decode cX11_walk 39 = .ok (.getfield 152, 3) := by decide +kernel
theorem dX11_walk_42 : decode cX11_walk 42 = .ok (.invokevirtual 184, 3) := by decide +kernel
theorem dX11_walk_45 : decode cX11_walk 45 = .ok (.ireturn, 1) := by decide +kernel
theorem dX11_run_0 : decode cX11_run 0 = .ok (.aload_n 0, 1) := by decide +kernel
theorem dX11_run_1 : decode cX11_run 1 = .ok (.iload_n 1, 1) := by decide +kernel
theorem dX11_run_2 : decode cX11_run 2 = .ok (.invokevirtual 123, 3) := by decide +kernel
theorem dX11_run_5 : decode cX11_run 5 = .ok (.astore_n 2, 1) := by decide +kernel
theorem dX11_run_6 : decode cX11_run 6 = .ok (.aload_n 2, 1) := by decide +kernel
theorem dX11_run_7 : decode cX11_run 7 = .ok (.ifnonnull 5, 3) := by decide +kernel
theorem dX11_run_10 : decode cX11_run 10 = .ok (.iconst (-1), 1) := by decide +kernel
theorem dX11_run_11 : decode cX11_run 11 = .ok (.ireturn, 1) := by decide +kernel
theorem dX11_run_12 : decode cX11_run 12 = .ok (.aload_n 2, 1) := by decide +kernel
theorem dX11_run_13 : decode cX11_run 13 = .ok (.getfield 178, 3) := by decide +kernel
theorem dX11_run_16 : decode cX11_run 16 = .ok (.bipush 23, 2) := by decide +kernel
theorem dX11_run_18 : decode cX11_run 18 = .ok (.if_icmp .ne 6, 3) := by decide +kernel
theorem dX11_run_21 : decode cX11_run 21 = .ok (.bipush (-3), 2) := by decide +kernel
theorem dX11_run_23 : decode cX11_run 23 = .ok (.ireturn, 1) := by decide +kernel
theorem dX11_run_24 : decode cX11_run 24 = .ok (.aload_n 2, 1) := by decide +kernel
theorem dX11_run_25 : decode cX11_run 25 = .ok (.bipush 23, 2) := by decide +kernel
theorem dX11_run_27 : decode cX11_run 27 = .ok (.aload_n 0, 1) := by decide +kernel
theorem dX11_run_28 : decode cX11_run 28 = .ok (.getfield 152, 3) := by decide +kernel
theorem dX11_run_31 : decode cX11_run 31 = .ok (.invokevirtual 184, 3) := by decide +kernel
theorem dX11_run_34 : decode cX11_run 34 = .ok (.ireturn, 1) := by decide +kernel
theorem dX11_paper_0 : decode cX11_paper 0 = .ok (.aload_n 0, 1) := by decide +kernel
theorem dX11_paper_1 : decode cX11_paper 1 = .ok (.iload_n 1, 1) := by decide +kernel
theorem dX11_paper_2 : decode cX11_paper 2 = .ok (.invokevirtual 123, 3) := by decide +kernel
theorem dX11_paper_5 : decode cX11_paper 5 = .ok (.ifnonnull 5, 3) := by decide +kernel
theorem dX11_paper_8 : decode cX11_paper 8 = .ok (.iconst (-1), 1) := by decide +kernel
theorem dX11_paper_9 : decode cX11_paper 9 = .ok (.ireturn, 1) := by decide +kernel
theorem dX11_paper_10 : decode cX11_paper 10 = .ok (.iload_n 2, 1) := by decide +kernel
theorem dX11_paper_11 : decode cX11_paper 11 = .ok (.invokestatic 187, 3) := by decide +kernel
theorem dX11_paper_14 : decode cX11_paper 14 = .ok (.ifCond .eq 47, 3) := by decide +kernel
theorem dX11_paper_17 : decode cX11_paper 17 = .ok (.iload_n 3, 1) := by decide +kernel
theorem dX11_paper_18 : decode cX11_paper 18 = .ok (.invokestatic 187, 3) := by decide +kernel
theorem dX11_paper_21 : decode cX11_paper 21 = .ok (.ifCond .eq 40, 3) := by decide +kernel
theorem dX11_paper_24 : decode cX11_paper 24 = .ok (.iload 4, 2) := by decide +kernel
theorem dX11_paper_26 : decode cX11_paper 26 = .ok (.iload 5, 2) := by decide +kernel
theorem dX11_paper_28 : decode cX11_paper 28 = .ok (.bipush 99, 2) := by decide +kernel
theorem dX11_paper_30 : decode cX11_paper 30 = .ok (.invokestatic 190, 3) := by decide +kernel
theorem dX11_paper_33 : decode cX11_paper 33 = .ok (.ifCond .eq 28, 3) := by decide +kernel
theorem dX11_paper_36 : decode cX11_paper 36 = .ok (.iload 6, 2) := by decide +kernel
theorem dX11_paper_38 : decode cX11_paper 38 = .ok (.iload 7, 2) := by decide +kernel
theorem dX11_paper_40 : decode cX11_paper 40 = .ok (.bipush 99, 2) := by decide +kernel
theorem dX11_paper_42 : decode cX11_paper 42 = .ok (.invokestatic 190, 3) := by decide +kernel
theorem dX11_paper_45 : decode cX11_paper 45 = .ok (.ifCond .eq 16, 3) := by decide +kernel
theorem dX11_paper_48 : decode cX11_paper 48 = .ok (.iload 8, 2) := by decide +kernel
theorem dX11_paper_50 : decode cX11_paper 50 = .ok (.iload 9, 2) := by decide +kernel
theorem dX11_paper_52 : decode cX11_paper 52 = .ok (.sipush 899, 3) := by decide +kernel
theorem dX11_paper_55 : decode cX11_paper 55 = .ok (.invokestatic 190, 3) := by decide +kernel
theorem dX11_paper_58 : decode cX11_paper 58 = .ok (.ifCond .ne 6, 3) := by decide +kernel
theorem dX11_paper_61 : decode cX11_paper 61 = .ok (.bipush (-2), 2) := by decide +kernel
theorem dX11_paper_63 : decode cX11_paper 63 = .ok (.ireturn, 1) := by decide +kernel
theorem dX11_paper_64 : decode cX11_paper 64 = .ok (.aload_n 0, 1) := by decide +kernel
theorem dX11_paper_65 : decode cX11_paper 65 = .ok (.getfield 193, 3) := by decide +kernel
theorem dX11_paper_68 : decode cX11_paper 68 = .ok (.bipush 60, 2) := by decide +kernel
theorem dX11_paper_70 : decode cX11_paper 70 = .ok (.if_icmp .lt 6, 3) := by decide +kernel
theorem dX11_paper_73 : decode cX11_paper 73 = .ok (.bipush (-4), 2) := by decide +kernel
theorem dX11_paper_75 : decode cX11_paper 75 = .ok (.ireturn, 1) := by decide +kernel
theorem dX11_paper_76 : decode cX11_paper 76 = .ok (.aload_n 0, 1) := by decide +kernel
theorem dX11_paper_77 : decode cX11_paper 77 = .ok (.getfield 24, 3) := by decide +kernel
theorem dX11_paper_80 : decode cX11_paper 80 = .ok (.aload_n 0, 1) := by decide +kernel
theorem dX11_paper_81 : decode cX11_paper 81 = .ok (.getfield 193, 3) := by decide +kernel
theorem dX11_paper_84 : decode cX11_paper 84 = .ok (.new 22, 3) := by decide +kernel
theorem dX11_paper_87 : decode cX11_paper 87 = .ok (.dup, 1) := by decide +kernel
theorem dX11_paper_88 : decode cX11_paper 88 = .ok (.iload_n 1, 1) := by decide +kernel
theorem dX11_paper_89 : decode cX11_paper 89 = .ok (.iload_n 2, 1) := by decide +kernel
theorem dX11_paper_90 : decode cX11_paper 90 = .ok (.iload_n 3, 1) := by decide +kernel
theorem dX11_paper_91 : decode cX11_paper 91 = .ok (.new 196, 3) := by decide +kernel
theorem dX11_paper_94 : decode cX11_paper 94 = .ok (.dup, 1) := by decide +kernel
theorem dX11_paper_95 : decode cX11_paper 95 = .ok (.iload 4, 2) := by decide +kernel
theorem dX11_paper_97 : decode cX11_paper 97 = .ok (.iload 5, 2) := by decide +kernel
theorem dX11_paper_99 : decode cX11_paper 99 = .ok (.invokespecial 198, 3) := by decide +kernel
theorem dX11_paper_102 : decode cX11_paper 102 = .ok (.new 196, 3) := by decide +kernel
theorem dX11_paper_105 : decode cX11_paper 105 = .ok (.dup, 1) := by decide +kernel
theorem dX11_paper_106 : decode cX11_paper 106 = .ok (.iload 6, 2) := by decide +kernel
theorem dX11_paper_108 : decode cX11_paper 108 = .ok (.iload 7, 2) := by decide +kernel
theorem dX11_paper_110 : decode cX11_paper 110 = .ok (.invokespecial 198, 3) := by decide +kernel
theorem dX11_paper_113 : decode cX11_paper 113 = .ok (.new 196, 3) := by decide +kernel
theorem dX11_paper_116 : decode cX11_paper 116 = .ok (.dup, 1) := by decide +kernel
theorem dX11_paper_117 : decode cX11_paper 117 = .ok (.iload 8, 2) := by decide +kernel
theorem dX11_paper_119 : decode cX11_paper 119 = .ok (.iload 9, 2) := by decide +kernel
theorem dX11_paper_121 : decode cX11_paper 121 = .ok (.invokespecial 198, 3) := by decide +kernel
theorem dX11_paper_124 : decode cX11_paper 124 = .ok (.invokespecial 201, 3) := by decide +kernel
theorem dX11_paper_127 : decode cX11_paper 127 = .ok (.aastore, 1) := by decide +kernel
theorem dX11_paper_128 : decode cX11_paper 128 = .ok (.aload_n 0, 1) := by decide +kernel
theorem dX11_paper_129 : decode cX11_paper 129 = .ok (.dup, 1) := by decide +kernel
theorem dX11_paper_130 : decode cX11_paper 130 = .ok (.getfield 193, 3) := by decide +kernel
theorem dX11_paper_133 : decode cX11_paper 133 = .ok (.iconst 1, 1) := by decide +kernel
theorem dX11_paper_134 : decode cX11_paper 134 = .ok (.iadd, 1) := by decide +kernel
theorem dX11_paper_135 : decode cX11_paper 135 = .ok (.putfield 193, 3) := by decide +kernel
theorem dX11_paper_138 : decode cX11_paper 138 = .ok (.aload_n 0, 1) := by decide +kernel
theorem dX11_paper_139 : decode cX11_paper 139 = .ok (.getfield 193, 3) := by decide +kernel
theorem dX11_paper_142 : decode cX11_paper 142 = .ok (.iconst 1, 1) := by decide +kernel
theorem dX11_paper_143 : decode cX11_paper 143 = .ok (.isub, 1) := by decide +kernel
theorem dX11_paper_144 : decode cX11_paper 144 = .ok (.ireturn, 1) := by decide +kernel
theorem dX11_cover_0 : decode cX11_cover 0 = .ok (.aload_n 0, 1) := by decide +kernel
theorem dX11_cover_1 : decode cX11_cover 1 = .ok (.iload_n 1, 1) := by decide +kernel
theorem dX11_cover_2 : decode cX11_cover 2 = .ok (.invokevirtual 204, 3) := by decide +kernel
theorem dX11_cover_5 : decode cX11_cover 5 = .ok (.astore 4, 2) := by decide +kernel
theorem dX11_cover_7 : decode cX11_cover 7 = .ok (.aload_n 0, 1) := by decide +kernel
theorem dX11_cover_8 : decode cX11_cover 8 = .ok (.iload_n 2, 1) := by decide +kernel
theorem dX11_cover_9 : decode cX11_cover 9 = .ok (.invokevirtual 123, 3) := by decide +kernel
theorem dX11_cover_12 : decode cX11_cover 12 = .ok (.astore 5, 2) := by decide +kernel
theorem dX11_cover_14 : decode cX11_cover 14 = .ok (.aload 4, 2) := by decide +kernel
theorem dX11_cover_16 : decode cX11_cover 16 = .ok (.ifnull 8, 3) := by decide +kernel
theorem dX11_cover_19 : decode cX11_cover 19 = .ok (.aload 5, 2) := by decide +kernel
theorem dX11_cover_21 : decode cX11_cover 21 = .ok (.ifnonnull 5, 3) := by decide +kernel
theorem dX11_cover_24 : decode cX11_cover 24 = .ok (.iconst (-1), 1) := by decide +kernel
theorem dX11_cover_25 : decode cX11_cover 25 = .ok (.ireturn, 1) := by decide +kernel
theorem dX11_cover_26 : decode cX11_cover 26 = .ok (.iload_n 3, 1) := by decide +kernel
theorem dX11_cover_27 : decode cX11_cover 27 = .ok (.invokestatic 208, 3) := by decide +kernel
theorem dX11_cover_30 : decode cX11_cover 30 = .ok (.ifCond .ne 6, 3) := by decide +kernel
theorem dX11_cover_33 : decode cX11_cover 33 = .ok (.bipush (-2), 2) := by decide +kernel
theorem dX11_cover_35 : decode cX11_cover 35 = .ok (.ireturn, 1) := by decide +kernel
theorem dX11_cover_36 : decode cX11_cover 36 = .ok (.aload 4, 2) := by decide +kernel
theorem dX11_cover_38 : decode cX11_cover 38 = .ok (.aload 5, 2) := by decide +kernel
theorem dX11_cover_40 : decode cX11_cover 40 = .ok (.iload_n 3, 1) := by decide +kernel
theorem dX11_cover_41 : decode cX11_cover 41 = .ok (.invokevirtual 211, 3) := by decide +kernel
theorem dX11_cover_44 : decode cX11_cover 44 = .ok (.ireturn, 1) := by decide +kernel
theorem dX11_same_0 : decode cX11_same 0 = .ok (.aload_n 0, 1) := by decide +kernel
theorem dX11_same_1 : decode cX11_same 1 = .ok (.iload_n 1, 1) := by decide +kernel
theorem dX11_same_2 : decode cX11_same 2 = .ok (.invokevirtual 204, 3) := by decide +kernel
theorem dX11_same_5 : decode cX11_same 5 = .ok (.astore_n 3, 1) := by decide +kernel
theorem dX11_same_6 : decode cX11_same 6 = .ok (.aload_n 3, 1) := by decide +kernel
theorem dX11_same_7 : decode cX11_same 7 = .ok (.ifnonnull 5, 3) := by decide +kernel
theorem dX11_same_10 : decode cX11_same 10 = .ok (.iconst (-1), 1) := by decide +kernel
theorem dX11_same_11 : decode cX11_same 11 = .ok (.ireturn, 1) := by decide +kernel
theorem dX11_same_12 : decode cX11_same 12 = .ok (.iload_n 2, 1) := by decide +kernel
theorem dX11_same_13 : decode cX11_same 13 = .ok (.invokestatic 208, 3) := by decide +kernel
theorem dX11_same_16 : decode cX11_same 16 = .ok (.ifCond .ne 6, 3) := by decide +kernel
theorem dX11_same_19 : decode cX11_same 19 = .ok (.bipush (-2), 2) := by decide +kernel
theorem dX11_same_21 : decode cX11_same 21 = .ok (.ireturn, 1) := by decide +kernel
theorem dX11_same_22 : decode cX11_same 22 = .ok (.iconst 0, 1) := by decide +kernel
theorem dX11_same_23 : decode cX11_same 23 = .ok (.istore 4, 2) := by decide +kernel
theorem dX11_same_25 : decode cX11_same 25 = .ok (.iconst 0, 1) := by decide +kernel
theorem dX11_same_26 : decode cX11_same 26 = .ok (.istore 5, 2) := by decide +kernel
theorem dX11_same_28 : decode cX11_same 28 = .ok (.iload 5, 2) := by decide +kernel
theorem dX11_same_30 : decode cX11_same 30 = .ok (.aload_n 0, 1) := by decide +kernel
theorem dX11_same_31 : decode cX11_same 31 = .ok (.getfield 94, 3) := by decide +kernel
theorem dX11_same_34 : decode cX11_same 34 = .ok (.if_icmp .ge 27, 3) := by decide +kernel
theorem dX11_same_37 : decode cX11_same 37 = .ok (.aload_n 3, 1) := by decide +kernel
theorem dX11_same_38 : decode cX11_same 38 = .ok (.aload_n 0, 1) := by decide +kernel
theorem dX11_same_39 : decode cX11_same 39 = .ok (.getfield 18, 3) := by decide +kernel
theorem dX11_same_42 : decode cX11_same 42 = .ok (.iload 5, 2) := by decide +kernel
theorem dX11_same_44 : decode cX11_same 44 = .ok (.aaload, 1) := by decide +kernel
theorem dX11_same_45 : decode cX11_same 45 = .ok (.iload_n 2, 1) := by decide +kernel
theorem dX11_same_46 : decode cX11_same 46 = .ok (.invokevirtual 211, 3) := by decide +kernel
theorem dX11_same_49 : decode cX11_same 49 = .ok (.ifCond .le 6, 3) := by decide +kernel
theorem dX11_same_52 : decode cX11_same 52 = .ok (.iinc 4 1, 3) := by decide +kernel
theorem dX11_same_55 : decode cX11_same 55 = .ok (.iinc 5 1, 3) := by decide +kernel
theorem dX11_same_58 : decode cX11_same 58 = .ok (.goto (-30), 3) := by decide +kernel
theorem dX11_same_61 : decode cX11_same 61 = .ok (.iload 4, 2) := by decide +kernel
theorem dX11_same_63 : decode cX11_same 63 = .ok (.ireturn, 1) := by decide +kernel
theorem dX11_shown_0 : decode cX11_shown 0 = .ok (.aload_n 0, 1) := by decide +kernel
theorem dX11_shown_1 : decode cX11_shown 1 = .ok (.iload_n 1, 1) := by decide +kernel
theorem dX11_shown_2 : decode cX11_shown 2 = .ok (.invokevirtual 204, 3) := by decide +kernel
theorem dX11_shown_5 : decode cX11_shown 5 = .ok (.ifnonnull 5, 3) := by decide +kernel
theorem dX11_shown_8 : decode cX11_shown 8 = .ok (.iconst (-1), 1) := by decide +kernel
theorem dX11_shown_9 : decode cX11_shown 9 = .ok (.ireturn, 1) := by decide +kernel
theorem dX11_shown_10 : decode cX11_shown 10 = .ok (.iload_n 2, 1) := by decide +kernel
theorem dX11_shown_11 : decode cX11_shown 11 = .ok (.invokestatic 208, 3) := by decide +kernel
theorem dX11_shown_14 : decode cX11_shown 14 = .ok (.ifCond .ne 6, 3) := by decide +kernel
theorem dX11_shown_17 : decode cX11_shown 17 = .ok (.bipush (-2), 2) := by decide +kernel
theorem dX11_shown_19 : decode cX11_shown 19 = .ok (.ireturn, 1) := by decide +kernel
theorem dX11_shown_20 : decode cX11_shown 20 = .ok (.aload_n 0, 1) := by decide +kernel
theorem dX11_shown_21 : decode cX11_shown 21 = .ok (.getfield 37, 3) := by decide +kernel
theorem dX11_shown_24 : decode cX11_shown 24 = .ok (.iload_n 1, 1) := by decide +kernel
theorem dX11_shown_25 : decode cX11_shown 25 = .ok (.iload_n 2, 1) := by decide +kernel
theorem dX11_shown_26 : decode cX11_shown 26 = .ok (.bipush 14, 2) := by decide +kernel
theorem dX11_shown_28 : decode cX11_shown 28 = .ok (.isub, 1) := by decide +kernel
theorem dX11_shown_29 : decode cX11_shown 29 = .ok (.iconst 1, 1) := by decide +kernel
theorem dX11_shown_30 : decode cX11_shown 30 = .ok (.iadd, 1) := by decide +kernel
theorem dX11_shown_31 : decode cX11_shown 31 = .ok (.iload_n 2, 1) := by decide +kernel
theorem dX11_shown_32 : decode cX11_shown 32 = .ok (.invokevirtual 215, 3) := by decide +kernel
theorem dX11_shown_35 : decode cX11_shown 35 = .ok (.ireturn, 1) := by decide +kernel
theorem dX11_act_0 : decode cX11_act 0 = .ok (.iload_n 1, 1) := by decide +kernel
theorem dX11_act_1 : decode cX11_act 1 = .ok (.invokestatic 208, 3) := by decide +kernel
theorem dX11_act_4 : decode cX11_act 4 = .ok (.ifCond .ne 6, 3) := by decide +kernel
theorem dX11_act_7 : decode cX11_act 7 = .ok (.bipush (-2), 2) := by decide +kernel
theorem dX11_act_9 : decode cX11_act 9 = .ok (.ireturn, 1) := by decide +kernel
theorem dX11_act_10 : decode cX11_act 10 = .ok (.aload_n 0, 1) := by decide +kernel
theorem dX11_act_11 : decode cX11_act 11 = .ok (.getfield 219, 3) := by decide +kernel
theorem dX11_act_14 : decode cX11_act 14 = .ok (.bipush 8, 2) := by decide +kernel
theorem dX11_act_16 : decode cX11_act 16 = .ok (.if_icmp .lt 6, 3) := by decide +kernel
theorem dX11_act_19 : decode cX11_act 19 = .ok (.bipush (-4), 2) := by decide +kernel
theorem dX11_act_21 : decode cX11_act 21 = .ok (.ireturn, 1) := by decide +kernel
theorem dX11_act_22 : decode cX11_act 22 = .ok (.aload_n 0, 1) := by decide +kernel
theorem dX11_act_23 : decode cX11_act 23 = .ok (.getfield 30, 3) := by decide +kernel
theorem dX11_act_26 : decode cX11_act 26 = .ok (.aload_n 0, 1) := by decide +kernel
theorem dX11_act_27 : decode cX11_act 27 = .ok (.getfield 219, 3) := by decide +kernel
theorem dX11_act_30 : decode cX11_act 30 = .ok (.new 28, 3) := by decide +kernel
theorem dX11_act_33 : decode cX11_act 33 = .ok (.dup, 1) := by decide +kernel
theorem dX11_act_34 : decode cX11_act 34 = .ok (.iload_n 1, 1) := by decide +kernel
theorem dX11_act_35 : decode cX11_act 35 = .ok (.invokespecial 222, 3) := by decide +kernel
theorem dX11_act_38 : decode cX11_act 38 = .ok (.aastore, 1) := by decide +kernel
theorem dX11_act_39 : decode cX11_act 39 = .ok (.aload_n 0, 1) := by decide +kernel
theorem dX11_act_40 : decode cX11_act 40 = .ok (.dup, 1) := by decide +kernel
theorem dX11_act_41 : decode cX11_act 41 = .ok (.getfield 219, 3) := by decide +kernel
theorem dX11_act_44 : decode cX11_act 44 = .ok (.iconst 1, 1) := by decide +kernel
theorem dX11_act_45 : decode cX11_act 45 = .ok (.iadd, 1) := by decide +kernel
theorem dX11_act_46 : decode cX11_act 46 = .ok (.putfield 219, 3) := by decide +kernel
theorem dX11_act_49 : decode cX11_act 49 = .ok (.aload_n 0, 1) := by decide +kernel
theorem dX11_act_50 : decode cX11_act 50 = .ok (.getfield 219, 3) := by decide +kernel
theorem dX11_act_53 : decode cX11_act 53 = .ok (.iconst 1, 1) := by decide +kernel
theorem dX11_act_54 : decode cX11_act 54 = .ok (.isub, 1) := by decide +kernel
theorem dX11_act_55 : decode cX11_act 55 = .ok (.ireturn, 1) := by decide +kernel
theorem dX11_sign_0 : decode cX11_sign 0 = .ok (.aload_n 0, 1) := by decide +kernel
theorem dX11_sign_1 : decode cX11_sign 1 = .ok (.iload_n 1, 1) := by decide +kernel
theorem dX11_sign_2 : decode cX11_sign 2 = .ok (.invokevirtual 224, 3) := by decide +kernel
theorem dX11_sign_5 : decode cX11_sign 5 = .ok (.astore_n 3, 1) := by decide +kernel
theorem dX11_sign_6 : decode cX11_sign 6 = .ok (.aload_n 3, 1) := by decide +kernel
theorem dX11_sign_7 : decode cX11_sign 7 = .ok (.ifnonnull 5, 3) := by decide +kernel
theorem dX11_sign_10 : decode cX11_sign 10 = .ok (.iconst (-1), 1) := by decide +kernel
theorem dX11_sign_11 : decode cX11_sign 11 = .ok (.ireturn, 1) := by decide +kernel
theorem dX11_sign_12 : decode cX11_sign 12 = .ok (.iload_n 2, 1) := by decide +kernel
theorem dX11_sign_13 : decode cX11_sign 13 = .ok (.bipush 33, 2) := by decide +kernel
theorem dX11_sign_15 : decode cX11_sign 15 = .ok (.bipush 126, 2) := by decide +kernel
theorem dX11_sign_17 : decode cX11_sign 17 = .ok (.invokestatic 90, 3) := by decide +kernel
theorem dX11_sign_20 : decode cX11_sign 20 = .ok (.ifCond .ne 6, 3) := by decide +kernel
theorem dX11_sign_23 : decode cX11_sign 23 = .ok (.bipush (-2), 2) := by decide +kernel
theorem dX11_sign_25 : decode cX11_sign 25 = .ok (.ireturn, 1) := by decide +kernel
theorem dX11_sign_26 : decode cX11_sign 26 = .ok (.aload_n 3, 1) := by decide +kernel
theorem dX11_sign_27 : decode cX11_sign 27 = .ok (.getfield 228, 3) := by decide +kernel
theorem dX11_sign_30 : decode cX11_sign 30 = .ok (.bipush 60, 2) := by decide +kernel
theorem dX11_sign_32 : decode cX11_sign 32 = .ok (.if_icmp .lt 6, 3) := by decide +kernel
theorem dX11_sign_35 : decode cX11_sign 35 = .ok (.bipush (-4), 2) := by decide +kernel
theorem dX11_sign_37 : decode cX11_sign 37 = .ok (.ireturn, 1) := by decide +kernel
theorem dX11_sign_38 : decode cX11_sign 38 = .ok (.aload_n 3, 1) := by decide +kernel
theorem dX11_sign_39 : decode cX11_sign 39 = .ok (.iload_n 2, 1) := by decide +kernel
theorem dX11_sign_40 : decode cX11_sign 40 = .ok (.invokevirtual 231, 3) := by decide +kernel
theorem dX11_sign_43 : decode cX11_sign 43 = .ok (.aload_n 3, 1) := by decide +kernel
theorem dX11_sign_44 : decode cX11_sign 44 = .ok (.getfield 228, 3) := by decide +kernel
theorem dX11_sign_47 : decode cX11_sign 47 = .ok (.ireturn, 1) := by decide +kernel
theorem dX11_fault_0 : decode cX11_fault 0 = .ok (.aload_n 0, 1) := by decide +kernel
theorem dX11_fault_1 : decode cX11_fault 1 = .ok (.iload_n 1, 1) := by decide +kernel
theorem dX11_fault_2 : decode cX11_fault 2 = .ok (.invokevirtual 224, 3) := by decide +kernel
theorem dX11_fault_5 : decode cX11_fault 5 = .ok (.astore_n 2, 1) := by decide +kernel
theorem dX11_fault_6 : decode cX11_fault 6 = .ok (.aload_n 2, 1) := by decide +kernel
theorem dX11_fault_7 : decode cX11_fault 7 = .ok (.ifnonnull 7, 3) := by decide +kernel
theorem dX11_fault_10 : decode cX11_fault 10 = .ok (.iconst (-1), 1) := by decide +kernel
theorem dX11_fault_11 : decode cX11_fault 11 = .ok (.goto 7, 3) := by decide +kernel
theorem dX11_fault_14 : decode cX11_fault 14 = .ok (.aload_n 2, 1) := by decide +kernel
theorem dX11_fault_15 : decode cX11_fault 15 = .ok (.invokevirtual 234, 3) := by decide +kernel
theorem dX11_fault_18 : decode cX11_fault 18 = .ok (.ireturn, 1) := by decide +kernel
theorem dX11_force_0 : decode cX11_force 0 = .ok (.iload_n 1, 1) := by decide +kernel
theorem dX11_force_1 : decode cX11_force 1 = .ok (.invokestatic 208, 3) := by decide +kernel
theorem dX11_force_4 : decode cX11_force 4 = .ok (.ifCond .eq 11, 3) := by decide +kernel
theorem dX11_force_7 : decode cX11_force 7 = .ok (.aload_n 0, 1) := by decide +kernel
theorem dX11_force_8 : decode cX11_force 8 = .ok (.iload_n 1, 1) := by decide +kernel
theorem dX11_force_9 : decode cX11_force 9 = .ok (.invokevirtual 238, 3) := by decide +kernel
theorem dX11_force_12 : decode cX11_force 12 = .ok (.goto 5, 3) := by decide +kernel
theorem dX11_force_15 : decode cX11_force 15 = .ok (.bipush (-2), 2) := by decide +kernel
theorem dX11_force_17 : decode cX11_force 17 = .ok (.ireturn, 1) := by decide +kernel
theorem dX11_may_0 : decode cX11_may 0 = .ok (.aload_n 0, 1) := by decide +kernel
theorem dX11_may_1 : decode cX11_may 1 = .ok (.iload_n 1, 1) := by decide +kernel
theorem dX11_may_2 : decode cX11_may 2 = .ok (.invokevirtual 123, 3) := by decide +kernel
theorem dX11_may_5 : decode cX11_may 5 = .ok (.astore_n 3, 1) := by decide +kernel
theorem dX11_may_6 : decode cX11_may 6 = .ok (.aload_n 3, 1) := by decide +kernel
theorem dX11_may_7 : decode cX11_may 7 = .ok (.ifnull 11, 3) := by decide +kernel
theorem dX11_may_10 : decode cX11_may 10 = .ok (.aload_n 0, 1) := by decide +kernel
theorem dX11_may_11 : decode cX11_may 11 = .ok (.iload_n 2, 1) := by decide +kernel
theorem dX11_may_12 : decode cX11_may 12 = .ok (.invokevirtual 241, 3) := by decide +kernel
theorem dX11_may_15 : decode cX11_may 15 = .ok (.ifCond .ne 5, 3) := by decide +kernel
theorem dX11_may_18 : decode cX11_may 18 = .ok (.iconst (-1), 1) := by decide +kernel
theorem dX11_may_19 : decode cX11_may 19 = .ok (.ireturn, 1) := by decide +kernel
theorem dX11_may_20 : decode cX11_may 20 = .ok (.aload_n 0, 1) := by decide +kernel
theorem dX11_may_21 : decode cX11_may 21 = .ok (.aload_n 3, 1) := by decide +kernel
theorem dX11_may_22 : decode cX11_may 22 = .ok (.iload_n 2, 1) := by decide +kernel
theorem dX11_may_23 : decode cX11_may 23 = .ok (.invokevirtual 244, 3) := by decide +kernel
theorem dX11_may_26 : decode cX11_may 26 = .ok (.invokestatic 112, 3) := by decide +kernel
theorem dX11_may_29 : decode cX11_may 29 = .ok (.ireturn, 1) := by decide +kernel
theorem dX11_mayTruly_0 : decode cX11_mayTruly 0 = .ok (.aload_n 0, 1) := by decide +kernel
theorem dX11_mayTruly_1 : decode cX11_mayTruly 1 = .ok (.iload_n 1, 1) := by decide +kernel
theorem dX11_mayTruly_2 : decode cX11_mayTruly 2 = .ok (.invokevirtual 123, 3) := by decide +kernel
theorem dX11_mayTruly_5 : decode cX11_mayTruly 5 = .ok (.ifnonnull 7, 3) := by decide +kernel
theorem dX11_mayTruly_8 : decode cX11_mayTruly 8 = .ok (.iconst (-1), 1) := by decide +kernel
theorem dX11_mayTruly_9 : decode cX11_mayTruly 9 = .ok (.goto 11, 3) := by decide +kernel
theorem dX11_mayTruly_12 : decode cX11_mayTruly 12 = .ok (.aload_n 0, 1) := by decide +kernel
theorem dX11_mayTruly_13 : decode cX11_mayTruly 13 = .ok (.iload_n 1, 1) := by decide +kernel
theorem dX11_mayTruly_14 : decode cX11_mayTruly 14 = .ok (.invokevirtual 248, 3) := by decide +kernel
theorem dX11_mayTruly_17 : decode cX11_mayTruly 17 = .ok (.invokestatic 112, 3) := by decide +kernel
theorem dX11_mayTruly_20 : decode cX11_mayTruly 20 = .ok (.ireturn, 1) := by decide +kernel
theorem dX11_take_0 : decode cX11_take 0 = .ok (.aload_n 0, 1) := by decide +kernel
theorem dX11_take_1 : decode cX11_take 1 = .ok (.iload_n 1, 1) := by decide +kernel
theorem dX11_take_2 : decode cX11_take 2 = .ok (.invokevirtual 123, 3) := by decide +kernel
theorem dX11_take_5 : decode cX11_take 5 = .ok (.astore_n 3, 1) := by decide +kernel
theorem dX11_take_6 : decode cX11_take 6 = .ok (.aload_n 3, 1) := by decide +kernel
theorem dX11_take_7 : decode cX11_take 7 = .ok (.ifnull 11, 3) := by decide +kernel
theorem dX11_take_10 : decode cX11_take 10 = .ok (.aload_n 0, 1) := by decide +kernel
theorem dX11_take_11 : decode cX11_take 11 = .ok (.iload_n 2, 1) := by decide +kernel
theorem dX11_take_12 : decode cX11_take 12 = .ok (.invokevirtual 241, 3) := by decide +kernel
theorem dX11_take_15 : decode cX11_take 15 = .ok (.ifCond .ne 5, 3) := by decide +kernel
theorem dX11_take_18 : decode cX11_take 18 = .ok (.iconst (-1), 1) := by decide +kernel
theorem dX11_take_19 : decode cX11_take 19 = .ok (.ireturn, 1) := by decide +kernel
theorem dX11_take_20 : decode cX11_take 20 = .ok (.aload_n 0, 1) := by decide +kernel
theorem dX11_take_21 : decode cX11_take 21 = .ok (.aload_n 3, 1) := by decide +kernel
theorem dX11_take_22 : decode cX11_take 22 = .ok (.getfield 178, 3) := by decide +kernel
theorem dX11_take_25 : decode cX11_take 25 = .ok (.invokevirtual 251, 3) := by decide +kernel
theorem dX11_take_28 : decode cX11_take 28 = .ok (.ifCond .ne 6, 3) := by decide +kernel
theorem dX11_take_31 : decode cX11_take 31 = .ok (.bipush (-3), 2) := by decide +kernel
theorem dX11_take_33 : decode cX11_take 33 = .ok (.ireturn, 1) := by decide +kernel
theorem dX11_take_34 : decode cX11_take 34 = .ok (.aload_n 0, 1) := by decide +kernel
theorem dX11_take_35 : decode cX11_take 35 = .ok (.getfield 37, 3) := by decide +kernel
theorem dX11_take_38 : decode cX11_take 38 = .ok (.getfield 254, 3) := by decide +kernel
theorem dX11_take_41 : decode cX11_take 41 = .ok (.bipush 60, 2) := by decide +kernel
theorem dX11_take_43 : decode cX11_take 43 = .ok (.if_icmp .lt 6, 3) := by decide +kernel
theorem dX11_take_46 : decode cX11_take 46 = .ok (.bipush (-4), 2) := by decide +kernel
theorem dX11_take_48 : decode cX11_take 48 = .ok (.ireturn, 1) := by decide +kernel
theorem dX11_take_49 : decode cX11_take 49 = .ok (.new 255, 3) := by decide +kernel
theorem dX11_take_52 : decode cX11_take 52 = .ok (.dup, 1) := by decide +kernel
theorem dX11_take_53 : decode cX11_take 53 = .ok (.aload_n 0, 1) := by decide +kernel
theorem dX11_take_54 : decode cX11_take 54 = .ok (.getfield 152, 3) := by decide +kernel
theorem dX11_take_57 : decode cX11_take 57 = .ok (.iload_n 1, 1) := by decide +kernel
theorem dX11_take_58 : decode cX11_take 58 = .ok (.iload_n 2, 1) := by decide +kernel
theorem dX11_take_59 : decode cX11_take 59 = .ok (.aload_n 3, 1) := by decide +kernel
theorem dX11_take_60 : decode cX11_take 60 = .ok (.getfield 178, 3) := by decide +kernel
theorem dX11_take_63 : decode cX11_take 63 = .ok (.aload_n 0, 1) := by decide +kernel
theorem dX11_take_64 : decode cX11_take 64 = .ok (.aload_n 3, 1) := by decide +kernel
theorem dX11_take_65 : decode cX11_take 65 = .ok (.iload_n 2, 1) := by decide +kernel
theorem dX11_take_66 : decode cX11_take 66 = .ok (.invokevirtual 244, 3) := by decide +kernel
theorem dX11_take_69 : decode cX11_take 69 = .ok (.aload_n 0, 1) := by decide +kernel
theorem dX11_take_70 : decode cX11_take 70 = .ok (.iload_n 1, 1) := by decide +kernel
theorem dX11_take_71 : decode cX11_take 71 = .ok (.invokevirtual 248, 3) := by decide +kernel
theorem dX11_take_74 : decode cX11_take 74 = .ok (.invokespecial 257, 3) := by decide +kernel
theorem dX11_take_77 : decode cX11_take 77 = .ok (.astore 4, 2) := by decide +kernel
theorem dX11_take_79 : decode cX11_take 79 = .ok (.aload_n 3, 1) := by decide +kernel
theorem dX11_take_80 : decode cX11_take 80 = .ok (.aload 4, 2) := by decide +kernel
theorem dX11_take_82 : decode cX11_take 82 = .ok (.putfield 260, 3) := by decide +kernel
theorem dX11_take_85 : decode cX11_take 85 = .ok (.aload_n 3, 1) := by decide +kernel
theorem dX11_take_86 : decode cX11_take 86 = .ok (.bipush 20, 2) := by decide +kernel
theorem dX11_take_88 : decode cX11_take 88 = .ok (.aload_n 0, 1) := by decide +kernel
theorem dX11_take_89 : decode cX11_take 89 = .ok (.getfield 152, 3) := by decide +kernel
theorem dX11_take_92 : decode cX11_take 92 = .ok (.invokevirtual 184, 3) := by decide +kernel
theorem dX11_take_95 : decode cX11_take 95 = .ok (.pop, 1) := by decide +kernel
theorem dX11_take_96 : decode cX11_take 96 = .ok (.aload_n 0, 1) := by decide +kernel
theorem dX11_take_97 : decode cX11_take 97 = .ok (.getfield 37, 3) := by decide +kernel
theorem dX11_take_100 : decode cX11_take 100 = .ok (.aload 4, 2) := by decide +kernel
theorem dX11_take_102 : decode cX11_take 102 = .ok (.invokevirtual 264, 3) := by decide +kernel
theorem dX11_take_105 : decode cX11_take 105 = .ok (.aload_n 0, 1) := by decide +kernel
theorem dX11_take_106 : decode cX11_take 106 = .ok (.getfield 37, 3) := by decide +kernel
theorem dX11_take_109 : decode cX11_take 109 = .ok (.getfield 254, 3) := by decide +kernel
theorem dX11_take_112 : decode cX11_take 112 = .ok (.iconst 1, 1) := by decide +kernel
theorem dX11_take_113 : decode cX11_take 113 = .ok (.isub, 1) := by decide +kernel
theorem dX11_take_114 : decode cX11_take 114 = .ok (.ireturn, 1) := by decide +kernel
theorem dX11_taking_0 : decode cX11_taking 0 = .ok (.aload_n 0, 1) := by decide +kernel
theorem dX11_taking_1 : decode cX11_taking 1 = .ok (.getfield 37, 3) := by decide +kernel
theorem dX11_taking_4 : decode cX11_taking 4 = .ok (.iload_n 1, 1) := by decide +kernel
theorem dX11_taking_5 : decode cX11_taking 5 = .ok (.invokevirtual 267, 3) := by decide +kernel
theorem dX11_taking_8 : decode cX11_taking 8 = .ok (.astore_n 3, 1) := by decide +kernel
theorem dX11_taking_9 : decode cX11_taking 9 = .ok (.aload_n 3, 1) := by decide +kernel
theorem dX11_taking_10 : decode cX11_taking 10 = .ok (.ifnonnull 5, 3) := by decide +kernel
theorem dX11_taking_13 : decode cX11_taking 13 = .ok (.iconst (-1), 1) := by decide +kernel
theorem dX11_taking_14 : decode cX11_taking 14 = .ok (.ireturn, 1) := by decide +kernel
theorem dX11_taking_15 : decode cX11_taking 15 = .ok (.iload_n 2, 1) := by decide +kernel
theorem dX11_taking_16 : decode cX11_taking 16 = .ok (.tableswitch 76 0 5 #[40, 45, 50, 55, 60, 68], 40) := by decide +kernel
theorem dX11_taking_56 : decode cX11_taking 56 = .ok (.aload_n 3, 1) := by decide +kernel
theorem dX11_taking_57 : decode cX11_taking 57 = .ok (.getfield 271, 3) := by decide +kernel
theorem dX11_taking_60 : decode cX11_taking 60 = .ok (.ireturn, 1) := by decide +kernel
theorem dX11_taking_61 : decode cX11_taking 61 = .ok (.aload_n 3, 1) := by decide +kernel
theorem dX11_taking_62 : decode cX11_taking 62 = .ok (.getfield 274, 3) := by decide +kernel
theorem dX11_taking_65 : decode cX11_taking 65 = .ok (.ireturn, 1) := by decide +kernel
theorem dX11_taking_66 : decode cX11_taking 66 = .ok (.aload_n 3, 1) := by decide +kernel
theorem dX11_taking_67 : decode cX11_taking 67 = .ok (.getfield 277, 3) := by decide +kernel
theorem dX11_taking_70 : decode cX11_taking 70 = .ok (.ireturn, 1) := by decide +kernel
theorem dX11_taking_71 : decode cX11_taking 71 = .ok (.aload_n 3, 1) := by decide +kernel
theorem dX11_taking_72 : decode cX11_taking 72 = .ok (.getfield 280, 3) := by decide +kernel
theorem dX11_taking_75 : decode cX11_taking 75 = .ok (.ireturn, 1) := by decide +kernel
theorem dX11_taking_76 : decode cX11_taking 76 = .ok (.aload_n 3, 1) := by decide +kernel
theorem dX11_taking_77 : decode cX11_taking 77 = .ok (.getfield 283, 3) := by decide +kernel
theorem dX11_taking_80 : decode cX11_taking 80 = .ok (.invokestatic 112, 3) := by decide +kernel
theorem dX11_taking_83 : decode cX11_taking 83 = .ok (.ireturn, 1) := by decide +kernel
theorem dX11_taking_84 : decode cX11_taking 84 = .ok (.aload_n 3, 1) := by decide +kernel
theorem dX11_taking_85 : decode cX11_taking 85 = .ok (.getfield 286, 3) := by decide +kernel
theorem dX11_taking_88 : decode cX11_taking 88 = .ok (.invokestatic 112, 3) := by decide +kernel
theorem dX11_taking_91 : decode cX11_taking 91 = .ok (.ireturn, 1) := by decide +kernel
theorem dX11_taking_92 : decode cX11_taking 92 = .ok (.bipush (-2), 2) := by decide +kernel
theorem dX11_taking_94 : decode cX11_taking 94 = .ok (.ireturn, 1) := by decide +kernel
theorem dX11_wronged_0 : decode cX11_wronged 0 = .ok (.iconst 0, 1) := by decide +kernel
theorem dX11_wronged_1 : decode cX11_wronged 1 = .ok (.istore_n 1, 1) := by decide +kernel
theorem dX11_wronged_2 : decode cX11_wronged 2 = .ok (.iconst 0, 1) := by decide +kernel
theorem dX11_wronged_3 : decode cX11_wronged 3 = .ok (.istore_n 2, 1) := by decide +kernel
theorem dX11_wronged_4 : decode cX11_wronged 4 = .ok (.iload_n 2, 1) := by decide +kernel
theorem dX11_wronged_5 : decode cX11_wronged 5 = .ok (.aload_n 0, 1) := by decide +kernel
theorem dX11_wronged_6 : decode cX11_wronged 6 = .ok (.getfield 94, 3) := by decide +kernel
theorem dX11_wronged_9 : decode cX11_wronged 9 = .ok (.if_icmp .ge 25, 3) := by decide +kernel
theorem dX11_wronged_12 : decode cX11_wronged 12 = .ok (.aload_n 0, 1) := by decide +kernel
theorem dX11_wronged_13 : decode cX11_wronged 13 = .ok (.aload_n 0, 1) := by decide +kernel
theorem dX11_wronged_14 : decode cX11_wronged 14 = .ok (.getfield 18, 3) := by decide +kernel
theorem dX11_wronged_17 : decode cX11_wronged 17 = .ok (.iload_n 2, 1) := by decide +kernel
theorem dX11_wronged_18 : decode cX11_wronged 18 = .ok (.aaload, 1) := by decide +kernel
theorem dX11_wronged_19 : decode cX11_wronged 19 = .ok (.invokevirtual 289, 3) := by decide +kernel
theorem dX11_wronged_22 : decode cX11_wronged 22 = .ok (.ifCond .eq 6, 3) := by decide +kernel
theorem dX11_wronged_25 : decode cX11_wronged 25 = .ok (.iinc 1 1, 3) := by decide +kernel
theorem dX11_wronged_28 : decode cX11_wronged 28 = .ok (.iinc 2 1, 3) := by decide +kernel
theorem dX11_wronged_31 : decode cX11_wronged 31 = .ok (.goto (-27), 3) := by decide +kernel
theorem dX11_wronged_34 : decode cX11_wronged 34 = .ok (.iload_n 1, 1) := by decide +kernel
theorem dX11_wronged_35 : decode cX11_wronged 35 = .ok (.ireturn, 1) := by decide +kernel
theorem dX11_wrongedMan_0 : decode cX11_wrongedMan 0 = .ok (.iconst 0, 1) := by decide +kernel
theorem dX11_wrongedMan_1 : decode cX11_wrongedMan 1 = .ok (.istore_n 2, 1) := by decide +kernel
theorem dX11_wrongedMan_2 : decode cX11_wrongedMan 2 = .ok (.iconst 0, 1) := by decide +kernel
theorem dX11_wrongedMan_3 : decode cX11_wrongedMan 3 = .ok (.istore_n 3, 1) := by decide +kernel
theorem dX11_wrongedMan_4 : decode cX11_wrongedMan 4 = .ok (.iload_n 3, 1) := by decide +kernel
theorem dX11_wrongedMan_5 : decode cX11_wrongedMan 5 = .ok (.aload_n 0, 1) := by decide +kernel
theorem dX11_wrongedMan_6 : decode cX11_wrongedMan 6 = .ok (.getfield 94, 3) := by decide +kernel
theorem dX11_wrongedMan_9 : decode cX11_wrongedMan 9 = .ok (.if_icmp .ge 32, 3) := by decide +kernel
theorem dX11_wrongedMan_12 : decode cX11_wrongedMan 12 = .ok (.aload_n 0, 1) := by decide +kernel
theorem dX11_wrongedMan_13 : decode cX11_wrongedMan 13 = .ok (.aload_n 0, 1) := by decide +kernel
theorem dX11_wrongedMan_14 : decode cX11_wrongedMan 14 = .ok (.getfield 18, 3) := by decide +kernel
theorem dX11_wrongedMan_17 : decode cX11_wrongedMan 17 = .ok (.iload_n 3, 1) := by decide +kernel
theorem dX11_wrongedMan_18 : decode cX11_wrongedMan 18 = .ok (.aaload, 1) := by decide +kernel
theorem dX11_wrongedMan_19 : decode cX11_wrongedMan 19 = .ok (.invokevirtual 289, 3) := by decide +kernel
theorem dX11_wrongedMan_22 : decode cX11_wrongedMan 22 = .ok (.ifCond .eq 13, 3) := by decide +kernel
theorem dX11_wrongedMan_25 : decode cX11_wrongedMan 25 = .ok (.iload_n 2, 1) := by decide +kernel
theorem dX11_wrongedMan_26 : decode cX11_wrongedMan 26 = .ok (.iload_n 1, 1) := by decide +kernel
theorem dX11_wrongedMan_27 : decode cX11_wrongedMan 27 = .ok (.if_icmp .ne 5, 3) := by decide +kernel
theorem dX11_wrongedMan_30 : decode cX11_wrongedMan 30 = .ok (.iload_n 3, 1) := by decide +kernel
theorem dX11_wrongedMan_31 : decode cX11_wrongedMan 31 = .ok (.ireturn, 1) := by decide +kernel
theorem dX11_wrongedMan_32 : decode cX11_wrongedMan 32 = .ok (.iinc 2 1, 3) := by decide +kernel
theorem dX11_wrongedMan_35 : decode cX11_wrongedMan 35 = .ok (.iinc 3 1, 3) := by decide +kernel
theorem dX11_wrongedMan_38 : decode cX11_wrongedMan 38 = .ok (.goto (-34), 3) := by decide +kernel
theorem dX11_wrongedMan_41 : decode cX11_wrongedMan 41 = .ok (.bipush (-9), 2) := by decide +kernel
theorem dX11_wrongedMan_43 : decode cX11_wrongedMan 43 = .ok (.ireturn, 1) := by decide +kernel
theorem dX11_letGo_0 : decode cX11_letGo 0 = .ok (.aload_n 0, 1) := by decide +kernel
theorem dX11_letGo_1 : decode cX11_letGo 1 = .ok (.iload_n 1, 1) := by decide +kernel
theorem dX11_letGo_2 : decode cX11_letGo 2 = .ok (.invokevirtual 123, 3) := by decide +kernel
theorem dX11_letGo_5 : decode cX11_letGo 5 = .ok (.astore_n 2, 1) := by decide +kernel
theorem dX11_letGo_6 : decode cX11_letGo 6 = .ok (.aload_n 2, 1) := by decide +kernel
theorem dX11_letGo_7 : decode cX11_letGo 7 = .ok (.ifnonnull 5, 3) := by decide +kernel
theorem dX11_letGo_10 : decode cX11_letGo 10 = .ok (.iconst (-1), 1) := by decide +kernel
theorem dX11_letGo_11 : decode cX11_letGo 11 = .ok (.ireturn, 1) := by decide +kernel
theorem dX11_letGo_12 : decode cX11_letGo 12 = .ok (.aload_n 2, 1) := by decide +kernel
theorem dX11_letGo_13 : decode cX11_letGo 13 = .ok (.getfield 178, 3) := by decide +kernel
theorem dX11_letGo_16 : decode cX11_letGo 16 = .ok (.bipush 20, 2) := by decide +kernel
theorem dX11_letGo_18 : decode cX11_letGo 18 = .ok (.if_icmp .eq 26, 3) := by decide +kernel
theorem dX11_letGo_21 : decode cX11_letGo 21 = .ok (.aload_n 2, 1) := by decide +kernel
theorem dX11_letGo_22 : decode cX11_letGo 22 = .ok (.getfield 178, 3) := by decide +kernel
theorem dX11_letGo_25 : decode cX11_letGo 25 = .ok (.bipush 21, 2) := by decide +kernel
theorem dX11_letGo_27 : decode cX11_letGo 27 = .ok (.if_icmp .eq 17, 3) := by decide +kernel
theorem dX11_letGo_30 : decode cX11_letGo 30 = .ok (.aload_n 0, 1) := by decide +kernel
theorem dX11_letGo_31 : decode cX11_letGo 31 = .ok (.aload_n 2, 1) := by decide +kernel
theorem dX11_letGo_32 : decode cX11_letGo 32 = .ok (.getfield 178, 3) := by decide +kernel
theorem dX11_letGo_35 : decode cX11_letGo 35 = .ok (.invokevirtual 293, 3) := by decide +kernel
theorem dX11_letGo_38 : decode cX11_letGo 38 = .ok (.ifCond .ne 6, 3) := by decide +kernel
theorem dX11_letGo_41 : decode cX11_letGo 41 = .ok (.bipush (-3), 2) := by decide +kernel
theorem dX11_letGo_43 : decode cX11_letGo 43 = .ok (.ireturn, 1) := by decide +kernel
theorem dX11_letGo_44 : decode cX11_letGo 44 = .ok (.aload_n 2, 1) := by decide +kernel
theorem dX11_letGo_45 : decode cX11_letGo 45 = .ok (.aload_n 2, 1) := by decide +kernel
theorem dX11_letGo_46 : decode cX11_letGo 46 = .ok (.getfield 145, 3) := by decide +kernel
theorem dX11_letGo_49 : decode cX11_letGo 49 = .ok (.aload_n 0, 1) := by decide +kernel
theorem dX11_letGo_50 : decode cX11_letGo 50 = .ok (.getfield 152, 3) := by decide +kernel
theorem dX11_letGo_53 : decode cX11_letGo 53 = .ok (.invokevirtual 184, 3) := by decide +kernel
theorem dX11_letGo_56 : decode cX11_letGo 56 = .ok (.ireturn, 1) := by decide +kernel
theorem dX11_quiet_0 : decode cX11_quiet 0 = .ok (.aload_n 0, 1) := by decide +kernel
theorem dX11_quiet_1 : decode cX11_quiet 1 = .ok (.getfield 37, 3) := by decide +kernel
theorem dX11_quiet_4 : decode cX11_quiet 4 = .ok (.invokevirtual 296, 3) := by decide +kernel
theorem dX11_quiet_7 : decode cX11_quiet 7 = .ok (.istore_n 1, 1) := by decide +kernel
theorem dX11_quiet_8 : decode cX11_quiet 8 = .ok (.aload_n 0, 1) := by decide +kernel
theorem dX11_quiet_9 : decode cX11_quiet 9 = .ok (.getfield 37, 3) := by decide +kernel
theorem dX11_quiet_12 : decode cX11_quiet 12 = .ok (.invokevirtual 299, 3) := by decide +kernel
theorem dX11_quiet_15 : decode cX11_quiet 15 = .ok (.iload_n 1, 1) := by decide +kernel
theorem dX11_quiet_16 : decode cX11_quiet 16 = .ok (.ireturn, 1) := by decide +kernel
theorem dX11_heard_0 : decode cX11_heard 0 = .ok (.aload_n 0, 1) := by decide +kernel
theorem dX11_heard_1 : decode cX11_heard 1 = .ok (.getfield 10, 3) := by decide +kernel
theorem dX11_heard_4 : decode cX11_heard 4 = .ok (.iload_n 1, 1) := by decide +kernel
theorem dX11_heard_5 : decode cX11_heard 5 = .ok (.invokevirtual 104, 3) := by decide +kernel
theorem dX11_heard_8 : decode cX11_heard 8 = .ok (.ifCond .ne 5, 3) := by decide +kernel
theorem dX11_heard_11 : decode cX11_heard 11 = .ok (.iconst (-1), 1) := by decide +kernel
theorem dX11_heard_12 : decode cX11_heard 12 = .ok (.ireturn, 1) := by decide +kernel
theorem dX11_heard_13 : decode cX11_heard 13 = .ok (.aload_n 0, 1) := by decide +kernel
theorem dX11_heard_14 : decode cX11_heard 14 = .ok (.getfield 37, 3) := by decide +kernel
theorem dX11_heard_17 : decode cX11_heard 17 = .ok (.iload_n 1, 1) := by decide +kernel
theorem dX11_heard_18 : decode cX11_heard 18 = .ok (.aload_n 0, 1) := by decide +kernel
theorem dX11_heard_19 : decode cX11_heard 19 = .ok (.getfield 10, 3) := by decide +kernel
theorem dX11_heard_22 : decode cX11_heard 22 = .ok (.invokevirtual 165, 3) := by decide +kernel
theorem dX11_heard_25 : decode cX11_heard 25 = .ok (.istore_n 2, 1) := by decide +kernel
theorem dX11_heard_26 : decode cX11_heard 26 = .ok (.iload_n 2, 1) := by decide +kernel
theorem dX11_heard_27 : decode cX11_heard 27 = .ok (.sipush 999, 3) := by decide +kernel
theorem dX11_heard_30 : decode cX11_heard 30 = .ok (.if_icmp .ne 8, 3) := by decide +kernel
theorem dX11_heard_33 : decode cX11_heard 33 = .ok (.bipush (-9), 2) := by decide +kernel
theorem dX11_heard_35 : decode cX11_heard 35 = .ok (.goto 4, 3) := by decide +kernel
theorem dX11_heard_38 : decode cX11_heard 38 = .ok (.iload_n 2, 1) := by decide +kernel
theorem dX11_heard_39 : decode cX11_heard 39 = .ok (.ireturn, 1) := by decide +kernel
theorem dX11_tender_0 : decode cX11_tender 0 = .ok (.iload_n 1, 1) := by decide +kernel
theorem dX11_tender_1 : decode cX11_tender 1 = .ok (.ifCond .ne 25, 3) := by decide +kernel
theorem dX11_tender_4 : decode cX11_tender 4 = .ok (.iload_n 2, 1) := by decide +kernel
theorem dX11_tender_5 : decode cX11_tender 5 = .ok (.iconst 0, 1) := by decide +kernel
theorem dX11_tender_6 : decode cX11_tender 6 = .ok (.bipush 40, 2) := by decide +kernel
theorem dX11_tender_8 : decode cX11_tender 8 = .ok (.invokestatic 90, 3) := by decide +kernel
theorem dX11_tender_11 : decode cX11_tender 11 = .ok (.ifCond .eq 15, 3) := by decide +kernel
theorem dX11_tender_14 : decode cX11_tender 14 = .ok (.aload_n 0, 1) := by decide +kernel
theorem dX11_tender_15 : decode cX11_tender 15 = .ok (.getfield 76, 3) := by decide +kernel
theorem dX11_tender_18 : decode cX11_tender 18 = .ok (.istore_n 3, 1) := by decide +kernel
theorem dX11_tender_19 : decode cX11_tender 19 = .ok (.aload_n 0, 1) := by decide +kernel
theorem dX11_tender_20 : decode cX11_tender 20 = .ok (.iload_n 2, 1) := by decide +kernel
theorem dX11_tender_21 : decode cX11_tender 21 = .ok (.putfield 76, 3) := by decide +kernel
theorem dX11_tender_24 : decode cX11_tender 24 = .ok (.iload_n 3, 1) := by decide +kernel
theorem dX11_tender_25 : decode cX11_tender 25 = .ok (.ireturn, 1) := by decide +kernel
theorem dX11_tender_26 : decode cX11_tender 26 = .ok (.iload_n 1, 1) := by decide +kernel
theorem dX11_tender_27 : decode cX11_tender 27 = .ok (.iconst 1, 1) := by decide +kernel
theorem dX11_tender_28 : decode cX11_tender 28 = .ok (.if_icmp .ne 25, 3) := by decide +kernel
theorem dX11_tender_31 : decode cX11_tender 31 = .ok (.iload_n 2, 1) := by decide +kernel
theorem dX11_tender_32 : decode cX11_tender 32 = .ok (.iconst 0, 1) := by decide +kernel
theorem dX11_tender_33 : decode cX11_tender 33 = .ok (.bipush 100, 2) := by decide +kernel
theorem dX11_tender_35 : decode cX11_tender 35 = .ok (.invokestatic 90, 3) := by decide +kernel
theorem dX11_tender_38 : decode cX11_tender 38 = .ok (.ifCond .eq 15, 3) := by decide +kernel
theorem dX11_tender_41 : decode cX11_tender 41 = .ok (.aload_n 0, 1) := by decide +kernel
theorem dX11_tender_42 : decode cX11_tender 42 = .ok (.getfield 80, 3) := by decide +kernel
theorem dX11_tender_45 : decode cX11_tender 45 = .ok (.istore_n 3, 1) := by decide +kernel
theorem dX11_tender_46 : decode cX11_tender 46 = .ok (.aload_n 0, 1) := by decide +kernel
theorem dX11_tender_47 : decode cX11_tender 47 = .ok (.iload_n 2, 1) := by decide +kernel
theorem dX11_tender_48 : decode cX11_tender 48 = .ok (.putfield 80, 3) := by decide +kernel
theorem dX11_tender_51 : decode cX11_tender 51 = .ok (.iload_n 3, 1) := by decide +kernel
theorem dX11_tender_52 : decode cX11_tender 52 = .ok (.ireturn, 1) := by decide +kernel
theorem dX11_tender_53 : decode cX11_tender 53 = .ok (.bipush (-2), 2) := by decide +kernel
theorem dX11_tender_55 : decode cX11_tender 55 = .ok (.ireturn, 1) := by decide +kernel
theorem dX11_met_0 : decode cX11_met 0 = .ok (.iload_n 1, 1) := by decide +kernel
theorem dX11_met_1 : decode cX11_met 1 = .ok (.iconst 1, 1) := by decide +kernel
theorem dX11_met_2 : decode cX11_met 2 = .ok (.iconst 2, 1) := by decide +kernel
theorem dX11_met_3 : decode cX11_met 3 = .ok (.invokestatic 90, 3) := by decide +kernel
theorem dX11_met_6 : decode cX11_met 6 = .ok (.ifCond .eq 12, 3) := by decide +kernel
theorem dX11_met_9 : decode cX11_met 9 = .ok (.iload_n 2, 1) := by decide +kernel
theorem dX11_met_10 : decode cX11_met 10 = .ok (.iconst 1, 1) := by decide +kernel
theorem dX11_met_11 : decode cX11_met 11 = .ok (.iconst 3, 1) := by decide +kernel
theorem dX11_met_12 : decode cX11_met 12 = .ok (.invokestatic 90, 3) := by decide +kernel
theorem dX11_met_15 : decode cX11_met 15 = .ok (.ifCond .ne 6, 3) := by decide +kernel
theorem dX11_met_18 : decode cX11_met 18 = .ok (.bipush (-2), 2) := by decide +kernel
theorem dX11_met_20 : decode cX11_met 20 = .ok (.ireturn, 1) := by decide +kernel
theorem dX11_met_21 : decode cX11_met 21 = .ok (.aload_n 0, 1) := by decide +kernel
theorem dX11_met_22 : decode cX11_met 22 = .ok (.invokevirtual 302, 3) := by decide +kernel
theorem dX11_met_25 : decode cX11_met 25 = .ok (.aload_n 0, 1) := by decide +kernel
theorem dX11_met_26 : decode cX11_met 26 = .ok (.getfield 65, 3) := by decide +kernel
theorem dX11_met_29 : decode cX11_met 29 = .ok (.iload_n 1, 1) := by decide +kernel
theorem dX11_met_30 : decode cX11_met 30 = .ok (.invokevirtual 305, 3) := by decide +kernel
theorem dX11_met_33 : decode cX11_met 33 = .ok (.ireturn, 1) := by decide +kernel
theorem dX11_laid_0 : decode cX11_laid 0 = .ok (.iload_n 1, 1) := by decide +kernel
theorem dX11_laid_1 : decode cX11_laid 1 = .ok (.iconst 1, 1) := by decide +kernel
theorem dX11_laid_2 : decode cX11_laid 2 = .ok (.iconst 2, 1) := by decide +kernel
theorem dX11_laid_3 : decode cX11_laid 3 = .ok (.invokestatic 90, 3) := by decide +kernel
theorem dX11_laid_6 : decode cX11_laid 6 = .ok (.ifCond .eq 35, 3) := by decide +kernel
theorem dX11_laid_9 : decode cX11_laid 9 = .ok (.iload_n 2, 1) := by decide +kernel
theorem dX11_laid_10 : decode cX11_laid 10 = .ok (.iconst 1, 1) := by decide +kernel
theorem dX11_laid_11 : decode cX11_laid 11 = .ok (.iconst 3, 1) := by decide +kernel
theorem dX11_laid_12 : decode cX11_laid 12 = .ok (.invokestatic 90, 3) := by decide +kernel
theorem dX11_laid_15 : decode cX11_laid 15 = .ok (.ifCond .eq 26, 3) := by decide +kernel
theorem dX11_laid_18 : decode cX11_laid 18 = .ok (.iload_n 3, 1) := by decide +kernel
theorem dX11_laid_19 : decode cX11_laid 19 = .ok (.iconst 0, 1) := by decide +kernel
theorem dX11_laid_20 : decode cX11_laid 20 = .ok (.iload_n 1, 1) := by decide +kernel
theorem dX11_laid_21 : decode cX11_laid 21 = .ok (.iconst 1, 1) := by decide +kernel
theorem dX11_laid_22 : decode cX11_laid 22 = .ok (.isub, 1) := by decide +kernel
theorem dX11_laid_23 : decode cX11_laid 23 = .ok (.invokestatic 90, 3) := by decide +kernel
theorem dX11_laid_26 : decode cX11_laid 26 = .ok (.ifCond .eq 15, 3) := by decide +kernel
theorem dX11_laid_29 : decode cX11_laid 29 = .ok (.iload 4, 2) := by decide +kernel
theorem dX11_laid_31 : decode cX11_laid 31 = .ok (.iconst 0, 1) := by decide +kernel
theorem dX11_laid_32 : decode cX11_laid 32 = .ok (.iload_n 2, 1) := by decide +kernel
theorem dX11_laid_33 : decode cX11_laid 33 = .ok (.iconst 1, 1) := by decide +kernel
theorem dX11_laid_34 : decode cX11_laid 34 = .ok (.isub, 1) := by decide +kernel
theorem dX11_laid_35 : decode cX11_laid 35 = .ok (.invokestatic 90, 3) := by decide +kernel
theorem dX11_laid_38 : decode cX11_laid 38 = .ok (.ifCond .ne 6, 3) := by decide +kernel
theorem dX11_laid_41 : decode cX11_laid 41 = .ok (.bipush (-2), 2) := by decide +kernel
theorem dX11_laid_43 : decode cX11_laid 43 = .ok (.ireturn, 1) := by decide +kernel
theorem dX11_laid_44 : decode cX11_laid 44 = .ok (.aload_n 0, 1) := by decide +kernel
theorem dX11_laid_45 : decode cX11_laid 45 = .ok (.invokevirtual 302, 3) := by decide +kernel
theorem dX11_laid_48 : decode cX11_laid 48 = .ok (.aload_n 0, 1) := by decide +kernel
theorem dX11_laid_49 : decode cX11_laid 49 = .ok (.getfield 65, 3) := by decide +kernel
theorem dX11_laid_52 : decode cX11_laid 52 = .ok (.iload_n 1, 1) := by decide +kernel
theorem dX11_laid_53 : decode cX11_laid 53 = .ok (.iload_n 2, 1) := by decide +kernel
theorem dX11_laid_54 : decode cX11_laid 54 = .ok (.invokevirtual 308, 3) := by decide +kernel
theorem dX11_laid_57 : decode cX11_laid 57 = .ok (.aload_n 0, 1) := by decide +kernel
theorem dX11_laid_58 : decode cX11_laid 58 = .ok (.getfield 65, 3) := by decide +kernel
theorem dX11_laid_61 : decode cX11_laid 61 = .ok (.iload_n 3, 1) := by decide +kernel
theorem dX11_laid_62 : decode cX11_laid 62 = .ok (.iload 4, 2) := by decide +kernel
theorem dX11_laid_64 : decode cX11_laid 64 = .ok (.invokevirtual 311, 3) := by decide +kernel
theorem dX11_laid_67 : decode cX11_laid 67 = .ok (.ireturn, 1) := by decide +kernel
theorem dX11_ship_0 : decode cX11_ship 0 = .ok (.iload_n 1, 1) := by decide +kernel
theorem dX11_ship_1 : decode cX11_ship 1 = .ok (.iconst 0, 1) := by decide +kernel
theorem dX11_ship_2 : decode cX11_ship 2 = .ok (.iconst 1, 1) := by decide +kernel
theorem dX11_ship_3 : decode cX11_ship 3 = .ok (.invokestatic 90, 3) := by decide +kernel
theorem dX11_ship_6 : decode cX11_ship 6 = .ok (.ifCond .eq 33, 3) := by decide +kernel
theorem dX11_ship_9 : decode cX11_ship 9 = .ok (.iload_n 2, 1) := by decide +kernel
theorem dX11_ship_10 : decode cX11_ship 10 = .ok (.iconst 1, 1) := by decide +kernel
theorem dX11_ship_11 : decode cX11_ship 11 = .ok (.bipush 20, 2) := by decide +kernel
theorem dX11_ship_13 : decode cX11_ship 13 = .ok (.invokestatic 90, 3) := by decide +kernel
theorem dX11_ship_16 : decode cX11_ship 16 = .ok (.ifCond .eq 23, 3) := by decide +kernel
theorem dX11_ship_19 : decode cX11_ship 19 = .ok (.iload_n 3, 1) := by decide +kernel
theorem dX11_ship_20 : decode cX11_ship 20 = .ok (.iconst 0, 1) := by decide +kernel
theorem dX11_ship_21 : decode cX11_ship 21 = .ok (.iload_n 2, 1) := by decide +kernel
theorem dX11_ship_22 : decode cX11_ship 22 = .ok (.invokestatic 90, 3) := by decide +kernel
theorem dX11_ship_25 : decode cX11_ship 25 = .ok (.ifCond .eq 14, 3) := by decide +kernel
theorem dX11_ship_28 : decode cX11_ship 28 = .ok (.iload 4, 2) := by decide +kernel
theorem dX11_ship_30 : decode cX11_ship 30 = .ok (.iconst 0, 1) := by decide +kernel
theorem dX11_ship_31 : decode cX11_ship 31 = .ok (.bipush 20, 2) := by decide +kernel
theorem dX11_ship_33 : decode cX11_ship 33 = .ok (.invokestatic 90, 3) := by decide +kernel
theorem dX11_ship_36 : decode cX11_ship 36 = .ok (.ifCond .ne 6, 3) := by decide +kernel
theorem dX11_ship_39 : decode cX11_ship 39 = .ok (.bipush (-2), 2) := by decide +kernel
theorem dX11_ship_41 : decode cX11_ship 41 = .ok (.ireturn, 1) := by decide +kernel
theorem dX11_ship_42 : decode cX11_ship 42 = .ok (.aload_n 0, 1) := by decide +kernel
theorem dX11_ship_43 : decode cX11_ship 43 = .ok (.getfield 314, 3) := by decide +kernel
theorem dX11_ship_46 : decode cX11_ship 46 = .ok (.bipush 10, 2) := by decide +kernel
theorem dX11_ship_48 : decode cX11_ship 48 = .ok (.if_icmp .lt 6, 3) := by decide +kernel
theorem dX11_ship_51 : decode cX11_ship 51 = .ok (.bipush (-4), 2) := by decide +kernel
theorem dX11_ship_53 : decode cX11_ship 53 = .ok (.ireturn, 1) := by decide +kernel
theorem dX11_ship_54 : decode cX11_ship 54 = .ok (.aload_n 0, 1) := by decide +kernel
theorem dX11_ship_55 : decode cX11_ship 55 = .ok (.getfield 43, 3) := by decide +kernel
theorem dX11_ship_58 : decode cX11_ship 58 = .ok (.aload_n 0, 1) := by decide +kernel
theorem dX11_ship_59 : decode cX11_ship 59 = .ok (.getfield 314, 3) := by decide +kernel
theorem dX11_ship_62 : decode cX11_ship 62 = .ok (.new 41, 3) := by decide +kernel
theorem dX11_ship_65 : decode cX11_ship 65 = .ok (.dup, 1) := by decide +kernel
theorem dX11_ship_66 : decode cX11_ship 66 = .ok (.iload_n 1, 1) := by decide +kernel
theorem dX11_ship_67 : decode cX11_ship 67 = .ok (.iload_n 2, 1) := by decide +kernel
theorem dX11_ship_68 : decode cX11_ship 68 = .ok (.iload_n 3, 1) := by decide +kernel
theorem dX11_ship_69 : decode cX11_ship 69 = .ok (.iload 4, 2) := by decide +kernel
theorem dX11_ship_71 : decode cX11_ship 71 = .ok (.invokespecial 317, 3) := by decide +kernel
theorem dX11_ship_74 : decode cX11_ship 74 = .ok (.aastore, 1) := by decide +kernel
theorem dX11_ship_75 : decode cX11_ship 75 = .ok (.aload_n 0, 1) := by decide +kernel
theorem dX11_ship_76 : decode cX11_ship 76 = .ok (.dup, 1) := by decide +kernel
theorem dX11_ship_77 : decode cX11_ship 77 = .ok (.getfield 314, 3) := by decide +kernel
theorem dX11_ship_80 : decode cX11_ship 80 = .ok (.iconst 1, 1) := by decide +kernel
theorem dX11_ship_81 : decode cX11_ship 81 = .ok (.iadd, 1) := by decide +kernel
theorem dX11_ship_82 : decode cX11_ship 82 = .ok (.putfield 314, 3) := by decide +kernel
theorem dX11_ship_85 : decode cX11_ship 85 = .ok (.aload_n 0, 1) := by decide +kernel
theorem dX11_ship_86 : decode cX11_ship 86 = .ok (.getfield 314, 3) := by decide +kernel
theorem dX11_ship_89 : decode cX11_ship 89 = .ok (.iconst 1, 1) := by decide +kernel
theorem dX11_ship_90 : decode cX11_ship 90 = .ok (.isub, 1) := by decide +kernel
theorem dX11_ship_91 : decode cX11_ship 91 = .ok (.ireturn, 1) := by decide +kernel
theorem dX11_of_0 : decode cX11_of 0 = .ok (.aload_n 0, 1) := by decide +kernel
theorem dX11_of_1 : decode cX11_of 1 = .ok (.iload_n 1, 1) := by decide +kernel
theorem dX11_of_2 : decode cX11_of 2 = .ok (.invokevirtual 320, 3) := by decide +kernel
theorem dX11_of_5 : decode cX11_of 5 = .ok (.astore_n 3, 1) := by decide +kernel
theorem dX11_of_6 : decode cX11_of 6 = .ok (.aload_n 3, 1) := by decide +kernel
theorem dX11_of_7 : decode cX11_of 7 = .ok (.ifnonnull 5, 3) := by decide +kernel
theorem dX11_of_10 : decode cX11_of 10 = .ok (.iconst (-1), 1) := by decide +kernel
theorem dX11_of_11 : decode cX11_of 11 = .ok (.ireturn, 1) := by decide +kernel
theorem dX11_of_12 : decode cX11_of 12 = .ok (.iload_n 2, 1) := by decide +kernel
theorem dX11_of_13 : decode cX11_of 13 = .ok (.tableswitch 89 0 6 #[43, 48, 53, 58, 63, 71, 80], 43) := by decide +kernel
theorem dX11_of_56 : decode cX11_of 56 = .ok (.aload_n 3, 1) := by decide +kernel
theorem dX11_of_57 : decode cX11_of 57 = .ok (.getfield 324, 3) := by decide +kernel
theorem dX11_of_60 : decode cX11_of 60 = .ok (.ireturn, 1) := by decide +kernel
theorem dX11_of_61 : decode cX11_of 61 = .ok (.aload_n 3, 1) := by decide +kernel
theorem dX11_of_62 : decode cX11_of 62 = .ok (.getfield 327, 3) := by decide +kernel
theorem dX11_of_65 : decode cX11_of 65 = .ok (.ireturn, 1) := by decide +kernel
theorem dX11_of_66 : decode cX11_of 66 = .ok (.aload_n 3, 1) := by decide +kernel
theorem dX11_of_67 : decode cX11_of 67 = .ok (.getfield 330, 3) := by decide +kernel
theorem dX11_of_70 : decode cX11_of 70 = .ok (.ireturn, 1) := by decide +kernel
theorem dX11_of_71 : decode cX11_of 71 = .ok (.aload_n 3, 1) := by decide +kernel
theorem dX11_of_72 : decode cX11_of 72 = .ok (.getfield 333, 3) := by decide +kernel
theorem dX11_of_75 : decode cX11_of 75 = .ok (.ireturn, 1) := by decide +kernel
theorem dX11_of_76 : decode cX11_of 76 = .ok (.aload_n 3, 1) := by decide +kernel
theorem dX11_of_77 : decode cX11_of 77 = .ok (.getfield 336, 3) := by decide +kernel
theorem dX11_of_80 : decode cX11_of 80 = .ok (.invokestatic 112, 3) := by decide +kernel
theorem dX11_of_83 : decode cX11_of 83 = .ok (.ireturn, 1) := by decide +kernel
theorem dX11_of_84 : decode cX11_of 84 = .ok (.aload_n 0, 1) := by decide +kernel
theorem dX11_of_85 : decode cX11_of 85 = .ok (.bipush 10, 2) := by decide +kernel
theorem dX11_of_87 : decode cX11_of 87 = .ok (.iload_n 1, 1) := by decide +kernel
theorem dX11_of_88 : decode cX11_of 88 = .ok (.iadd, 1) := by decide +kernel
theorem dX11_of_89 : decode cX11_of 89 = .ok (.invokevirtual 162, 3) := by decide +kernel
theorem dX11_of_92 : decode cX11_of 92 = .ok (.ireturn, 1) := by decide +kernel
theorem dX11_of_93 : decode cX11_of 93 = .ok (.aload_n 0, 1) := by decide +kernel
theorem dX11_of_94 : decode cX11_of 94 = .ok (.bipush 10, 2) := by decide +kernel
theorem dX11_of_96 : decode cX11_of 96 = .ok (.iload_n 1, 1) := by decide +kernel
theorem dX11_of_97 : decode cX11_of 97 = .ok (.iadd, 1) := by decide +kernel
theorem dX11_of_98 : decode cX11_of 98 = .ok (.invokevirtual 339, 3) := by decide +kernel
theorem dX11_of_101 : decode cX11_of 101 = .ok (.ireturn, 1) := by decide +kernel
theorem dX11_of_102 : decode cX11_of 102 = .ok (.bipush (-2), 2) := by decide +kernel
theorem dX11_of_104 : decode cX11_of 104 = .ok (.ireturn, 1) := by decide +kernel
theorem dX11_spare_0 : decode cX11_spare 0 = .ok (.aload_n 0, 1) := by decide +kernel
theorem dX11_spare_1 : decode cX11_spare 1 = .ok (.iload_n 1, 1) := by decide +kernel
theorem dX11_spare_2 : decode cX11_spare 2 = .ok (.invokevirtual 320, 3) := by decide +kernel
theorem dX11_spare_5 : decode cX11_spare 5 = .ok (.astore_n 3, 1) := by decide +kernel
theorem dX11_spare_6 : decode cX11_spare 6 = .ok (.aload_n 3, 1) := by decide +kernel
theorem dX11_spare_7 : decode cX11_spare 7 = .ok (.ifnonnull 5, 3) := by decide +kernel
theorem dX11_spare_10 : decode cX11_spare 10 = .ok (.iconst (-1), 1) := by decide +kernel
theorem dX11_spare_11 : decode cX11_spare 11 = .ok (.ireturn, 1) := by decide +kernel
theorem dX11_spare_12 : decode cX11_spare 12 = .ok (.iload_n 2, 1) := by decide +kernel
theorem dX11_spare_13 : decode cX11_spare 13 = .ok (.invokestatic 342, 3) := by decide +kernel
theorem dX11_spare_16 : decode cX11_spare 16 = .ok (.ifCond .ne 6, 3) := by decide +kernel
theorem dX11_spare_19 : decode cX11_spare 19 = .ok (.bipush (-2), 2) := by decide +kernel
theorem dX11_spare_21 : decode cX11_spare 21 = .ok (.ireturn, 1) := by decide +kernel
theorem dX11_spare_22 : decode cX11_spare 22 = .ok (.aload_n 3, 1) := by decide +kernel
theorem dX11_spare_23 : decode cX11_spare 23 = .ok (.getfield 324, 3) := by decide +kernel
theorem dX11_spare_26 : decode cX11_spare 26 = .ok (.ifCond .ne 6, 3) := by decide +kernel
theorem dX11_spare_29 : decode cX11_spare 29 = .ok (.bipush (-3), 2) := by decide +kernel
theorem dX11_spare_31 : decode cX11_spare 31 = .ok (.ireturn, 1) := by decide +kernel
theorem dX11_spare_32 : decode cX11_spare 32 = .ok (.aload_n 3, 1) := by decide +kernel
theorem dX11_spare_33 : decode cX11_spare 33 = .ok (.aload_n 0, 1) := by decide +kernel
theorem dX11_spare_34 : decode cX11_spare 34 = .ok (.bipush 10, 2) := by decide +kernel
theorem dX11_spare_36 : decode cX11_spare 36 = .ok (.iload_n 1, 1) := by decide +kernel
theorem dX11_spare_37 : decode cX11_spare 37 = .ok (.iadd, 1) := by decide +kernel
theorem dX11_spare_38 : decode cX11_spare 38 = .ok (.invokevirtual 162, 3) := by decide +kernel
theorem dX11_spare_41 : decode cX11_spare 41 = .ok (.iload_n 2, 1) := by decide +kernel
theorem dX11_spare_42 : decode cX11_spare 42 = .ok (.invokestatic 345, 3) := by decide +kernel
theorem dX11_spare_45 : decode cX11_spare 45 = .ok (.ireturn, 1) := by decide +kernel
theorem dX11_board_0 : decode cX11_board 0 = .ok (.aload_n 0, 1) := by decide +kernel
theorem dX11_board_1 : decode cX11_board 1 = .ok (.iload_n 1, 1) := by decide +kernel
theorem dX11_board_2 : decode cX11_board 2 = .ok (.invokevirtual 123, 3) := by decide +kernel
theorem dX11_board_5 : decode cX11_board 5 = .ok (.astore_n 3, 1) := by decide +kernel
theorem dX11_board_6 : decode cX11_board 6 = .ok (.aload_n 0, 1) := by decide +kernel
theorem dX11_board_7 : decode cX11_board 7 = .ok (.iload_n 2, 1) := by decide +kernel
theorem dX11_board_8 : decode cX11_board 8 = .ok (.invokevirtual 320, 3) := by decide +kernel
theorem dX11_board_11 : decode cX11_board 11 = .ok (.astore 4, 2) := by decide +kernel
theorem dX11_board_13 : decode cX11_board 13 = .ok (.aload_n 3, 1) := by decide +kernel
theorem dX11_board_14 : decode cX11_board 14 = .ok (.ifnull 8, 3) := by decide +kernel
theorem dX11_board_17 : decode cX11_board 17 = .ok (.aload 4, 2) := by decide +kernel
theorem dX11_board_19 : decode cX11_board 19 = .ok (.ifnonnull 5, 3) := by decide +kernel
theorem dX11_board_22 : decode cX11_board 22 = .ok (.iconst (-1), 1) := by decide +kernel
theorem dX11_board_23 : decode cX11_board 23 = .ok (.ireturn, 1) := by decide +kernel
theorem dX11_board_24 : decode cX11_board 24 = .ok (.aload_n 3, 1) := by decide +kernel
theorem dX11_board_25 : decode cX11_board 25 = .ok (.getfield 178, 3) := by decide +kernel
theorem dX11_board_28 : decode cX11_board 28 = .ok (.invokestatic 349, 3) := by decide +kernel
theorem dX11_board_31 : decode cX11_board 31 = .ok (.ifCond .eq 11, 3) := by decide +kernel
theorem dX11_board_34 : decode cX11_board 34 = .ok (.aload 4, 2) := by decide +kernel
theorem dX11_board_36 : decode cX11_board 36 = .ok (.getfield 336, 3) := by decide +kernel
theorem dX11_board_39 : decode cX11_board 39 = .ok (.ifCond .ne 6, 3) := by decide +kernel
theorem dX11_board_42 : decode cX11_board 42 = .ok (.bipush (-3), 2) := by decide +kernel
theorem dX11_board_44 : decode cX11_board 44 = .ok (.ireturn, 1) := by decide +kernel
theorem dX11_board_45 : decode cX11_board 45 = .ok (.aload_n 0, 1) := by decide +kernel
theorem dX11_board_46 : decode cX11_board 46 = .ok (.bipush 10, 2) := by decide +kernel
theorem dX11_board_48 : decode cX11_board 48 = .ok (.iload_n 2, 1) := by decide +kernel
theorem dX11_board_49 : decode cX11_board 49 = .ok (.iadd, 1) := by decide +kernel
theorem dX11_board_50 : decode cX11_board 50 = .ok (.invokevirtual 162, 3) := by decide +kernel
theorem dX11_board_53 : decode cX11_board 53 = .ok (.istore 5, 2) := by decide +kernel
theorem dX11_board_55 : decode cX11_board 55 = .ok (.iload 5, 2) := by decide +kernel
theorem dX11_board_57 : decode cX11_board 57 = .ok (.iconst 2, 1) := by decide +kernel
theorem dX11_board_58 : decode cX11_board 58 = .ok (.aload 4, 2) := by decide +kernel
theorem dX11_board_60 : decode cX11_board 60 = .ok (.getfield 327, 3) := by decide +kernel
theorem dX11_board_63 : decode cX11_board 63 = .ok (.imul, 1) := by decide +kernel
theorem dX11_board_64 : decode cX11_board 64 = .ok (.if_icmp .lt 6, 3) := by decide +kernel
theorem dX11_board_67 : decode cX11_board 67 = .ok (.bipush (-4), 2) := by decide +kernel
theorem dX11_board_69 : decode cX11_board 69 = .ok (.ireturn, 1) := by decide +kernel
theorem dX11_board_70 : decode cX11_board 70 = .ok (.aload_n 3, 1) := by decide +kernel
theorem dX11_board_71 : decode cX11_board 71 = .ok (.bipush 10, 2) := by decide +kernel
theorem dX11_board_73 : decode cX11_board 73 = .ok (.iload_n 2, 1) := by decide +kernel
theorem dX11_board_74 : decode cX11_board 74 = .ok (.iadd, 1) := by decide +kernel
theorem dX11_board_75 : decode cX11_board 75 = .ok (.aload_n 0, 1) := by decide +kernel
theorem dX11_board_76 : decode cX11_board 76 = .ok (.getfield 152, 3) := by decide +kernel
theorem dX11_board_79 : decode cX11_board 79 = .ok (.invokevirtual 184, 3) := by decide +kernel
theorem dX11_board_82 : decode cX11_board 82 = .ok (.pop, 1) := by decide +kernel
theorem dX11_board_83 : decode cX11_board 83 = .ok (.iload 5, 2) := by decide +kernel
theorem dX11_board_85 : decode cX11_board 85 = .ok (.iconst 1, 1) := by decide +kernel
theorem dX11_board_86 : decode cX11_board 86 = .ok (.iadd, 1) := by decide +kernel
theorem dX11_board_87 : decode cX11_board 87 = .ok (.ireturn, 1) := by decide +kernel
theorem dX11_turn_0 : decode cX11_turn 0 = .ok (.aload_n 0, 1) := by decide +kernel
theorem dX11_turn_1 : decode cX11_turn 1 = .ok (.iload_n 1, 1) := by decide +kernel
theorem dX11_turn_2 : decode cX11_turn 2 = .ok (.invokevirtual 123, 3) := by decide +kernel
theorem dX11_turn_5 : decode cX11_turn 5 = .ok (.astore_n 3, 1) := by decide +kernel
theorem dX11_turn_6 : decode cX11_turn 6 = .ok (.aload_n 0, 1) := by decide +kernel
theorem dX11_turn_7 : decode cX11_turn 7 = .ok (.iload_n 2, 1) := by decide +kernel
theorem dX11_turn_8 : decode cX11_turn 8 = .ok (.invokevirtual 320, 3) := by decide +kernel
theorem dX11_turn_11 : decode cX11_turn 11 = .ok (.astore 4, 2) := by decide +kernel
theorem dX11_turn_13 : decode cX11_turn 13 = .ok (.aload_n 3, 1) := by decide +kernel
theorem dX11_turn_14 : decode cX11_turn 14 = .ok (.ifnull 8, 3) := by decide +kernel
theorem dX11_turn_17 : decode cX11_turn 17 = .ok (.aload 4, 2) := by decide +kernel
theorem dX11_turn_19 : decode cX11_turn 19 = .ok (.ifnonnull 5, 3) := by decide +kernel
theorem dX11_turn_22 : decode cX11_turn 22 = .ok (.iconst (-1), 1) := by decide +kernel
theorem dX11_turn_23 : decode cX11_turn 23 = .ok (.ireturn, 1) := by decide +kernel
theorem dX11_turn_24 : decode cX11_turn 24 = .ok (.aload_n 3, 1) := by decide +kernel
theorem dX11_turn_25 : decode cX11_turn 25 = .ok (.getfield 178, 3) := by decide +kernel
theorem dX11_turn_28 : decode cX11_turn 28 = .ok (.bipush 20, 2) := by decide +kernel
theorem dX11_turn_30 : decode cX11_turn 30 = .ok (.if_icmp .eq 14, 3) := by decide +kernel
theorem dX11_turn_33 : decode cX11_turn 33 = .ok (.aload_n 0, 1) := by decide +kernel
theorem dX11_turn_34 : decode cX11_turn 34 = .ok (.aload_n 3, 1) := by decide +kernel
theorem dX11_turn_35 : decode cX11_turn 35 = .ok (.getfield 178, 3) := by decide +kernel
theorem dX11_turn_38 : decode cX11_turn 38 = .ok (.invokevirtual 293, 3) := by decide +kernel
theorem dX11_turn_41 : decode cX11_turn 41 = .ok (.ifCond .eq 7, 3) := by decide +kernel
theorem dX11_turn_44 : decode cX11_turn 44 = .ok (.iconst 1, 1) := by decide +kernel
theorem dX11_turn_45 : decode cX11_turn 45 = .ok (.goto 4, 3) := by decide +kernel
theorem dX11_turn_48 : decode cX11_turn 48 = .ok (.iconst 0, 1) := by decide +kernel
theorem dX11_turn_49 : decode cX11_turn 49 = .ok (.istore 5, 2) := by decide +kernel
theorem dX11_turn_51 : decode cX11_turn 51 = .ok (.iload 5, 2) := by decide +kernel
theorem dX11_turn_53 : decode cX11_turn 53 = .ok (.ifCond .eq 22, 3) := by decide +kernel
theorem dX11_turn_56 : decode cX11_turn 56 = .ok (.aload_n 3, 1) := by decide +kernel
theorem dX11_turn_57 : decode cX11_turn 57 = .ok (.getfield 178, 3) := by decide +kernel
theorem dX11_turn_60 : decode cX11_turn 60 = .ok (.bipush 10, 2) := by decide +kernel
theorem dX11_turn_62 : decode cX11_turn 62 = .ok (.iload_n 2, 1) := by decide +kernel
theorem dX11_turn_63 : decode cX11_turn 63 = .ok (.iadd, 1) := by decide +kernel
theorem dX11_turn_64 : decode cX11_turn 64 = .ok (.if_icmp .eq 11, 3) := by decide +kernel
theorem dX11_turn_67 : decode cX11_turn 67 = .ok (.aload 4, 2) := by decide +kernel
theorem dX11_turn_69 : decode cX11_turn 69 = .ok (.getfield 336, 3) := by decide +kernel
theorem dX11_turn_72 : decode cX11_turn 72 = .ok (.ifCond .ne 6, 3) := by decide +kernel
theorem dX11_turn_75 : decode cX11_turn 75 = .ok (.bipush (-3), 2) := by decide +kernel
theorem dX11_turn_77 : decode cX11_turn 77 = .ok (.ireturn, 1) := by decide +kernel
theorem dX11_turn_78 : decode cX11_turn 78 = .ok (.aload_n 0, 1) := by decide +kernel
theorem dX11_turn_79 : decode cX11_turn 79 = .ok (.bipush 10, 2) := by decide +kernel
theorem dX11_turn_81 : decode cX11_turn 81 = .ok (.iload_n 2, 1) := by decide +kernel
theorem dX11_turn_82 : decode cX11_turn 82 = .ok (.iadd, 1) := by decide +kernel
theorem dX11_turn_83 : decode cX11_turn 83 = .ok (.invokevirtual 162, 3) := by decide +kernel
theorem dX11_turn_86 : decode cX11_turn 86 = .ok (.iconst 2, 1) := by decide +kernel
theorem dX11_turn_87 : decode cX11_turn 87 = .ok (.aload 4, 2) := by decide +kernel
theorem dX11_turn_89 : decode cX11_turn 89 = .ok (.getfield 327, 3) := by decide +kernel
theorem dX11_turn_92 : decode cX11_turn 92 = .ok (.imul, 1) := by decide +kernel
theorem dX11_turn_93 : decode cX11_turn 93 = .ok (.if_icmp .lt 6, 3) := by decide +kernel
theorem dX11_turn_96 : decode cX11_turn 96 = .ok (.bipush (-4), 2) := by decide +kernel
theorem dX11_turn_98 : decode cX11_turn 98 = .ok (.ireturn, 1) := by decide +kernel
theorem dX11_turn_99 : decode cX11_turn 99 = .ok (.aload_n 3, 1) := by decide +kernel
theorem dX11_turn_100 : decode cX11_turn 100 = .ok (.bipush 10, 2) := by decide +kernel
theorem dX11_turn_102 : decode cX11_turn 102 = .ok (.iload_n 2, 1) := by decide +kernel
theorem dX11_turn_103 : decode cX11_turn 103 = .ok (.iadd, 1) := by decide +kernel
theorem dX11_turn_104 : decode cX11_turn 104 = .ok (.aload_n 0, 1) := by decide +kernel
theorem dX11_turn_105 : decode cX11_turn 105 = .ok (.getfield 152, 3) := by decide +kernel
theorem dX11_turn_108 : decode cX11_turn 108 = .ok (.invokevirtual 184, 3) := by decide +kernel
theorem dX11_turn_111 : decode cX11_turn 111 = .ok (.ireturn, 1) := by decide +kernel
theorem dX11_notAshore_0 : decode cX11_notAshore 0 = .ok (.aload_n 0, 1) := by decide +kernel
theorem dX11_notAshore_1 : decode cX11_notAshore 1 = .ok (.iload_n 1, 1) := by decide +kernel
theorem dX11_notAshore_2 : decode cX11_notAshore 2 = .ok (.invokevirtual 123, 3) := by decide +kernel
theorem dX11_notAshore_5 : decode cX11_notAshore 5 = .ok (.astore_n 3, 1) := by decide +kernel
theorem dX11_notAshore_6 : decode cX11_notAshore 6 = .ok (.aload_n 3, 1) := by decide +kernel
theorem dX11_notAshore_7 : decode cX11_notAshore 7 = .ok (.ifnonnull 5, 3) := by decide +kernel
theorem dX11_notAshore_10 : decode cX11_notAshore 10 = .ok (.iconst (-1), 1) := by decide +kernel
theorem dX11_notAshore_11 : decode cX11_notAshore 11 = .ok (.ireturn, 1) := by decide +kernel
theorem dX11_notAshore_12 : decode cX11_notAshore 12 = .ok (.iload_n 2, 1) := by decide +kernel
theorem dX11_notAshore_13 : decode cX11_notAshore 13 = .ok (.iconst 0, 1) := by decide +kernel
theorem dX11_notAshore_14 : decode cX11_notAshore 14 = .ok (.aload_n 0, 1) := by decide +kernel
theorem dX11_notAshore_15 : decode cX11_notAshore 15 = .ok (.getfield 152, 3) := by decide +kernel
theorem dX11_notAshore_18 : decode cX11_notAshore 18 = .ok (.invokestatic 90, 3) := by decide +kernel
theorem dX11_notAshore_21 : decode cX11_notAshore 21 = .ok (.ifCond .ne 6, 3) := by decide +kernel
theorem dX11_notAshore_24 : decode cX11_notAshore 24 = .ok (.bipush (-2), 2) := by decide +kernel
theorem dX11_notAshore_26 : decode cX11_notAshore 26 = .ok (.ireturn, 1) := by decide +kernel
theorem dX11_notAshore_27 : decode cX11_notAshore 27 = .ok (.aload_n 3, 1) := by decide +kernel
theorem dX11_notAshore_28 : decode cX11_notAshore 28 = .ok (.iload_n 2, 1) := by decide +kernel
theorem dX11_notAshore_29 : decode cX11_notAshore 29 = .ok (.invokevirtual 352, 3) := by decide +kernel
theorem dX11_notAshore_32 : decode cX11_notAshore 32 = .ok (.ireturn, 1) := by decide +kernel
theorem dX11_taken_0 : decode cX11_taken 0 = .ok (.aload_n 0, 1) := by decide +kernel
theorem dX11_taken_1 : decode cX11_taken 1 = .ok (.invokevirtual 355, 3) := by decide +kernel
theorem dX11_taken_4 : decode cX11_taken 4 = .ok (.istore_n 3, 1) := by decide +kernel
theorem dX11_taken_5 : decode cX11_taken 5 = .ok (.iload_n 2, 1) := by decide +kernel
theorem dX11_taken_6 : decode cX11_taken 6 = .ok (.invokestatic 342, 3) := by decide +kernel
theorem dX11_taken_9 : decode cX11_taken 9 = .ok (.ifCond .eq 11, 3) := by decide +kernel
theorem dX11_taken_12 : decode cX11_taken 12 = .ok (.iload_n 1, 1) := by decide +kernel
theorem dX11_taken_13 : decode cX11_taken 13 = .ok (.iload_n 3, 1) := by decide +kernel
theorem dX11_taken_14 : decode cX11_taken 14 = .ok (.iconst (-1), 1) := by decide +kernel
theorem dX11_taken_15 : decode cX11_taken 15 = .ok (.ixor, 1) := by decide +kernel
theorem dX11_taken_16 : decode cX11_taken 16 = .ok (.iand, 1) := by decide +kernel
theorem dX11_taken_17 : decode cX11_taken 17 = .ok (.ifCond .eq 6, 3) := by decide +kernel
theorem dX11_taken_20 : decode cX11_taken 20 = .ok (.bipush (-2), 2) := by decide +kernel
theorem dX11_taken_22 : decode cX11_taken 22 = .ok (.ireturn, 1) := by decide +kernel
theorem dX11_taken_23 : decode cX11_taken 23 = .ok (.aload_n 0, 1) := by decide +kernel
theorem dX11_taken_24 : decode cX11_taken 24 = .ok (.iload_n 2, 1) := by decide +kernel
theorem dX11_taken_25 : decode cX11_taken 25 = .ok (.invokevirtual 358, 3) := by decide +kernel
theorem dX11_taken_28 : decode cX11_taken 28 = .ok (.aload_n 0, 1) := by decide +kernel
theorem dX11_taken_29 : decode cX11_taken 29 = .ok (.iload_n 1, 1) := by decide +kernel
theorem dX11_taken_30 : decode cX11_taken 30 = .ok (.invokevirtual 361, 3) := by decide +kernel
theorem dX11_taken_33 : decode cX11_taken 33 = .ok (.ireturn, 1) := by decide +kernel
theorem dX11_fleet_0 : decode cX11_fleet 0 = .ok (.iload_n 1, 1) := by decide +kernel
theorem dX11_fleet_1 : decode cX11_fleet 1 = .ok (.invokestatic 342, 3) := by decide +kernel
theorem dX11_fleet_4 : decode cX11_fleet 4 = .ok (.ifCond .ne 6, 3) := by decide +kernel
theorem dX11_fleet_7 : decode cX11_fleet 7 = .ok (.bipush (-2), 2) := by decide +kernel
theorem dX11_fleet_9 : decode cX11_fleet 9 = .ok (.ireturn, 1) := by decide +kernel
theorem dX11_fleet_10 : decode cX11_fleet 10 = .ok (.aload_n 0, 1) := by decide +kernel
theorem dX11_fleet_11 : decode cX11_fleet 11 = .ok (.iload_n 1, 1) := by decide +kernel
theorem dX11_fleet_12 : decode cX11_fleet 12 = .ok (.invokevirtual 358, 3) := by decide +kernel
theorem dX11_fleet_15 : decode cX11_fleet 15 = .ok (.aload_n 0, 1) := by decide +kernel
theorem dX11_fleet_16 : decode cX11_fleet 16 = .ok (.invokevirtual 355, 3) := by decide +kernel
theorem dX11_fleet_19 : decode cX11_fleet 19 = .ok (.istore_n 2, 1) := by decide +kernel
theorem dX11_fleet_20 : decode cX11_fleet 20 = .ok (.iconst 0, 1) := by decide +kernel
theorem dX11_fleet_21 : decode cX11_fleet 21 = .ok (.istore_n 3, 1) := by decide +kernel
theorem dX11_fleet_22 : decode cX11_fleet 22 = .ok (.iconst 0, 1) := by decide +kernel
theorem dX11_fleet_23 : decode cX11_fleet 23 = .ok (.istore 4, 2) := by decide +kernel
theorem dX11_fleet_25 : decode cX11_fleet 25 = .ok (.iconst 0, 1) := by decide +kernel
theorem dX11_fleet_26 : decode cX11_fleet 26 = .ok (.istore 5, 2) := by decide +kernel
theorem dX11_fleet_28 : decode cX11_fleet 28 = .ok (.iconst 1, 1) := by decide +kernel
theorem dX11_fleet_29 : decode cX11_fleet 29 = .ok (.istore 6, 2) := by decide +kernel
theorem dX11_fleet_31 : decode cX11_fleet 31 = .ok (.iload 6, 2) := by decide +kernel
theorem dX11_fleet_33 : decode cX11_fleet 33 = .ok (.iload_n 2, 1) := by decide +kernel
theorem dX11_fleet_34 : decode cX11_fleet 34 = .ok (.if_icmp .gt 75, 3) := by decide +kernel
theorem dX11_fleet_37 : decode cX11_fleet 37 = .ok (.iload 6, 2) := by decide +kernel
theorem dX11_fleet_39 : decode cX11_fleet 39 = .ok (.invokestatic 364, 3) := by decide +kernel
theorem dX11_fleet_42 : decode cX11_fleet 42 = .ok (.istore 7, 2) := by decide +kernel
theorem dX11_fleet_44 : decode cX11_fleet 44 = .ok (.iload 6, 2) := by decide +kernel
theorem dX11_fleet_46 : decode cX11_fleet 46 = .ok (.iload_n 2, 1) := by decide +kernel
theorem dX11_fleet_47 : decode cX11_fleet 47 = .ok (.iconst (-1), 1) := by decide +kernel
theorem dX11_fleet_48 : decode cX11_fleet 48 = .ok (.ixor, 1) := by decide +kernel
theorem dX11_fleet_49 : decode cX11_fleet 49 = .ok (.iand, 1) := by decide +kernel
theorem dX11_fleet_50 : decode cX11_fleet 50 = .ok (.ifCond .ne 53, 3) := by decide +kernel
theorem dX11_fleet_53 : decode cX11_fleet 53 = .ok (.iload 7, 2) := by decide +kernel
theorem dX11_fleet_55 : decode cX11_fleet 55 = .ok (.iload 4, 2) := by decide +kernel
theorem dX11_fleet_57 : decode cX11_fleet 57 = .ok (.if_icmp .ge 6, 3) := by decide +kernel
theorem dX11_fleet_60 : decode cX11_fleet 60 = .ok (.goto 43, 3) := by decide +kernel
theorem dX11_fleet_63 : decode cX11_fleet 63 = .ok (.aload_n 0, 1) := by decide +kernel
theorem dX11_fleet_64 : decode cX11_fleet 64 = .ok (.iload 6, 2) := by decide +kernel
theorem dX11_fleet_66 : decode cX11_fleet 66 = .ok (.invokevirtual 361, 3) := by decide +kernel
theorem dX11_fleet_69 : decode cX11_fleet 69 = .ok (.istore 8, 2) := by decide +kernel
theorem dX11_fleet_71 : decode cX11_fleet 71 = .ok (.iload 8, 2) := by decide +kernel
theorem dX11_fleet_73 : decode cX11_fleet 73 = .ok (.bipush (-9), 2) := by decide +kernel
theorem dX11_fleet_75 : decode cX11_fleet 75 = .ok (.if_icmp .eq 28, 3) := by decide +kernel
theorem dX11_fleet_78 : decode cX11_fleet 78 = .ok (.iload 7, 2) := by decide +kernel
theorem dX11_fleet_80 : decode cX11_fleet 80 = .ok (.iload 4, 2) := by decide +kernel
theorem dX11_fleet_82 : decode cX11_fleet 82 = .ok (.if_icmp .gt 10, 3) := by decide +kernel
theorem dX11_fleet_85 : decode cX11_fleet 85 = .ok (.iload 8, 2) := by decide +kernel
theorem dX11_fleet_87 : decode cX11_fleet 87 = .ok (.iload 5, 2) := by decide +kernel
theorem dX11_fleet_89 : decode cX11_fleet 89 = .ok (.if_icmp .ge 14, 3) := by decide +kernel
theorem dX11_fleet_92 : decode cX11_fleet 92 = .ok (.iload 6, 2) := by decide +kernel
theorem dX11_fleet_94 : decode cX11_fleet 94 = .ok (.istore_n 3, 1) := by decide +kernel
theorem dX11_fleet_95 : decode cX11_fleet 95 = .ok (.iload 7, 2) := by decide +kernel
theorem dX11_fleet_97 : decode cX11_fleet 97 = .ok (.istore 4, 2) := by decide +kernel
theorem dX11_fleet_99 : decode cX11_fleet 99 = .ok (.iload 8, 2) := by decide +kernel
theorem dX11_fleet_101 : decode cX11_fleet 101 = .ok (.istore 5, 2) := by decide +kernel
theorem dX11_fleet_103 : decode cX11_fleet 103 = .ok (.iinc 6 1, 3) := by decide +kernel
theorem dX11_fleet_106 : decode cX11_fleet 106 = .ok (.goto (-75), 3) := by decide +kernel
theorem dX11_fleet_109 : decode cX11_fleet 109 = .ok (.iload_n 3, 1) := by decide +kernel
theorem dX11_fleet_110 : decode cX11_fleet 110 = .ok (.ireturn, 1) := by decide +kernel
theorem dX11_sail_0 : decode cX11_sail 0 = .ok (.aload_n 0, 1) := by decide +kernel
theorem dX11_sail_1 : decode cX11_sail 1 = .ok (.iload_n 1, 1) := by decide +kernel
theorem dX11_sail_2 : decode cX11_sail 2 = .ok (.invokevirtual 320, 3) := by decide +kernel
theorem dX11_sail_5 : decode cX11_sail 5 = .ok (.astore_n 2, 1) := by decide +kernel
theorem dX11_sail_6 : decode cX11_sail 6 = .ok (.aload_n 2, 1) := by decide +kernel
theorem dX11_sail_7 : decode cX11_sail 7 = .ok (.ifnonnull 5, 3) := by decide +kernel
theorem dX11_sail_10 : decode cX11_sail 10 = .ok (.iconst (-1), 1) := by decide +kernel
theorem dX11_sail_11 : decode cX11_sail 11 = .ok (.ireturn, 1) := by decide +kernel
theorem dX11_sail_12 : decode cX11_sail 12 = .ok (.aload_n 0, 1) := by decide +kernel
theorem dX11_sail_13 : decode cX11_sail 13 = .ok (.bipush 10, 2) := by decide +kernel
theorem dX11_sail_15 : decode cX11_sail 15 = .ok (.iload_n 1, 1) := by decide +kernel
theorem dX11_sail_16 : decode cX11_sail 16 = .ok (.iadd, 1) := by decide +kernel
theorem dX11_sail_17 : decode cX11_sail 17 = .ok (.invokevirtual 162, 3) := by decide +kernel
theorem dX11_sail_20 : decode cX11_sail 20 = .ok (.istore_n 3, 1) := by decide +kernel
theorem dX11_sail_21 : decode cX11_sail 21 = .ok (.aload_n 2, 1) := by decide +kernel
theorem dX11_sail_22 : decode cX11_sail 22 = .ok (.getfield 336, 3) := by decide +kernel
theorem dX11_sail_25 : decode cX11_sail 25 = .ok (.ifCond .eq 26, 3) := by decide +kernel
theorem dX11_sail_28 : decode cX11_sail 28 = .ok (.iload_n 3, 1) := by decide +kernel
theorem dX11_sail_29 : decode cX11_sail 29 = .ok (.aload_n 2, 1) := by decide +kernel
theorem dX11_sail_30 : decode cX11_sail 30 = .ok (.getfield 327, 3) := by decide +kernel
theorem dX11_sail_33 : decode cX11_sail 33 = .ok (.if_icmp .lt 18, 3) := by decide +kernel
theorem dX11_sail_36 : decode cX11_sail 36 = .ok (.aload_n 0, 1) := by decide +kernel
theorem dX11_sail_37 : decode cX11_sail 37 = .ok (.bipush 10, 2) := by decide +kernel
theorem dX11_sail_39 : decode cX11_sail 39 = .ok (.iload_n 1, 1) := by decide +kernel
theorem dX11_sail_40 : decode cX11_sail 40 = .ok (.iadd, 1) := by decide +kernel
theorem dX11_sail_41 : decode cX11_sail 41 = .ok (.invokevirtual 339, 3) := by decide +kernel
theorem dX11_sail_44 : decode cX11_sail 44 = .ok (.aload_n 2, 1) := by decide +kernel
theorem dX11_sail_45 : decode cX11_sail 45 = .ok (.getfield 330, 3) := by decide +kernel
theorem dX11_sail_48 : decode cX11_sail 48 = .ok (.if_icmp .ge 6, 3) := by decide +kernel
theorem dX11_sail_51 : decode cX11_sail 51 = .ok (.bipush (-3), 2) := by decide +kernel
theorem dX11_sail_53 : decode cX11_sail 53 = .ok (.ireturn, 1) := by decide +kernel
theorem dX11_sail_54 : decode cX11_sail 54 = .ok (.aload_n 2, 1) := by decide +kernel
theorem dX11_sail_55 : decode cX11_sail 55 = .ok (.iconst 0, 1) := by decide +kernel
theorem dX11_sail_56 : decode cX11_sail 56 = .ok (.putfield 336, 3) := by decide +kernel
theorem dX11_sail_59 : decode cX11_sail 59 = .ok (.iload_n 3, 1) := by decide +kernel
theorem dX11_sail_60 : decode cX11_sail 60 = .ok (.ireturn, 1) := by decide +kernel
theorem dX11_comeHome_0 : decode cX11_comeHome 0 = .ok (.aload_n 0, 1) := by decide +kernel
theorem dX11_comeHome_1 : decode cX11_comeHome 1 = .ok (.iload_n 1, 1) := by decide +kernel
theorem dX11_comeHome_2 : decode cX11_comeHome 2 = .ok (.invokevirtual 320, 3) := by decide +kernel
theorem dX11_comeHome_5 : decode cX11_comeHome 5 = .ok (.astore_n 2, 1) := by decide +kernel
theorem dX11_comeHome_6 : decode cX11_comeHome 6 = .ok (.aload_n 2, 1) := by decide +kernel
theorem dX11_comeHome_7 : decode cX11_comeHome 7 = .ok (.ifnonnull 5, 3) := by decide +kernel
theorem dX11_comeHome_10 : decode cX11_comeHome 10 = .ok (.iconst (-1), 1) := by decide +kernel
theorem dX11_comeHome_11 : decode cX11_comeHome 11 = .ok (.ireturn, 1) := by decide +kernel
theorem dX11_comeHome_12 : decode cX11_comeHome 12 = .ok (.aload_n 2, 1) := by decide +kernel
theorem dX11_comeHome_13 : decode cX11_comeHome 13 = .ok (.getfield 336, 3) := by decide +kernel
theorem dX11_comeHome_16 : decode cX11_comeHome 16 = .ok (.ifCond .eq 6, 3) := by decide +kernel
theorem dX11_comeHome_19 : decode cX11_comeHome 19 = .ok (.bipush (-3), 2) := by decide +kernel
theorem dX11_comeHome_21 : decode cX11_comeHome 21 = .ok (.ireturn, 1) := by decide +kernel
theorem dX11_comeHome_22 : decode cX11_comeHome 22 = .ok (.aload_n 2, 1) := by decide +kernel
theorem dX11_comeHome_23 : decode cX11_comeHome 23 = .ok (.iconst 1, 1) := by decide +kernel
theorem dX11_comeHome_24 : decode cX11_comeHome 24 = .ok (.putfield 336, 3) := by decide +kernel
theorem dX11_comeHome_27 : decode cX11_comeHome 27 = .ok (.aload_n 0, 1) := by decide +kernel
theorem dX11_comeHome_28 : decode cX11_comeHome 28 = .ok (.bipush 10, 2) := by decide +kernel
theorem dX11_comeHome_30 : decode cX11_comeHome 30 = .ok (.iload_n 1, 1) := by decide +kernel
theorem dX11_comeHome_31 : decode cX11_comeHome 31 = .ok (.iadd, 1) := by decide +kernel
theorem dX11_comeHome_32 : decode cX11_comeHome 32 = .ok (.invokevirtual 162, 3) := by decide +kernel
theorem dX11_comeHome_35 : decode cX11_comeHome 35 = .ok (.ireturn, 1) := by decide +kernel
theorem dX11_ticket_0 : decode cX11_ticket 0 = .ok (.aload_n 0, 1) := by decide +kernel
theorem dX11_ticket_1 : decode cX11_ticket 1 = .ok (.iload_n 1, 1) := by decide +kernel
theorem dX11_ticket_2 : decode cX11_ticket 2 = .ok (.invokevirtual 123, 3) := by decide +kernel
theorem dX11_ticket_5 : decode cX11_ticket 5 = .ok (.astore 4, 2) := by decide +kernel
theorem dX11_ticket_7 : decode cX11_ticket 7 = .ok (.aload 4, 2) := by decide +kernel
theorem dX11_ticket_9 : decode cX11_ticket 9 = .ok (.ifnonnull 5, 3) := by decide +kernel
theorem dX11_ticket_12 : decode cX11_ticket 12 = .ok (.iconst (-1), 1) := by decide +kernel
theorem dX11_ticket_13 : decode cX11_ticket 13 = .ok (.ireturn, 1) := by decide +kernel
theorem dX11_ticket_14 : decode cX11_ticket 14 = .ok (.iload_n 2, 1) := by decide +kernel
theorem dX11_ticket_15 : decode cX11_ticket 15 = .ok (.iconst 1, 1) := by decide +kernel
theorem dX11_ticket_16 : decode cX11_ticket 16 = .ok (.bipush 99, 2) := by decide +kernel
theorem dX11_ticket_18 : decode cX11_ticket 18 = .ok (.invokestatic 90, 3) := by decide +kernel
theorem dX11_ticket_21 : decode cX11_ticket 21 = .ok (.ifCond .eq 13, 3) := by decide +kernel
theorem dX11_ticket_24 : decode cX11_ticket 24 = .ok (.iload_n 3, 1) := by decide +kernel
theorem dX11_ticket_25 : decode cX11_ticket 25 = .ok (.iconst 1, 1) := by decide +kernel
theorem dX11_ticket_26 : decode cX11_ticket 26 = .ok (.bipush 50, 2) := by decide +kernel
theorem dX11_ticket_28 : decode cX11_ticket 28 = .ok (.invokestatic 90, 3) := by decide +kernel
theorem dX11_ticket_31 : decode cX11_ticket 31 = .ok (.ifCond .ne 6, 3) := by decide +kernel
theorem dX11_ticket_34 : decode cX11_ticket 34 = .ok (.bipush (-2), 2) := by decide +kernel
theorem dX11_ticket_36 : decode cX11_ticket 36 = .ok (.ireturn, 1) := by decide +kernel
theorem dX11_ticket_37 : decode cX11_ticket 37 = .ok (.aload_n 0, 1) := by decide +kernel
theorem dX11_ticket_38 : decode cX11_ticket 38 = .ok (.getfield 369, 3) := by decide +kernel
theorem dX11_ticket_41 : decode cX11_ticket 41 = .ok (.bipush 40, 2) := by decide +kernel
theorem dX11_ticket_43 : decode cX11_ticket 43 = .ok (.if_icmp .lt 6, 3) := by decide +kernel
theorem dX11_ticket_46 : decode cX11_ticket 46 = .ok (.bipush (-4), 2) := by decide +kernel
theorem dX11_ticket_48 : decode cX11_ticket 48 = .ok (.ireturn, 1) := by decide +kernel
theorem dX11_ticket_49 : decode cX11_ticket 49 = .ok (.aload_n 0, 1) := by decide +kernel
theorem dX11_ticket_50 : decode cX11_ticket 50 = .ok (.getfield 49, 3) := by decide +kernel
theorem dX11_ticket_53 : decode cX11_ticket 53 = .ok (.aload_n 0, 1) := by decide +kernel
theorem dX11_ticket_54 : decode cX11_ticket 54 = .ok (.getfield 369, 3) := by decide +kernel
theorem dX11_ticket_57 : decode cX11_ticket 57 = .ok (.new 47, 3) := by decide +kernel
theorem dX11_ticket_60 : decode cX11_ticket 60 = .ok (.dup, 1) := by decide +kernel
theorem dX11_ticket_61 : decode cX11_ticket 61 = .ok (.iload_n 1, 1) := by decide +kernel
theorem dX11_ticket_62 : decode cX11_ticket 62 = .ok (.iload_n 2, 1) := by decide +kernel
theorem dX11_ticket_63 : decode cX11_ticket 63 = .ok (.iload_n 3, 1) := by decide +kernel
theorem dX11_ticket_64 : decode cX11_ticket 64 = .ok (.imul, 1) := by decide +kernel
theorem dX11_ticket_65 : decode cX11_ticket 65 = .ok (.invokespecial 372, 3) := by decide +kernel
theorem dX11_ticket_68 : decode cX11_ticket 68 = .ok (.aastore, 1) := by decide +kernel
theorem dX11_ticket_69 : decode cX11_ticket 69 = .ok (.aload_n 0, 1) := by decide +kernel
theorem dX11_ticket_70 : decode cX11_ticket 70 = .ok (.dup, 1) := by decide +kernel
theorem dX11_ticket_71 : decode cX11_ticket 71 = .ok (.getfield 369, 3) := by decide +kernel
theorem dX11_ticket_74 : decode cX11_ticket 74 = .ok (.iconst 1, 1) := by decide +kernel
theorem dX11_ticket_75 : decode cX11_ticket 75 = .ok (.iadd, 1) := by decide +kernel
theorem dX11_ticket_76 : decode cX11_ticket 76 = .ok (.putfield 369, 3) := by decide +kernel
theorem dX11_ticket_79 : decode cX11_ticket 79 = .ok (.aload_n 0, 1) := by decide +kernel
theorem dX11_ticket_80 : decode cX11_ticket 80 = .ok (.getfield 369, 3) := by decide +kernel
theorem dX11_ticket_83 : decode cX11_ticket 83 = .ok (.iconst 1, 1) := by decide +kernel
theorem dX11_ticket_84 : decode cX11_ticket 84 = .ok (.isub, 1) := by decide +kernel
theorem dX11_ticket_85 : decode cX11_ticket 85 = .ok (.ireturn, 1) := by decide +kernel
theorem dX11_sell_0 : decode cX11_sell 0 = .ok (.aload_n 0, 1) := by decide +kernel
theorem dX11_sell_1 : decode cX11_sell 1 = .ok (.iload_n 1, 1) := by decide +kernel
theorem dX11_sell_2 : decode cX11_sell 2 = .ok (.invokevirtual 373, 3) := by decide +kernel
theorem dX11_sell_5 : decode cX11_sell 5 = .ok (.astore 4, 2) := by decide +kernel
theorem dX11_sell_7 : decode cX11_sell 7 = .ok (.aload 4, 2) := by decide +kernel
theorem dX11_sell_9 : decode cX11_sell 9 = .ok (.ifnull 10, 3) := by decide +kernel
theorem dX11_sell_12 : decode cX11_sell 12 = .ok (.iload_n 2, 1) := by decide +kernel
theorem dX11_sell_13 : decode cX11_sell 13 = .ok (.invokestatic 377, 3) := by decide +kernel
theorem dX11_sell_16 : decode cX11_sell 16 = .ok (.ifCond .ne 5, 3) := by decide +kernel
theorem dX11_sell_19 : decode cX11_sell 19 = .ok (.iconst (-1), 1) := by decide +kernel
theorem dX11_sell_20 : decode cX11_sell 20 = .ok (.ireturn, 1) := by decide +kernel
theorem dX11_sell_21 : decode cX11_sell 21 = .ok (.iload_n 3, 1) := by decide +kernel
theorem dX11_sell_22 : decode cX11_sell 22 = .ok (.iconst 1, 1) := by decide +kernel
theorem dX11_sell_23 : decode cX11_sell 23 = .ok (.bipush 100, 2) := by decide +kernel
theorem dX11_sell_25 : decode cX11_sell 25 = .ok (.invokestatic 90, 3) := by decide +kernel
theorem dX11_sell_28 : decode cX11_sell 28 = .ok (.ifCond .ne 6, 3) := by decide +kernel
theorem dX11_sell_31 : decode cX11_sell 31 = .ok (.bipush (-2), 2) := by decide +kernel
theorem dX11_sell_33 : decode cX11_sell 33 = .ok (.ireturn, 1) := by decide +kernel
theorem dX11_sell_34 : decode cX11_sell 34 = .ok (.aload 4, 2) := by decide +kernel
theorem dX11_sell_36 : decode cX11_sell 36 = .ok (.getfield 380, 3) := by decide +kernel
theorem dX11_sell_39 : decode cX11_sell 39 = .ok (.ifCond .ne 12, 3) := by decide +kernel
theorem dX11_sell_42 : decode cX11_sell 42 = .ok (.aload 4, 2) := by decide +kernel
theorem dX11_sell_44 : decode cX11_sell 44 = .ok (.getfield 383, 3) := by decide +kernel
theorem dX11_sell_47 : decode cX11_sell 47 = .ok (.iload_n 2, 1) := by decide +kernel
theorem dX11_sell_48 : decode cX11_sell 48 = .ok (.if_icmp .ne 6, 3) := by decide +kernel
theorem dX11_sell_51 : decode cX11_sell 51 = .ok (.bipush (-3), 2) := by decide +kernel
theorem dX11_sell_53 : decode cX11_sell 53 = .ok (.ireturn, 1) := by decide +kernel
theorem dX11_sell_54 : decode cX11_sell 54 = .ok (.aload 4, 2) := by decide +kernel
theorem dX11_sell_56 : decode cX11_sell 56 = .ok (.getfield 386, 3) := by decide +kernel
theorem dX11_sell_59 : decode cX11_sell 59 = .ok (.iload_n 3, 1) := by decide +kernel
theorem dX11_sell_60 : decode cX11_sell 60 = .ok (.imul, 1) := by decide +kernel
theorem dX11_sell_61 : decode cX11_sell 61 = .ok (.bipush 100, 2) := by decide +kernel
theorem dX11_sell_63 : decode cX11_sell 63 = .ok (.idiv, 1) := by decide +kernel
theorem dX11_sell_64 : decode cX11_sell 64 = .ok (.istore 5, 2) := by decide +kernel
theorem dX11_sell_66 : decode cX11_sell 66 = .ok (.aload_n 0, 1) := by decide +kernel
theorem dX11_sell_67 : decode cX11_sell 67 = .ok (.aload 4, 2) := by decide +kernel
theorem dX11_sell_69 : decode cX11_sell 69 = .ok (.aload 4, 2) := by decide +kernel
theorem dX11_sell_71 : decode cX11_sell 71 = .ok (.getfield 383, 3) := by decide +kernel
theorem dX11_sell_74 : decode cX11_sell 74 = .ok (.iload 5, 2) := by decide +kernel
theorem dX11_sell_76 : decode cX11_sell 76 = .ok (.invokevirtual 389, 3) := by decide +kernel
theorem dX11_sell_79 : decode cX11_sell 79 = .ok (.aload_n 0, 1) := by decide +kernel
theorem dX11_sell_80 : decode cX11_sell 80 = .ok (.getfield 53, 3) := by decide +kernel
theorem dX11_sell_83 : decode cX11_sell 83 = .ok (.iload_n 2, 1) := by decide +kernel
theorem dX11_sell_84 : decode cX11_sell 84 = .ok (.dup2, 1) := by decide +kernel
theorem dX11_sell_85 : decode cX11_sell 85 = .ok (.iaload, 1) := by decide +kernel
theorem dX11_sell_86 : decode cX11_sell 86 = .ok (.iload 5, 2) := by decide +kernel
theorem dX11_sell_88 : decode cX11_sell 88 = .ok (.isub, 1) := by decide +kernel
theorem dX11_sell_89 : decode cX11_sell 89 = .ok (.iastore, 1) := by decide +kernel
theorem dX11_sell_90 : decode cX11_sell 90 = .ok (.aload 4, 2) := by decide +kernel
theorem dX11_sell_92 : decode cX11_sell 92 = .ok (.iload_n 2, 1) := by decide +kernel
theorem dX11_sell_93 : decode cX11_sell 93 = .ok (.putfield 383, 3) := by decide +kernel
theorem dX11_sell_96 : decode cX11_sell 96 = .ok (.iload 5, 2) := by decide +kernel
theorem dX11_sell_98 : decode cX11_sell 98 = .ok (.ireturn, 1) := by decide +kernel
theorem dX11_pay_0 : decode cX11_pay 0 = .ok (.aload_n 0, 1) := by decide +kernel
theorem dX11_pay_1 : decode cX11_pay 1 = .ok (.iload_n 1, 1) := by decide +kernel
theorem dX11_pay_2 : decode cX11_pay 2 = .ok (.invokevirtual 373, 3) := by decide +kernel
theorem dX11_pay_5 : decode cX11_pay 5 = .ok (.astore_n 3, 1) := by decide +kernel
theorem dX11_pay_6 : decode cX11_pay 6 = .ok (.aload_n 3, 1) := by decide +kernel
theorem dX11_pay_7 : decode cX11_pay 7 = .ok (.ifnull 16, 3) := by decide +kernel
theorem dX11_pay_10 : decode cX11_pay 10 = .ok (.iload_n 2, 1) := by decide +kernel
theorem dX11_pay_11 : decode cX11_pay 11 = .ok (.bipush (-9), 2) := by decide +kernel
theorem dX11_pay_13 : decode cX11_pay 13 = .ok (.if_icmp .eq 12, 3) := by decide +kernel
theorem dX11_pay_16 : decode cX11_pay 16 = .ok (.iload_n 2, 1) := by decide +kernel
theorem dX11_pay_17 : decode cX11_pay 17 = .ok (.invokestatic 377, 3) := by decide +kernel
theorem dX11_pay_20 : decode cX11_pay 20 = .ok (.ifCond .ne 5, 3) := by decide +kernel
theorem dX11_pay_23 : decode cX11_pay 23 = .ok (.iconst (-1), 1) := by decide +kernel
theorem dX11_pay_24 : decode cX11_pay 24 = .ok (.ireturn, 1) := by decide +kernel
theorem dX11_pay_25 : decode cX11_pay 25 = .ok (.aload_n 3, 1) := by decide +kernel
theorem dX11_pay_26 : decode cX11_pay 26 = .ok (.getfield 380, 3) := by decide +kernel
theorem dX11_pay_29 : decode cX11_pay 29 = .ok (.ifCond .ne 11, 3) := by decide +kernel
theorem dX11_pay_32 : decode cX11_pay 32 = .ok (.aload_n 3, 1) := by decide +kernel
theorem dX11_pay_33 : decode cX11_pay 33 = .ok (.getfield 383, 3) := by decide +kernel
theorem dX11_pay_36 : decode cX11_pay 36 = .ok (.iload_n 2, 1) := by decide +kernel
theorem dX11_pay_37 : decode cX11_pay 37 = .ok (.if_icmp .eq 16, 3) := by decide +kernel
theorem dX11_pay_40 : decode cX11_pay 40 = .ok (.aload_n 3, 1) := by decide +kernel
theorem dX11_pay_41 : decode cX11_pay 41 = .ok (.dup, 1) := by decide +kernel
theorem dX11_pay_42 : decode cX11_pay 42 = .ok (.getfield 393, 3) := by decide +kernel
theorem dX11_pay_45 : decode cX11_pay 45 = .ok (.iconst 1, 1) := by decide +kernel
theorem dX11_pay_46 : decode cX11_pay 46 = .ok (.iadd, 1) := by decide +kernel
theorem dX11_pay_47 : decode cX11_pay 47 = .ok (.putfield 393, 3) := by decide +kernel
theorem dX11_pay_50 : decode cX11_pay 50 = .ok (.goto 8, 3) := by decide +kernel
theorem dX11_pay_53 : decode cX11_pay 53 = .ok (.aload_n 3, 1) := by decide +kernel
theorem dX11_pay_54 : decode cX11_pay 54 = .ok (.iconst 1, 1) := by decide +kernel
theorem dX11_pay_55 : decode cX11_pay 55 = .ok (.putfield 380, 3) := by decide +kernel
theorem dX11_pay_58 : decode cX11_pay 58 = .ok (.aload_n 0, 1) := by decide +kernel
theorem dX11_pay_59 : decode cX11_pay 59 = .ok (.aload_n 3, 1) := by decide +kernel
theorem dX11_pay_60 : decode cX11_pay 60 = .ok (.iload_n 2, 1) := by decide +kernel
theorem dX11_pay_61 : decode cX11_pay 61 = .ok (.aload_n 3, 1) := by decide +kernel
theorem dX11_pay_62 : decode cX11_pay 62 = .ok (.getfield 386, 3) := by decide +kernel
theorem dX11_pay_65 : decode cX11_pay 65 = .ok (.invokevirtual 389, 3) := by decide +kernel
theorem dX11_pay_68 : decode cX11_pay 68 = .ok (.aload_n 3, 1) := by decide +kernel
theorem dX11_pay_69 : decode cX11_pay 69 = .ok (.getfield 386, 3) := by decide +kernel
theorem dX11_pay_72 : decode cX11_pay 72 = .ok (.ireturn, 1) := by decide +kernel
theorem dX11_ticketOf_0 : decode cX11_ticketOf 0 = .ok (.aload_n 0, 1) := by decide +kernel
theorem dX11_ticketOf_1 : decode cX11_ticketOf 1 = .ok (.iload_n 1, 1) := by decide +kernel
theorem dX11_ticketOf_2 : decode cX11_ticketOf 2 = .ok (.invokevirtual 373, 3) := by decide +kernel
theorem dX11_ticketOf_5 : decode cX11_ticketOf 5 = .ok (.astore_n 3, 1) := by decide +kernel
theorem dX11_ticketOf_6 : decode cX11_ticketOf 6 = .ok (.aload_n 3, 1) := by decide +kernel
theorem dX11_ticketOf_7 : decode cX11_ticketOf 7 = .ok (.ifnonnull 5, 3) := by decide +kernel
theorem dX11_ticketOf_10 : decode cX11_ticketOf 10 = .ok (.iconst (-1), 1) := by decide +kernel
theorem dX11_ticketOf_11 : decode cX11_ticketOf 11 = .ok (.ireturn, 1) := by decide +kernel
theorem dX11_ticketOf_12 : decode cX11_ticketOf 12 = .ok (.iload_n 2, 1) := by decide +kernel
theorem dX11_ticketOf_13 : decode cX11_ticketOf 13 = .ok (.tableswitch 54 0 3 #[31, 36, 44, 49], 31) := by decide +kernel
theorem dX11_ticketOf_44 : decode cX11_ticketOf 44 = .ok (.aload_n 3, 1) := by decide +kernel
theorem dX11_ticketOf_45 : decode cX11_ticketOf 45 = .ok (.getfield 383, 3) := by decide +kernel
theorem dX11_ticketOf_48 : decode cX11_ticketOf 48 = .ok (.ireturn, 1) := by decide +kernel
theorem dX11_ticketOf_49 : decode cX11_ticketOf 49 = .ok (.aload_n 3, 1) := by decide +kernel
theorem dX11_ticketOf_50 : decode cX11_ticketOf 50 = .ok (.getfield 380, 3) := by decide +kernel
theorem dX11_ticketOf_53 : decode cX11_ticketOf 53 = .ok (.invokestatic 112, 3) := by decide +kernel
theorem dX11_ticketOf_56 : decode cX11_ticketOf 56 = .ok (.ireturn, 1) := by decide +kernel
theorem dX11_ticketOf_57 : decode cX11_ticketOf 57 = .ok (.aload_n 3, 1) := by decide +kernel
theorem dX11_ticketOf_58 : decode cX11_ticketOf 58 = .ok (.getfield 393, 3) := by decide +kernel
theorem dX11_ticketOf_61 : decode cX11_ticketOf 61 = .ok (.ireturn, 1) := by decide +kernel
theorem dX11_ticketOf_62 : decode cX11_ticketOf 62 = .ok (.aload_n 3, 1) := by decide +kernel
theorem dX11_ticketOf_63 : decode cX11_ticketOf 63 = .ok (.getfield 386, 3) := by decide +kernel
theorem dX11_ticketOf_66 : decode cX11_ticketOf 66 = .ok (.ireturn, 1) := by decide +kernel
theorem dX11_ticketOf_67 : decode cX11_ticketOf 67 = .ok (.bipush (-2), 2) := by decide +kernel
theorem dX11_ticketOf_69 : decode cX11_ticketOf 69 = .ok (.ireturn, 1) := by decide +kernel
theorem dX11_purse_0 : decode cX11_purse 0 = .ok (.iload_n 1, 1) := by decide +kernel
theorem dX11_purse_1 : decode cX11_purse 1 = .ok (.invokestatic 377, 3) := by decide +kernel
theorem dX11_purse_4 : decode cX11_purse 4 = .ok (.ifCond .eq 12, 3) := by decide +kernel
theorem dX11_purse_7 : decode cX11_purse 7 = .ok (.aload_n 0, 1) := by decide +kernel
theorem dX11_purse_8 : decode cX11_purse 8 = .ok (.getfield 53, 3) := by decide +kernel
theorem dX11_purse_11 : decode cX11_purse 11 = .ok (.iload_n 1, 1) := by decide +kernel
theorem dX11_purse_12 : decode cX11_purse 12 = .ok (.iaload, 1) := by decide +kernel
theorem dX11_purse_13 : decode cX11_purse 13 = .ok (.goto 4, 3) := by decide +kernel
theorem dX11_purse_16 : decode cX11_purse 16 = .ok (.iconst (-1), 1) := by decide +kernel
theorem dX11_purse_17 : decode cX11_purse 17 = .ok (.ireturn, 1) := by decide +kernel
theorem dX11_wages_0 : decode cX11_wages 0 = .ok (.aload_n 0, 1) := by decide +kernel
theorem dX11_wages_1 : decode cX11_wages 1 = .ok (.iload_n 1, 1) := by decide +kernel
theorem dX11_wages_2 : decode cX11_wages 2 = .ok (.invokevirtual 123, 3) := by decide +kernel
theorem dX11_wages_5 : decode cX11_wages 5 = .ok (.astore_n 3, 1) := by decide +kernel
theorem dX11_wages_6 : decode cX11_wages 6 = .ok (.aload_n 3, 1) := by decide +kernel
theorem dX11_wages_7 : decode cX11_wages 7 = .ok (.ifnonnull 5, 3) := by decide +kernel
theorem dX11_wages_10 : decode cX11_wages 10 = .ok (.iconst (-1), 1) := by decide +kernel
theorem dX11_wages_11 : decode cX11_wages 11 = .ok (.ireturn, 1) := by decide +kernel
theorem dX11_wages_12 : decode cX11_wages 12 = .ok (.iload_n 2, 1) := by decide +kernel
theorem dX11_wages_13 : decode cX11_wages 13 = .ok (.ifCond .eq 11, 3) := by decide +kernel
theorem dX11_wages_16 : decode cX11_wages 16 = .ok (.aload_n 0, 1) := by decide +kernel
theorem dX11_wages_17 : decode cX11_wages 17 = .ok (.iload_n 1, 1) := by decide +kernel
theorem dX11_wages_18 : decode cX11_wages 18 = .ok (.invokevirtual 396, 3) := by decide +kernel
theorem dX11_wages_21 : decode cX11_wages 21 = .ok (.goto 7, 3) := by decide +kernel
theorem dX11_wages_24 : decode cX11_wages 24 = .ok (.aload_n 3, 1) := by decide +kernel
theorem dX11_wages_25 : decode cX11_wages 25 = .ok (.getfield 399, 3) := by decide +kernel
theorem dX11_wages_28 : decode cX11_wages 28 = .ok (.ireturn, 1) := by decide +kernel
theorem dX11_count_0 : decode cX11_count 0 = .ok (.iload_n 1, 1) := by decide +kernel
theorem dX11_count_1 : decode cX11_count 1 = .ok (.tableswitch 93 0 7 #[47, 52, 57, 62, 67, 75, 80, 85], 47) := by decide +kernel
theorem dX11_count_48 : decode cX11_count 48 = .ok (.aload_n 0, 1) := by decide +kernel
theorem dX11_count_49 : decode cX11_count 49 = .ok (.getfield 94, 3) := by decide +kernel
theorem dX11_count_52 : decode cX11_count 52 = .ok (.ireturn, 1) := by decide +kernel
theorem dX11_count_53 : decode cX11_count 53 = .ok (.aload_n 0, 1) := by decide +kernel
theorem dX11_count_54 : decode cX11_count 54 = .ok (.getfield 314, 3) := by decide +kernel
theorem dX11_count_57 : decode cX11_count 57 = .ok (.ireturn, 1) := by decide +kernel
theorem dX11_count_58 : decode cX11_count 58 = .ok (.aload_n 0, 1) := by decide +kernel
theorem dX11_count_59 : decode cX11_count 59 = .ok (.getfield 193, 3) := by decide +kernel
theorem dX11_count_62 : decode cX11_count 62 = .ok (.ireturn, 1) := by decide +kernel
theorem dX11_count_63 : decode cX11_count 63 = .ok (.aload_n 0, 1) := by decide +kernel
theorem dX11_count_64 : decode cX11_count 64 = .ok (.getfield 219, 3) := by decide +kernel
theorem dX11_count_67 : decode cX11_count 67 = .ok (.ireturn, 1) := by decide +kernel
theorem dX11_count_68 : decode cX11_count 68 = .ok (.aload_n 0, 1) := by decide +kernel
theorem dX11_count_69 : decode cX11_count 69 = .ok (.getfield 37, 3) := by decide +kernel
theorem dX11_count_72 : decode cX11_count 72 = .ok (.getfield 254, 3) := by decide +kernel
theorem dX11_count_75 : decode cX11_count 75 = .ok (.ireturn, 1) := by decide +kernel
theorem dX11_count_76 : decode cX11_count 76 = .ok (.aload_n 0, 1) := by decide +kernel
theorem dX11_count_77 : decode cX11_count 77 = .ok (.getfield 369, 3) := by decide +kernel
theorem dX11_count_80 : decode cX11_count 80 = .ok (.ireturn, 1) := by decide +kernel
theorem dX11_count_81 : decode cX11_count 81 = .ok (.aload_n 0, 1) := by decide +kernel
theorem dX11_count_82 : decode cX11_count 82 = .ok (.invokevirtual 402, 3) := by decide +kernel
theorem dX11_count_85 : decode cX11_count 85 = .ok (.ireturn, 1) := by decide +kernel
theorem dX11_count_86 : decode cX11_count 86 = .ok (.aload_n 0, 1) := by decide +kernel
theorem dX11_count_87 : decode cX11_count 87 = .ok (.getfield 10, 3) := by decide +kernel
theorem dX11_count_90 : decode cX11_count 90 = .ok (.getfield 97, 3) := by decide +kernel
theorem dX11_count_93 : decode cX11_count 93 = .ok (.ireturn, 1) := by decide +kernel
theorem dX11_count_94 : decode cX11_count 94 = .ok (.bipush (-2), 2) := by decide +kernel
theorem dX11_count_96 : decode cX11_count 96 = .ok (.ireturn, 1) := by decide +kernel
theorem dX11_within_0 : decode cX11_within 0 = .ok (.iload_n 0, 1) := by decide +kernel
theorem dX11_within_1 : decode cX11_within 1 = .ok (.iload_n 1, 1) := by decide +kernel
theorem dX11_within_2 : decode cX11_within 2 = .ok (.if_icmp .lt 12, 3) := by decide +kernel
theorem dX11_within_5 : decode cX11_within 5 = .ok (.iload_n 0, 1) := by decide +kernel
theorem dX11_within_6 : decode cX11_within 6 = .ok (.iload_n 2, 1) := by decide +kernel
theorem dX11_within_7 : decode cX11_within 7 = .ok (.if_icmp .gt 7, 3) := by decide +kernel
theorem dX11_within_10 : decode cX11_within 10 = .ok (.iconst 1, 1) := by decide +kernel
theorem dX11_within_11 : decode cX11_within 11 = .ok (.goto 4, 3) := by decide +kernel
theorem dX11_within_14 : decode cX11_within 14 = .ok (.iconst 0, 1) := by decide +kernel
theorem dX11_within_15 : decode cX11_within 15 = .ok (.ireturn, 1) := by decide +kernel
theorem dX11_asNumber_0 : decode cX11_asNumber 0 = .ok (.iload_n 0, 1) := by decide +kernel
theorem dX11_asNumber_1 : decode cX11_asNumber 1 = .ok (.ifCond .eq 7, 3) := by decide +kernel
theorem dX11_asNumber_4 : decode cX11_asNumber 4 = .ok (.iconst 1, 1) := by decide +kernel
theorem dX11_asNumber_5 : decode cX11_asNumber 5 = .ok (.goto 4, 3) := by decide +kernel
theorem dX11_asNumber_8 : decode cX11_asNumber 8 = .ok (.iconst 0, 1) := by decide +kernel
theorem dX11_asNumber_9 : decode cX11_asNumber 9 = .ok (.ireturn, 1) := by decide +kernel
theorem dX11_isTide_0 : decode cX11_isTide 0 = .ok (.iload_n 0, 1) := by decide +kernel
theorem dX11_isTide_1 : decode cX11_isTide 1 = .ok (.iconst 0, 1) := by decide +kernel
theorem dX11_isTide_2 : decode cX11_isTide 2 = .ok (.sipush 899, 3) := by decide +kernel
theorem dX11_isTide_5 : decode cX11_isTide 5 = .ok (.invokestatic 90, 3) := by decide +kernel
theorem dX11_isTide_8 : decode cX11_isTide 8 = .ok (.ireturn, 1) := by decide +kernel
theorem dX11_isWeather_0 : decode cX11_isWeather 0 = .ok (.iload_n 0, 1) := by decide +kernel
theorem dX11_isWeather_1 : decode cX11_isWeather 1 = .ok (.iconst 0, 1) := by decide +kernel
theorem dX11_isWeather_2 : decode cX11_isWeather 2 = .ok (.iconst 3, 1) := by decide +kernel
theorem dX11_isWeather_3 : decode cX11_isWeather 3 = .ok (.invokestatic 90, 3) := by decide +kernel
theorem dX11_isWeather_6 : decode cX11_isWeather 6 = .ok (.ireturn, 1) := by decide +kernel
theorem dX11_isHolder_0 : decode cX11_isHolder 0 = .ok (.iload_n 0, 1) := by decide +kernel
theorem dX11_isHolder_1 : decode cX11_isHolder 1 = .ok (.iconst 0, 1) := by decide +kernel
theorem dX11_isHolder_2 : decode cX11_isHolder 2 = .ok (.bipush 9, 2) := by decide +kernel
theorem dX11_isHolder_4 : decode cX11_isHolder 4 = .ok (.invokestatic 90, 3) := by decide +kernel
theorem dX11_isHolder_7 : decode cX11_isHolder 7 = .ok (.ireturn, 1) := by decide +kernel
theorem dX11_isMark_0 : decode cX11_isMark 0 = .ok (.iload_n 0, 1) := by decide +kernel
theorem dX11_isMark_1 : decode cX11_isMark 1 = .ok (.bipush (-9), 2) := by decide +kernel
theorem dX11_isMark_3 : decode cX11_isMark 3 = .ok (.if_icmp .eq 12, 3) := by decide +kernel
theorem dX11_isMark_6 : decode cX11_isMark 6 = .ok (.iload_n 0, 1) := by decide +kernel
theorem dX11_isMark_7 : decode cX11_isMark 7 = .ok (.iconst 0, 1) := by decide +kernel
theorem dX11_isMark_8 : decode cX11_isMark 8 = .ok (.iconst 3, 1) := by decide +kernel
theorem dX11_isMark_9 : decode cX11_isMark 9 = .ok (.invokestatic 90, 3) := by decide +kernel
theorem dX11_isMark_12 : decode cX11_isMark 12 = .ok (.ifCond .eq 7, 3) := by decide +kernel
theorem dX11_isMark_15 : decode cX11_isMark 15 = .ok (.iconst 1, 1) := by decide +kernel
theorem dX11_isMark_16 : decode cX11_isMark 16 = .ok (.goto 4, 3) := by decide +kernel
theorem dX11_isMark_19 : decode cX11_isMark 19 = .ok (.iconst 0, 1) := by decide +kernel
theorem dX11_isMark_20 : decode cX11_isMark 20 = .ok (.ireturn, 1) := by decide +kernel
theorem dX11_isSpan_0 : decode cX11_isSpan 0 = .ok (.iload_n 0, 1) := by decide +kernel
theorem dX11_isSpan_1 : decode cX11_isSpan 1 = .ok (.ifCond .lt 17, 3) := by decide +kernel
theorem dX11_isSpan_4 : decode cX11_isSpan 4 = .ok (.iload_n 0, 1) := by decide +kernel
theorem dX11_isSpan_5 : decode cX11_isSpan 5 = .ok (.iload_n 1, 1) := by decide +kernel
theorem dX11_isSpan_6 : decode cX11_isSpan 6 = .ok (.if_icmp .gt 12, 3) := by decide +kernel
theorem dX11_isSpan_9 : decode cX11_isSpan 9 = .ok (.iload_n 1, 1) := by decide +kernel
theorem dX11_isSpan_10 : decode cX11_isSpan 10 = .ok (.iload_n 2, 1) := by decide +kernel
theorem dX11_isSpan_11 : decode cX11_isSpan 11 = .ok (.if_icmp .gt 7, 3) := by decide +kernel
theorem dX11_isSpan_14 : decode cX11_isSpan 14 = .ok (.iconst 1, 1) := by decide +kernel
theorem dX11_isSpan_15 : decode cX11_isSpan 15 = .ok (.goto 4, 3) := by decide +kernel
theorem dX11_isSpan_18 : decode cX11_isSpan 18 = .ok (.iconst 0, 1) := by decide +kernel
theorem dX11_isSpan_19 : decode cX11_isSpan 19 = .ok (.ireturn, 1) := by decide +kernel
theorem dX11_isStreet_0 : decode cX11_isStreet 0 = .ok (.iload_n 0, 1) := by decide +kernel
theorem dX11_isStreet_1 : decode cX11_isStreet 1 = .ok (.iconst 0, 1) := by decide +kernel
theorem dX11_isStreet_2 : decode cX11_isStreet 2 = .ok (.bipush 7, 2) := by decide +kernel
theorem dX11_isStreet_4 : decode cX11_isStreet 4 = .ok (.invokestatic 90, 3) := by decide +kernel
theorem dX11_isStreet_7 : decode cX11_isStreet 7 = .ok (.ireturn, 1) := by decide +kernel
theorem dX11_isShip_0 : decode cX11_isShip 0 = .ok (.iload_n 0, 1) := by decide +kernel
theorem dX11_isShip_1 : decode cX11_isShip 1 = .ok (.bipush 10, 2) := by decide +kernel
theorem dX11_isShip_3 : decode cX11_isShip 3 = .ok (.bipush 19, 2) := by decide +kernel
theorem dX11_isShip_5 : decode cX11_isShip 5 = .ok (.invokestatic 90, 3) := by decide +kernel
theorem dX11_isShip_8 : decode cX11_isShip 8 = .ok (.ireturn, 1) := by decide +kernel
theorem dX11_isAshore_0 : decode cX11_isAshore 0 = .ok (.iload_n 0, 1) := by decide +kernel
theorem dX11_isAshore_1 : decode cX11_isAshore 1 = .ok (.invokestatic 349, 3) := by decide +kernel
theorem dX11_isAshore_4 : decode cX11_isAshore 4 = .ok (.ifCond .ne 9, 3) := by decide +kernel
theorem dX11_isAshore_7 : decode cX11_isAshore 7 = .ok (.iload_n 0, 1) := by decide +kernel
theorem dX11_isAshore_8 : decode cX11_isAshore 8 = .ok (.bipush 22, 2) := by decide +kernel
theorem dX11_isAshore_10 : decode cX11_isAshore 10 = .ok (.if_icmp .ne 7, 3) := by decide +kernel
theorem dX11_isAshore_13 : decode cX11_isAshore 13 = .ok (.iconst 1, 1) := by decide +kernel
theorem dX11_isAshore_14 : decode cX11_isAshore 14 = .ok (.goto 4, 3) := by decide +kernel
theorem dX11_isAshore_17 : decode cX11_isAshore 17 = .ok (.iconst 0, 1) := by decide +kernel
theorem dX11_isAshore_18 : decode cX11_isAshore 18 = .ok (.ireturn, 1) := by decide +kernel
theorem dX11_findMan_0 : decode cX11_findMan 0 = .ok (.iload_n 1, 1) := by decide +kernel
theorem dX11_findMan_1 : decode cX11_findMan 1 = .ok (.iconst 0, 1) := by decide +kernel
theorem dX11_findMan_2 : decode cX11_findMan 2 = .ok (.aload_n 0, 1) := by decide +kernel
theorem dX11_findMan_3 : decode cX11_findMan 3 = .ok (.getfield 94, 3) := by decide +kernel
theorem dX11_findMan_6 : decode cX11_findMan 6 = .ok (.iconst 1, 1) := by decide +kernel
theorem dX11_findMan_7 : decode cX11_findMan 7 = .ok (.isub, 1) := by decide +kernel
theorem dX11_findMan_8 : decode cX11_findMan 8 = .ok (.invokestatic 90, 3) := by decide +kernel
theorem dX11_findMan_11 : decode cX11_findMan 11 = .ok (.ifCond .eq 12, 3) := by decide +kernel
theorem dX11_findMan_14 : decode cX11_findMan 14 = .ok (.aload_n 0, 1) := by decide +kernel
theorem dX11_findMan_15 : decode cX11_findMan 15 = .ok (.getfield 18, 3) := by decide +kernel
theorem dX11_findMan_18 : decode cX11_findMan 18 = .ok (.iload_n 1, 1) := by decide +kernel
theorem dX11_findMan_19 : decode cX11_findMan 19 = .ok (.aaload, 1) := by decide +kernel
theorem dX11_findMan_20 : decode cX11_findMan 20 = .ok (.goto 4, 3) := by decide +kernel
theorem dX11_findMan_23 : decode cX11_findMan 23 = .ok (.aconst_null, 1) := by decide +kernel
theorem dX11_findMan_24 : decode cX11_findMan 24 = .ok (.areturn, 1) := by decide +kernel
theorem dX11_findPaper_0 : decode cX11_findPaper 0 = .ok (.iload_n 1, 1) := by decide +kernel
theorem dX11_findPaper_1 : decode cX11_findPaper 1 = .ok (.iconst 0, 1) := by decide +kernel
theorem dX11_findPaper_2 : decode cX11_findPaper 2 = .ok (.aload_n 0, 1) := by decide +kernel
theorem dX11_findPaper_3 : decode cX11_findPaper 3 = .ok (.getfield 193, 3) := by decide +kernel
theorem dX11_findPaper_6 : decode cX11_findPaper 6 = .ok (.iconst 1, 1) := by decide +kernel
theorem dX11_findPaper_7 : decode cX11_findPaper 7 = .ok (.isub, 1) := by decide +kernel
theorem dX11_findPaper_8 : decode cX11_findPaper 8 = .ok (.invokestatic 90, 3) := by decide +kernel
theorem dX11_findPaper_11 : decode cX11_findPaper 11 = .ok (.ifCond .eq 12, 3) := by decide +kernel
theorem dX11_findPaper_14 : decode cX11_findPaper 14 = .ok (.aload_n 0, 1) := by decide +kernel
theorem dX11_findPaper_15 : decode cX11_findPaper 15 = .ok (.getfield 24, 3) := by decide +kernel
theorem dX11_findPaper_18 : decode cX11_findPaper 18 = .ok (.iload_n 1, 1) := by decide +kernel
theorem dX11_findPaper_19 : decode cX11_findPaper 19 = .ok (.aaload, 1) := by decide +kernel
theorem dX11_findPaper_20 : decode cX11_findPaper 20 = .ok (.goto 4, 3) := by decide +kernel
theorem dX11_findPaper_23 : decode cX11_findPaper 23 = .ok (.aconst_null, 1) := by decide +kernel
theorem dX11_findPaper_24 : decode cX11_findPaper 24 = .ok (.areturn, 1) := by decide +kernel
theorem dX11_isPaperOrNone_0 : decode cX11_isPaperOrNone 0 = .ok (.iload_n 1, 1) := by decide +kernel
theorem dX11_isPaperOrNone_1 : decode cX11_isPaperOrNone 1 = .ok (.bipush (-9), 2) := by decide +kernel
theorem dX11_isPaperOrNone_3 : decode cX11_isPaperOrNone 3 = .ok (.if_icmp .eq 11, 3) := by decide +kernel
theorem dX11_isPaperOrNone_6 : decode cX11_isPaperOrNone 6 = .ok (.aload_n 0, 1) := by decide +kernel
theorem dX11_isPaperOrNone_7 : decode cX11_isPaperOrNone 7 = .ok (.iload_n 1, 1) := by decide +kernel
theorem dX11_isPaperOrNone_8 : decode cX11_isPaperOrNone 8 = .ok (.invokevirtual 204, 3) := by decide +kernel
theorem dX11_isPaperOrNone_11 : decode cX11_isPaperOrNone 11 = .ok (.ifnull 7, 3) := by decide +kernel
theorem dX11_isPaperOrNone_14 : decode cX11_isPaperOrNone 14 = .ok (.iconst 1, 1) := by decide +kernel
theorem dX11_isPaperOrNone_15 : decode cX11_isPaperOrNone 15 = .ok (.goto 4, 3) := by decide +kernel
theorem dX11_isPaperOrNone_18 : decode cX11_isPaperOrNone 18 = .ok (.iconst 0, 1) := by decide +kernel
theorem dX11_isPaperOrNone_19 : decode cX11_isPaperOrNone 19 = .ok (.ireturn, 1) := by decide +kernel
theorem dX11_findAct_0 : decode cX11_findAct 0 = .ok (.iload_n 1, 1) := by decide +kernel
theorem dX11_findAct_1 : decode cX11_findAct 1 = .ok (.iconst 0, 1) := by decide +kernel
theorem dX11_findAct_2 : decode cX11_findAct 2 = .ok (.aload_n 0, 1) := by decide +kernel
theorem dX11_findAct_3 : decode cX11_findAct 3 = .ok (.getfield 219, 3) := by decide +kernel
theorem dX11_findAct_6 : decode cX11_findAct 6 = .ok (.iconst 1, 1) := by decide +kernel
theorem dX11_findAct_7 : decode cX11_findAct 7 = .ok (.isub, 1) := by decide +kernel
theorem dX11_findAct_8 : decode cX11_findAct 8 = .ok (.invokestatic 90, 3) := by decide +kernel
theorem dX11_findAct_11 : decode cX11_findAct 11 = .ok (.ifCond .eq 12, 3) := by decide +kernel
theorem dX11_findAct_14 : decode cX11_findAct 14 = .ok (.aload_n 0, 1) := by decide +kernel
theorem dX11_findAct_15 : decode cX11_findAct 15 = .ok (.getfield 30, 3) := by decide +kernel
theorem dX11_findAct_18 : decode cX11_findAct 18 = .ok (.iload_n 1, 1) := by decide +kernel
theorem dX11_findAct_19 : decode cX11_findAct 19 = .ok (.aaload, 1) := by decide +kernel
theorem dX11_findAct_20 : decode cX11_findAct 20 = .ok (.goto 4, 3) := by decide +kernel
theorem dX11_findAct_23 : decode cX11_findAct 23 = .ok (.aconst_null, 1) := by decide +kernel
theorem dX11_findAct_24 : decode cX11_findAct 24 = .ok (.areturn, 1) := by decide +kernel
theorem dX11_findShip_0 : decode cX11_findShip 0 = .ok (.iload_n 1, 1) := by decide +kernel
theorem dX11_findShip_1 : decode cX11_findShip 1 = .ok (.iconst 0, 1) := by decide +kernel
theorem dX11_findShip_2 : decode cX11_findShip 2 = .ok (.aload_n 0, 1) := by decide +kernel
theorem dX11_findShip_3 : decode cX11_findShip 3 = .ok (.getfield 314, 3) := by decide +kernel
theorem dX11_findShip_6 : decode cX11_findShip 6 = .ok (.iconst 1, 1) := by decide +kernel
theorem dX11_findShip_7 : decode cX11_findShip 7 = .ok (.isub, 1) := by decide +kernel
theorem dX11_findShip_8 : decode cX11_findShip 8 = .ok (.invokestatic 90, 3) := by decide +kernel
theorem dX11_findShip_11 : decode cX11_findShip 11 = .ok (.ifCond .eq 12, 3) := by decide +kernel
theorem dX11_findShip_14 : decode cX11_findShip 14 = .ok (.aload_n 0, 1) := by decide +kernel
theorem dX11_findShip_15 : decode cX11_findShip 15 = .ok (.getfield 43, 3) := by decide +kernel
theorem dX11_findShip_18 : decode cX11_findShip 18 = .ok (.iload_n 1, 1) := by decide +kernel
theorem dX11_findShip_19 : decode cX11_findShip 19 = .ok (.aaload, 1) := by decide +kernel
theorem dX11_findShip_20 : decode cX11_findShip 20 = .ok (.goto 4, 3) := by decide +kernel
theorem dX11_findShip_23 : decode cX11_findShip 23 = .ok (.aconst_null, 1) := by decide +kernel
theorem dX11_findShip_24 : decode cX11_findShip 24 = .ok (.areturn, 1) := by decide +kernel
theorem dX11_findTicket_0 : decode cX11_findTicket 0 = .ok (.iload_n 1, 1) := by decide +kernel
theorem dX11_findTicket_1 : decode cX11_findTicket 1 = .ok (.iconst 0, 1) := by decide +kernel
theorem dX11_findTicket_2 : decode cX11_findTicket 2 = .ok (.aload_n 0, 1) := by decide +kernel
theorem dX11_findTicket_3 : decode cX11_findTicket 3 = .ok (.getfield 369, 3) := by decide +kernel
theorem dX11_findTicket_6 : decode cX11_findTicket 6 = .ok (.iconst 1, 1) := by decide +kernel
theorem dX11_findTicket_7 : decode cX11_findTicket 7 = .ok (.isub, 1) := by decide +kernel
theorem dX11_findTicket_8 : decode cX11_findTicket 8 = .ok (.invokestatic 90, 3) := by decide +kernel
theorem dX11_findTicket_11 : decode cX11_findTicket 11 = .ok (.ifCond .eq 12, 3) := by decide +kernel
theorem dX11_findTicket_14 : decode cX11_findTicket 14 = .ok (.aload_n 0, 1) := by decide +kernel
theorem dX11_findTicket_15 : decode cX11_findTicket 15 = .ok (.getfield 49, 3) := by decide +kernel
theorem dX11_findTicket_18 : decode cX11_findTicket 18 = .ok (.iload_n 1, 1) := by decide +kernel
theorem dX11_findTicket_19 : decode cX11_findTicket 19 = .ok (.aaload, 1) := by decide +kernel
theorem dX11_findTicket_20 : decode cX11_findTicket 20 = .ok (.goto 4, 3) := by decide +kernel
theorem dX11_findTicket_23 : decode cX11_findTicket 23 = .ok (.aconst_null, 1) := by decide +kernel
theorem dX11_findTicket_24 : decode cX11_findTicket 24 = .ok (.areturn, 1) := by decide +kernel
theorem dX11_isPlace_0 : decode cX11_isPlace 0 = .ok (.aload_n 0, 1) := by decide +kernel
theorem dX11_isPlace_1 : decode cX11_isPlace 1 = .ok (.getfield 10, 3) := by decide +kernel
theorem dX11_isPlace_4 : decode cX11_isPlace 4 = .ok (.iload_n 1, 1) := by decide +kernel
theorem dX11_isPlace_5 : decode cX11_isPlace 5 = .ok (.invokevirtual 104, 3) := by decide +kernel
theorem dX11_isPlace_8 : decode cX11_isPlace 8 = .ok (.ifCond .ne 25, 3) := by decide +kernel
theorem dX11_isPlace_11 : decode cX11_isPlace 11 = .ok (.aload_n 0, 1) := by decide +kernel
theorem dX11_isPlace_12 : decode cX11_isPlace 12 = .ok (.iload_n 1, 1) := by decide +kernel
theorem dX11_isPlace_13 : decode cX11_isPlace 13 = .ok (.bipush 10, 2) := by decide +kernel
theorem dX11_isPlace_15 : decode cX11_isPlace 15 = .ok (.isub, 1) := by decide +kernel
theorem dX11_isPlace_16 : decode cX11_isPlace 16 = .ok (.invokevirtual 320, 3) := by decide +kernel
theorem dX11_isPlace_19 : decode cX11_isPlace 19 = .ok (.ifnonnull 14, 3) := by decide +kernel
theorem dX11_isPlace_22 : decode cX11_isPlace 22 = .ok (.iload_n 1, 1) := by decide +kernel
theorem dX11_isPlace_23 : decode cX11_isPlace 23 = .ok (.bipush 20, 2) := by decide +kernel
theorem dX11_isPlace_25 : decode cX11_isPlace 25 = .ok (.bipush 23, 2) := by decide +kernel
theorem dX11_isPlace_27 : decode cX11_isPlace 27 = .ok (.invokestatic 90, 3) := by decide +kernel
theorem dX11_isPlace_30 : decode cX11_isPlace 30 = .ok (.ifCond .eq 7, 3) := by decide +kernel
theorem dX11_isPlace_33 : decode cX11_isPlace 33 = .ok (.iconst 1, 1) := by decide +kernel
theorem dX11_isPlace_34 : decode cX11_isPlace 34 = .ok (.goto 4, 3) := by decide +kernel
theorem dX11_isPlace_37 : decode cX11_isPlace 37 = .ok (.iconst 0, 1) := by decide +kernel
theorem dX11_isPlace_38 : decode cX11_isPlace 38 = .ok (.ireturn, 1) := by decide +kernel
theorem dX11_isInShipAtHome_0 : decode cX11_isInShipAtHome 0 = .ok (.iload_n 1, 1) := by decide +kernel
theorem dX11_isInShipAtHome_1 : decode cX11_isInShipAtHome 1 = .ok (.invokestatic 405, 3) := by decide +kernel
theorem dX11_isInShipAtHome_4 : decode cX11_isInShipAtHome 4 = .ok (.ifCond .eq 14, 3) := by decide +kernel
theorem dX11_isInShipAtHome_7 : decode cX11_isInShipAtHome 7 = .ok (.aload_n 0, 1) := by decide +kernel
theorem dX11_isInShipAtHome_8 : decode cX11_isInShipAtHome 8 = .ok (.iload_n 1, 1) := by decide +kernel
theorem dX11_isInShipAtHome_9 : decode cX11_isInShipAtHome 9 = .ok (.bipush 10, 2) := by decide +kernel
theorem dX11_isInShipAtHome_11 : decode cX11_isInShipAtHome 11 = .ok (.isub, 1) := by decide +kernel
theorem dX11_isInShipAtHome_12 : decode cX11_isInShipAtHome 12 = .ok (.invokevirtual 320, 3) := by decide +kernel
theorem dX11_isInShipAtHome_15 : decode cX11_isInShipAtHome 15 = .ok (.goto 4, 3) := by decide +kernel
theorem dX11_isInShipAtHome_18 : decode cX11_isInShipAtHome 18 = .ok (.aconst_null, 1) := by decide +kernel
theorem dX11_isInShipAtHome_19 : decode cX11_isInShipAtHome 19 = .ok (.astore_n 2, 1) := by decide +kernel
theorem dX11_isInShipAtHome_20 : decode cX11_isInShipAtHome 20 = .ok (.aload_n 2, 1) := by decide +kernel
theorem dX11_isInShipAtHome_21 : decode cX11_isInShipAtHome 21 = .ok (.ifnull 14, 3) := by decide +kernel
theorem dX11_isInShipAtHome_24 : decode cX11_isInShipAtHome 24 = .ok (.aload_n 2, 1) := by decide +kernel
theorem dX11_isInShipAtHome_25 : decode cX11_isInShipAtHome 25 = .ok (.getfield 336, 3) := by decide +kernel
theorem dX11_isInShipAtHome_28 : decode cX11_isInShipAtHome 28 = .ok (.ifCond .eq 7, 3) := by decide +kernel
theorem dX11_isInShipAtHome_31 : decode cX11_isInShipAtHome 31 = .ok (.iconst 1, 1) := by decide +kernel
theorem dX11_isInShipAtHome_32 : decode cX11_isInShipAtHome 32 = .ok (.goto 4, 3) := by decide +kernel
theorem dX11_isInShipAtHome_35 : decode cX11_isInShipAtHome 35 = .ok (.iconst 0, 1) := by decide +kernel
theorem dX11_isInShipAtHome_36 : decode cX11_isInShipAtHome 36 = .ok (.ireturn, 1) := by decide +kernel
theorem dX11_isInShipOf_0 : decode cX11_isInShipOf 0 = .ok (.iload_n 2, 1) := by decide +kernel
theorem dX11_isInShipOf_1 : decode cX11_isInShipOf 1 = .ok (.invokestatic 405, 3) := by decide +kernel
theorem dX11_isInShipOf_4 : decode cX11_isInShipOf 4 = .ok (.ifCond .eq 14, 3) := by decide +kernel
theorem dX11_isInShipOf_7 : decode cX11_isInShipOf 7 = .ok (.aload_n 0, 1) := by decide +kernel
theorem dX11_isInShipOf_8 : decode cX11_isInShipOf 8 = .ok (.iload_n 2, 1) := by decide +kernel
theorem dX11_isInShipOf_9 : decode cX11_isInShipOf 9 = .ok (.bipush 10, 2) := by decide +kernel
theorem dX11_isInShipOf_11 : decode cX11_isInShipOf 11 = .ok (.isub, 1) := by decide +kernel
theorem dX11_isInShipOf_12 : decode cX11_isInShipOf 12 = .ok (.invokevirtual 320, 3) := by decide +kernel
theorem dX11_isInShipOf_15 : decode cX11_isInShipOf 15 = .ok (.goto 4, 3) := by decide +kernel
theorem dX11_isInShipOf_18 : decode cX11_isInShipOf 18 = .ok (.aconst_null, 1) := by decide +kernel
theorem dX11_isInShipOf_19 : decode cX11_isInShipOf 19 = .ok (.astore_n 3, 1) := by decide +kernel
theorem dX11_isInShipOf_20 : decode cX11_isInShipOf 20 = .ok (.aload_n 3, 1) := by decide +kernel
theorem dX11_isInShipOf_21 : decode cX11_isInShipOf 21 = .ok (.ifnull 15, 3) := by decide +kernel
theorem dX11_isInShipOf_24 : decode cX11_isInShipOf 24 = .ok (.aload_n 3, 1) := by decide +kernel
theorem dX11_isInShipOf_25 : decode cX11_isInShipOf 25 = .ok (.getfield 324, 3) := by decide +kernel
theorem dX11_isInShipOf_28 : decode cX11_isInShipOf 28 = .ok (.iload_n 1, 1) := by decide +kernel
theorem dX11_isInShipOf_29 : decode cX11_isInShipOf 29 = .ok (.if_icmp .ne 7, 3) := by decide +kernel
theorem dX11_isInShipOf_32 : decode cX11_isInShipOf 32 = .ok (.iconst 1, 1) := by decide +kernel
theorem dX11_isInShipOf_33 : decode cX11_isInShipOf 33 = .ok (.goto 4, 3) := by decide +kernel
theorem dX11_isInShipOf_36 : decode cX11_isInShipOf 36 = .ok (.iconst 0, 1) := by decide +kernel
theorem dX11_isInShipOf_37 : decode cX11_isInShipOf 37 = .ok (.ireturn, 1) := by decide +kernel
theorem dX11_isWithinReach_0 : decode cX11_isWithinReach 0 = .ok (.iload_n 1, 1) := by decide +kernel
theorem dX11_isWithinReach_1 : decode cX11_isWithinReach 1 = .ok (.invokestatic 349, 3) := by decide +kernel
theorem dX11_isWithinReach_4 : decode cX11_isWithinReach 4 = .ok (.ifCond .ne 20, 3) := by decide +kernel
theorem dX11_isWithinReach_7 : decode cX11_isWithinReach 7 = .ok (.aload_n 0, 1) := by decide +kernel
theorem dX11_isWithinReach_8 : decode cX11_isWithinReach 8 = .ok (.iload_n 1, 1) := by decide +kernel
theorem dX11_isWithinReach_9 : decode cX11_isWithinReach 9 = .ok (.invokevirtual 293, 3) := by decide +kernel
theorem dX11_isWithinReach_12 : decode cX11_isWithinReach 12 = .ok (.ifCond .eq 16, 3) := by decide +kernel
theorem dX11_isWithinReach_15 : decode cX11_isWithinReach 15 = .ok (.aload_n 0, 1) := by decide +kernel
theorem dX11_isWithinReach_16 : decode cX11_isWithinReach 16 = .ok (.iconst 1, 1) := by decide +kernel
theorem dX11_isWithinReach_17 : decode cX11_isWithinReach 17 = .ok (.iload_n 1, 1) := by decide +kernel
theorem dX11_isWithinReach_18 : decode cX11_isWithinReach 18 = .ok (.invokevirtual 408, 3) := by decide +kernel
theorem dX11_isWithinReach_21 : decode cX11_isWithinReach 21 = .ok (.ifCond .eq 7, 3) := by decide +kernel
theorem dX11_isWithinReach_24 : decode cX11_isWithinReach 24 = .ok (.iconst 1, 1) := by decide +kernel
theorem dX11_isWithinReach_25 : decode cX11_isWithinReach 25 = .ok (.goto 4, 3) := by decide +kernel
theorem dX11_isWithinReach_28 : decode cX11_isWithinReach 28 = .ok (.iconst 0, 1) := by decide +kernel
theorem dX11_isWithinReach_29 : decode cX11_isWithinReach 29 = .ok (.ireturn, 1) := by decide +kernel
theorem dX11_menIn_0 : decode cX11_menIn 0 = .ok (.iconst 0, 1) := by decide +kernel
theorem dX11_menIn_1 : decode cX11_menIn 1 = .ok (.istore_n 2, 1) := by decide +kernel
theorem dX11_menIn_2 : decode cX11_menIn 2 = .ok (.iconst 0, 1) := by decide +kernel
theorem dX11_menIn_3 : decode cX11_menIn 3 = .ok (.istore_n 3, 1) := by decide +kernel
theorem dX11_menIn_4 : decode cX11_menIn 4 = .ok (.iload_n 3, 1) := by decide +kernel
theorem dX11_menIn_5 : decode cX11_menIn 5 = .ok (.aload_n 0, 1) := by decide +kernel
theorem dX11_menIn_6 : decode cX11_menIn 6 = .ok (.getfield 94, 3) := by decide +kernel
theorem dX11_menIn_9 : decode cX11_menIn 9 = .ok (.if_icmp .ge 25, 3) := by decide +kernel
theorem dX11_menIn_12 : decode cX11_menIn 12 = .ok (.aload_n 0, 1) := by decide +kernel
theorem dX11_menIn_13 : decode cX11_menIn 13 = .ok (.getfield 18, 3) := by decide +kernel
theorem dX11_menIn_16 : decode cX11_menIn 16 = .ok (.iload_n 3, 1) := by decide +kernel
theorem dX11_menIn_17 : decode cX11_menIn 17 = .ok (.aaload, 1) := by decide +kernel
theorem dX11_menIn_18 : decode cX11_menIn 18 = .ok (.getfield 178, 3) := by decide +kernel
theorem dX11_menIn_21 : decode cX11_menIn 21 = .ok (.iload_n 1, 1) := by decide +kernel
theorem dX11_menIn_22 : decode cX11_menIn 22 = .ok (.if_icmp .ne 6, 3) := by decide +kernel
theorem dX11_menIn_25 : decode cX11_menIn 25 = .ok (.iinc 2 1, 3) := by decide +kernel
theorem dX11_menIn_28 : decode cX11_menIn 28 = .ok (.iinc 3 1, 3) := by decide +kernel
theorem dX11_menIn_31 : decode cX11_menIn 31 = .ok (.goto (-27), 3) := by decide +kernel
theorem dX11_menIn_34 : decode cX11_menIn 34 = .ok (.iload_n 2, 1) := by decide +kernel
theorem dX11_menIn_35 : decode cX11_menIn 35 = .ok (.ireturn, 1) := by decide +kernel
theorem dX11_seamenIn_0 : decode cX11_seamenIn 0 = .ok (.iconst 0, 1) := by decide +kernel
theorem dX11_seamenIn_1 : decode cX11_seamenIn 1 = .ok (.istore_n 2, 1) := by decide +kernel
theorem dX11_seamenIn_2 : decode cX11_seamenIn 2 = .ok (.iconst 0, 1) := by decide +kernel
theorem dX11_seamenIn_3 : decode cX11_seamenIn 3 = .ok (.istore_n 3, 1) := by decide +kernel
theorem dX11_seamenIn_4 : decode cX11_seamenIn 4 = .ok (.iload_n 3, 1) := by decide +kernel
theorem dX11_seamenIn_5 : decode cX11_seamenIn 5 = .ok (.aload_n 0, 1) := by decide +kernel
theorem dX11_seamenIn_6 : decode cX11_seamenIn 6 = .ok (.getfield 94, 3) := by decide +kernel
theorem dX11_seamenIn_9 : decode cX11_seamenIn 9 = .ok (.if_icmp .ge 37, 3) := by decide +kernel
theorem dX11_seamenIn_12 : decode cX11_seamenIn 12 = .ok (.aload_n 0, 1) := by decide +kernel
theorem dX11_seamenIn_13 : decode cX11_seamenIn 13 = .ok (.getfield 18, 3) := by decide +kernel
theorem dX11_seamenIn_16 : decode cX11_seamenIn 16 = .ok (.iload_n 3, 1) := by decide +kernel
theorem dX11_seamenIn_17 : decode cX11_seamenIn 17 = .ok (.aaload, 1) := by decide +kernel
theorem dX11_seamenIn_18 : decode cX11_seamenIn 18 = .ok (.getfield 178, 3) := by decide +kernel
theorem dX11_seamenIn_21 : decode cX11_seamenIn 21 = .ok (.iload_n 1, 1) := by decide +kernel
theorem dX11_seamenIn_22 : decode cX11_seamenIn 22 = .ok (.if_icmp .ne 18, 3) := by decide +kernel
theorem dX11_seamenIn_25 : decode cX11_seamenIn 25 = .ok (.aload_n 0, 1) := by decide +kernel
theorem dX11_seamenIn_26 : decode cX11_seamenIn 26 = .ok (.getfield 18, 3) := by decide +kernel
theorem dX11_seamenIn_29 : decode cX11_seamenIn 29 = .ok (.iload_n 3, 1) := by decide +kernel
theorem dX11_seamenIn_30 : decode cX11_seamenIn 30 = .ok (.aaload, 1) := by decide +kernel
theorem dX11_seamenIn_31 : decode cX11_seamenIn 31 = .ok (.invokevirtual 412, 3) := by decide +kernel
theorem dX11_seamenIn_34 : decode cX11_seamenIn 34 = .ok (.ifCond .eq 6, 3) := by decide +kernel
theorem dX11_seamenIn_37 : decode cX11_seamenIn 37 = .ok (.iinc 2 1, 3) := by decide +kernel
theorem dX11_seamenIn_40 : decode cX11_seamenIn 40 = .ok (.iinc 3 1, 3) := by decide +kernel
theorem dX11_seamenIn_43 : decode cX11_seamenIn 43 = .ok (.goto (-39), 3) := by decide +kernel
theorem dX11_seamenIn_46 : decode cX11_seamenIn 46 = .ok (.iload_n 2, 1) := by decide +kernel
theorem dX11_seamenIn_47 : decode cX11_seamenIn 47 = .ok (.ireturn, 1) := by decide +kernel
theorem dX11_menOffTheStreets_0 : decode cX11_menOffTheStreets 0 = .ok (.iconst 0, 1) := by decide +kernel
theorem dX11_menOffTheStreets_1 : decode cX11_menOffTheStreets 1 = .ok (.istore_n 1, 1) := by decide +kernel
theorem dX11_menOffTheStreets_2 : decode cX11_menOffTheStreets 2 = .ok (.iconst 0, 1) := by decide +kernel
theorem dX11_menOffTheStreets_3 : decode cX11_menOffTheStreets 3 = .ok (.istore_n 2, 1) := by decide +kernel
theorem dX11_menOffTheStreets_4 : decode cX11_menOffTheStreets 4 = .ok (.iload_n 2, 1) := by decide +kernel
theorem dX11_menOffTheStreets_5 : decode cX11_menOffTheStreets 5 = .ok (.aload_n 0, 1) := by decide +kernel
theorem dX11_menOffTheStreets_6 : decode cX11_menOffTheStreets 6 = .ok (.getfield 94, 3) := by decide +kernel
theorem dX11_menOffTheStreets_9 : decode cX11_menOffTheStreets 9 = .ok (.if_icmp .ge 27, 3) := by decide +kernel
theorem dX11_menOffTheStreets_12 : decode cX11_menOffTheStreets 12 = .ok (.aload_n 0, 1) := by decide +kernel
theorem dX11_menOffTheStreets_13 : decode cX11_menOffTheStreets 13 = .ok (.getfield 18, 3) := by decide +kernel
theorem dX11_menOffTheStreets_16 : decode cX11_menOffTheStreets 16 = .ok (.iload_n 2, 1) := by decide +kernel
theorem dX11_menOffTheStreets_17 : decode cX11_menOffTheStreets 17 = .ok (.aaload, 1) := by decide +kernel
theorem dX11_menOffTheStreets_18 : decode cX11_menOffTheStreets 18 = .ok (.getfield 178, 3) := by decide +kernel
theorem dX11_menOffTheStreets_21 : decode cX11_menOffTheStreets 21 = .ok (.invokestatic 349, 3) := by decide +kernel
theorem dX11_menOffTheStreets_24 : decode cX11_menOffTheStreets 24 = .ok (.ifCond .ne 6, 3) := by decide +kernel
theorem dX11_menOffTheStreets_27 : decode cX11_menOffTheStreets 27 = .ok (.iinc 1 1, 3) := by decide +kernel
theorem dX11_menOffTheStreets_30 : decode cX11_menOffTheStreets 30 = .ok (.iinc 2 1, 3) := by decide +kernel
theorem dX11_menOffTheStreets_33 : decode cX11_menOffTheStreets 33 = .ok (.goto (-29), 3) := by decide +kernel
theorem dX11_menOffTheStreets_36 : decode cX11_menOffTheStreets 36 = .ok (.iload_n 1, 1) := by decide +kernel
theorem dX11_menOffTheStreets_37 : decode cX11_menOffTheStreets 37 = .ok (.ireturn, 1) := by decide +kernel
theorem dX11_hideTheShy_0 : decode cX11_hideTheShy 0 = .ok (.iconst 0, 1) := by decide +kernel
theorem dX11_hideTheShy_1 : decode cX11_hideTheShy 1 = .ok (.istore_n 1, 1) := by decide +kernel
theorem dX11_hideTheShy_2 : decode cX11_hideTheShy 2 = .ok (.iload_n 1, 1) := by decide +kernel
theorem dX11_hideTheShy_3 : decode cX11_hideTheShy 3 = .ok (.aload_n 0, 1) := by decide +kernel
theorem dX11_hideTheShy_4 : decode cX11_hideTheShy 4 = .ok (.getfield 94, 3) := by decide +kernel
theorem dX11_hideTheShy_7 : decode cX11_hideTheShy 7 = .ok (.if_icmp .ge 60, 3) := by decide +kernel
theorem dX11_hideTheShy_10 : decode cX11_hideTheShy 10 = .ok (.aload_n 0, 1) := by decide +kernel
theorem dX11_hideTheShy_11 : decode cX11_hideTheShy 11 = .ok (.getfield 18, 3) := by decide +kernel
theorem dX11_hideTheShy_14 : decode cX11_hideTheShy 14 = .ok (.iload_n 1, 1) := by decide +kernel
theorem dX11_hideTheShy_15 : decode cX11_hideTheShy 15 = .ok (.aaload, 1) := by decide +kernel
theorem dX11_hideTheShy_16 : decode cX11_hideTheShy 16 = .ok (.astore_n 2, 1) := by decide +kernel
theorem dX11_hideTheShy_17 : decode cX11_hideTheShy 17 = .ok (.aload_n 2, 1) := by decide +kernel
theorem dX11_hideTheShy_18 : decode cX11_hideTheShy 18 = .ok (.getfield 148, 3) := by decide +kernel
theorem dX11_hideTheShy_21 : decode cX11_hideTheShy 21 = .ok (.ifCond .eq 40, 3) := by decide +kernel
theorem dX11_hideTheShy_24 : decode cX11_hideTheShy 24 = .ok (.aload_n 2, 1) := by decide +kernel
theorem dX11_hideTheShy_25 : decode cX11_hideTheShy 25 = .ok (.getfield 178, 3) := by decide +kernel
theorem dX11_hideTheShy_28 : decode cX11_hideTheShy 28 = .ok (.invokestatic 349, 3) := by decide +kernel
theorem dX11_hideTheShy_31 : decode cX11_hideTheShy 31 = .ok (.ifCond .eq 30, 3) := by decide +kernel
theorem dX11_hideTheShy_34 : decode cX11_hideTheShy 34 = .ok (.aload_n 0, 1) := by decide +kernel
theorem dX11_hideTheShy_35 : decode cX11_hideTheShy 35 = .ok (.getfield 57, 3) := by decide +kernel
theorem dX11_hideTheShy_38 : decode cX11_hideTheShy 38 = .ok (.aload_n 2, 1) := by decide +kernel
theorem dX11_hideTheShy_39 : decode cX11_hideTheShy 39 = .ok (.getfield 178, 3) := by decide +kernel
theorem dX11_hideTheShy_42 : decode cX11_hideTheShy 42 = .ok (.iaload, 1) := by decide +kernel
theorem dX11_hideTheShy_43 : decode cX11_hideTheShy 43 = .ok (.aload_n 0, 1) := by decide +kernel
theorem dX11_hideTheShy_44 : decode cX11_hideTheShy 44 = .ok (.getfield 152, 3) := by decide +kernel
theorem dX11_hideTheShy_47 : decode cX11_hideTheShy 47 = .ok (.if_icmp .gt 14, 3) := by decide +kernel
theorem dX11_hideTheShy_50 : decode cX11_hideTheShy 50 = .ok (.aload_n 2, 1) := by decide +kernel
theorem dX11_hideTheShy_51 : decode cX11_hideTheShy 51 = .ok (.bipush 22, 2) := by decide +kernel
theorem dX11_hideTheShy_53 : decode cX11_hideTheShy 53 = .ok (.aload_n 0, 1) := by decide +kernel
theorem dX11_hideTheShy_54 : decode cX11_hideTheShy 54 = .ok (.getfield 152, 3) := by decide +kernel
theorem dX11_hideTheShy_57 : decode cX11_hideTheShy 57 = .ok (.invokevirtual 184, 3) := by decide +kernel
theorem dX11_hideTheShy_60 : decode cX11_hideTheShy 60 = .ok (.pop, 1) := by decide +kernel
theorem dX11_hideTheShy_61 : decode cX11_hideTheShy 61 = .ok (.iinc 1 1, 3) := by decide +kernel
theorem dX11_hideTheShy_64 : decode cX11_hideTheShy 64 = .ok (.goto (-62), 3) := by decide +kernel
theorem dX11_hideTheShy_67 : decode cX11_hideTheShy 67 = .ok (.return_, 1) := by decide +kernel
theorem dX11_sickenTheCrowd_0 : decode cX11_sickenTheCrowd 0 = .ok (.iconst 0, 1) := by decide +kernel
theorem dX11_sickenTheCrowd_1 : decode cX11_sickenTheCrowd 1 = .ok (.aload_n 0, 1) := by decide +kernel
theorem dX11_sickenTheCrowd_2 : decode cX11_sickenTheCrowd 2 = .ok (.bipush 20, 2) := by decide +kernel
theorem dX11_sickenTheCrowd_4 : decode cX11_sickenTheCrowd 4 = .ok (.invokevirtual 162, 3) := by decide +kernel
theorem dX11_sickenTheCrowd_7 : decode cX11_sickenTheCrowd 7 = .ok (.aload_n 0, 1) := by decide +kernel
theorem dX11_sickenTheCrowd_8 : decode cX11_sickenTheCrowd 8 = .ok (.getfield 76, 3) := by decide +kernel
theorem dX11_sickenTheCrowd_11 : decode cX11_sickenTheCrowd 11 = .ok (.isub, 1) := by decide +kernel
theorem dX11_sickenTheCrowd_12 : decode cX11_sickenTheCrowd 12 = .ok (.invokestatic 416, 3) := by decide +kernel
theorem dX11_sickenTheCrowd_15 : decode cX11_sickenTheCrowd 15 = .ok (.istore_n 1, 1) := by decide +kernel
theorem dX11_sickenTheCrowd_16 : decode cX11_sickenTheCrowd 16 = .ok (.iload_n 1, 1) := by decide +kernel
theorem dX11_sickenTheCrowd_17 : decode cX11_sickenTheCrowd 17 = .ok (.aload_n 0, 1) := by decide +kernel
theorem dX11_sickenTheCrowd_18 : decode cX11_sickenTheCrowd 18 = .ok (.getfield 80, 3) := by decide +kernel
theorem dX11_sickenTheCrowd_21 : decode cX11_sickenTheCrowd 21 = .ok (.imul, 1) := by decide +kernel
theorem dX11_sickenTheCrowd_22 : decode cX11_sickenTheCrowd 22 = .ok (.bipush 100, 2) := by decide +kernel
theorem dX11_sickenTheCrowd_24 : decode cX11_sickenTheCrowd 24 = .ok (.idiv, 1) := by decide +kernel
theorem dX11_sickenTheCrowd_25 : decode cX11_sickenTheCrowd 25 = .ok (.istore_n 2, 1) := by decide +kernel
theorem dX11_sickenTheCrowd_26 : decode cX11_sickenTheCrowd 26 = .ok (.iconst 0, 1) := by decide +kernel
theorem dX11_sickenTheCrowd_27 : decode cX11_sickenTheCrowd 27 = .ok (.istore_n 3, 1) := by decide +kernel
theorem dX11_sickenTheCrowd_28 : decode cX11_sickenTheCrowd 28 = .ok (.iload_n 3, 1) := by decide +kernel
theorem dX11_sickenTheCrowd_29 : decode cX11_sickenTheCrowd 29 = .ok (.aload_n 0, 1) := by decide +kernel
theorem dX11_sickenTheCrowd_30 : decode cX11_sickenTheCrowd 30 = .ok (.getfield 94, 3) := by decide +kernel
theorem dX11_sickenTheCrowd_33 : decode cX11_sickenTheCrowd 33 = .ok (.if_icmp .ge 46, 3) := by decide +kernel
theorem dX11_sickenTheCrowd_36 : decode cX11_sickenTheCrowd 36 = .ok (.iload_n 2, 1) := by decide +kernel
theorem dX11_sickenTheCrowd_37 : decode cX11_sickenTheCrowd 37 = .ok (.ifCond .le 42, 3) := by decide +kernel
theorem dX11_sickenTheCrowd_40 : decode cX11_sickenTheCrowd 40 = .ok (.aload_n 0, 1) := by decide +kernel
theorem dX11_sickenTheCrowd_41 : decode cX11_sickenTheCrowd 41 = .ok (.getfield 18, 3) := by decide +kernel
theorem dX11_sickenTheCrowd_44 : decode cX11_sickenTheCrowd 44 = .ok (.iload_n 3, 1) := by decide +kernel
theorem dX11_sickenTheCrowd_45 : decode cX11_sickenTheCrowd 45 = .ok (.aaload, 1) := by decide +kernel
theorem dX11_sickenTheCrowd_46 : decode cX11_sickenTheCrowd 46 = .ok (.getfield 178, 3) := by decide +kernel
theorem dX11_sickenTheCrowd_49 : decode cX11_sickenTheCrowd 49 = .ok (.bipush 20, 2) := by decide +kernel
theorem dX11_sickenTheCrowd_51 : decode cX11_sickenTheCrowd 51 = .ok (.if_icmp .ne 22, 3) := by decide +kernel
theorem dX11_sickenTheCrowd_54 : decode cX11_sickenTheCrowd 54 = .ok (.aload_n 0, 1) := by decide +kernel
theorem dX11_sickenTheCrowd_55 : decode cX11_sickenTheCrowd 55 = .ok (.getfield 18, 3) := by decide +kernel
theorem dX11_sickenTheCrowd_58 : decode cX11_sickenTheCrowd 58 = .ok (.iload_n 3, 1) := by decide +kernel
theorem dX11_sickenTheCrowd_59 : decode cX11_sickenTheCrowd 59 = .ok (.aaload, 1) := by decide +kernel
theorem dX11_sickenTheCrowd_60 : decode cX11_sickenTheCrowd 60 = .ok (.bipush 21, 2) := by decide +kernel
theorem dX11_sickenTheCrowd_62 : decode cX11_sickenTheCrowd 62 = .ok (.aload_n 0, 1) := by decide +kernel
theorem dX11_sickenTheCrowd_63 : decode cX11_sickenTheCrowd 63 = .ok (.getfield 152, 3) := by decide +kernel
theorem dX11_sickenTheCrowd_66 : decode cX11_sickenTheCrowd 66 = .ok (.invokevirtual 184, 3) := by decide +kernel
theorem dX11_sickenTheCrowd_69 : decode cX11_sickenTheCrowd 69 = .ok (.pop, 1) := by decide +kernel
theorem dX11_sickenTheCrowd_70 : decode cX11_sickenTheCrowd 70 = .ok (.iinc 2 (-1), 3) := by decide +kernel
theorem dX11_sickenTheCrowd_73 : decode cX11_sickenTheCrowd 73 = .ok (.iinc 3 1, 3) := by decide +kernel
theorem dX11_sickenTheCrowd_76 : decode cX11_sickenTheCrowd 76 = .ok (.goto (-48), 3) := by decide +kernel
theorem dX11_sickenTheCrowd_79 : decode cX11_sickenTheCrowd 79 = .ok (.return_, 1) := by decide +kernel
theorem dX11_sendTheSickHome_0 : decode cX11_sendTheSickHome 0 = .ok (.iconst 0, 1) := by decide +kernel
theorem dX11_sendTheSickHome_1 : decode cX11_sendTheSickHome 1 = .ok (.istore_n 1, 1) := by decide +kernel
theorem dX11_sendTheSickHome_2 : decode cX11_sendTheSickHome 2 = .ok (.iload_n 1, 1) := by decide +kernel
theorem dX11_sendTheSickHome_3 : decode cX11_sendTheSickHome 3 = .ok (.aload_n 0, 1) := by decide +kernel
theorem dX11_sendTheSickHome_4 : decode cX11_sendTheSickHome 4 = .ok (.getfield 94, 3) := by decide +kernel
theorem dX11_sendTheSickHome_7 : decode cX11_sendTheSickHome 7 = .ok (.if_icmp .ge 52, 3) := by decide +kernel
theorem dX11_sendTheSickHome_10 : decode cX11_sendTheSickHome 10 = .ok (.aload_n 0, 1) := by decide +kernel
theorem dX11_sendTheSickHome_11 : decode cX11_sendTheSickHome 11 = .ok (.getfield 18, 3) := by decide +kernel
theorem dX11_sendTheSickHome_14 : decode cX11_sendTheSickHome 14 = .ok (.iload_n 1, 1) := by decide +kernel
theorem dX11_sendTheSickHome_15 : decode cX11_sendTheSickHome 15 = .ok (.aaload, 1) := by decide +kernel
theorem dX11_sendTheSickHome_16 : decode cX11_sendTheSickHome 16 = .ok (.astore_n 2, 1) := by decide +kernel
theorem dX11_sendTheSickHome_17 : decode cX11_sendTheSickHome 17 = .ok (.aload_n 2, 1) := by decide +kernel
theorem dX11_sendTheSickHome_18 : decode cX11_sendTheSickHome 18 = .ok (.getfield 178, 3) := by decide +kernel
theorem dX11_sendTheSickHome_21 : decode cX11_sendTheSickHome 21 = .ok (.bipush 21, 2) := by decide +kernel
theorem dX11_sendTheSickHome_23 : decode cX11_sendTheSickHome 23 = .ok (.if_icmp .ne 30, 3) := by decide +kernel
theorem dX11_sendTheSickHome_26 : decode cX11_sendTheSickHome 26 = .ok (.aload_n 2, 1) := by decide +kernel
theorem dX11_sendTheSickHome_27 : decode cX11_sendTheSickHome 27 = .ok (.invokevirtual 421, 3) := by decide +kernel
theorem dX11_sendTheSickHome_30 : decode cX11_sendTheSickHome 30 = .ok (.aload_n 0, 1) := by decide +kernel
theorem dX11_sendTheSickHome_31 : decode cX11_sendTheSickHome 31 = .ok (.getfield 152, 3) := by decide +kernel
theorem dX11_sendTheSickHome_34 : decode cX11_sendTheSickHome 34 = .ok (.bipush 10, 2) := by decide +kernel
theorem dX11_sendTheSickHome_36 : decode cX11_sendTheSickHome 36 = .ok (.isub, 1) := by decide +kernel
theorem dX11_sendTheSickHome_37 : decode cX11_sendTheSickHome 37 = .ok (.if_icmp .ne 16, 3) := by decide +kernel
theorem dX11_sendTheSickHome_40 : decode cX11_sendTheSickHome 40 = .ok (.aload_n 2, 1) := by decide +kernel
theorem dX11_sendTheSickHome_41 : decode cX11_sendTheSickHome 41 = .ok (.aload_n 2, 1) := by decide +kernel
theorem dX11_sendTheSickHome_42 : decode cX11_sendTheSickHome 42 = .ok (.getfield 145, 3) := by decide +kernel
theorem dX11_sendTheSickHome_45 : decode cX11_sendTheSickHome 45 = .ok (.aload_n 0, 1) := by decide +kernel
theorem dX11_sendTheSickHome_46 : decode cX11_sendTheSickHome 46 = .ok (.getfield 152, 3) := by decide +kernel
theorem dX11_sendTheSickHome_49 : decode cX11_sendTheSickHome 49 = .ok (.invokevirtual 184, 3) := by decide +kernel
theorem dX11_sendTheSickHome_52 : decode cX11_sendTheSickHome 52 = .ok (.pop, 1) := by decide +kernel
theorem dX11_sendTheSickHome_53 : decode cX11_sendTheSickHome 53 = .ok (.iinc 1 1, 3) := by decide +kernel
theorem dX11_sendTheSickHome_56 : decode cX11_sendTheSickHome 56 = .ok (.goto (-54), 3) := by decide +kernel
theorem dX11_sendTheSickHome_59 : decode cX11_sendTheSickHome 59 = .ok (.return_, 1) := by decide +kernel
theorem dX11_actInForce_0 : decode cX11_actInForce 0 = .ok (.bipush (-9), 2) := by decide +kernel
theorem dX11_actInForce_2 : decode cX11_actInForce 2 = .ok (.istore_n 2, 1) := by decide +kernel
theorem dX11_actInForce_3 : decode cX11_actInForce 3 = .ok (.iconst 0, 1) := by decide +kernel
theorem dX11_actInForce_4 : decode cX11_actInForce 4 = .ok (.istore_n 3, 1) := by decide +kernel
theorem dX11_actInForce_5 : decode cX11_actInForce 5 = .ok (.iconst 0, 1) := by decide +kernel
theorem dX11_actInForce_6 : decode cX11_actInForce 6 = .ok (.istore 4, 2) := by decide +kernel
theorem dX11_actInForce_8 : decode cX11_actInForce 8 = .ok (.iload 4, 2) := by decide +kernel
theorem dX11_actInForce_10 : decode cX11_actInForce 10 = .ok (.aload_n 0, 1) := by decide +kernel
theorem dX11_actInForce_11 : decode cX11_actInForce 11 = .ok (.getfield 219, 3) := by decide +kernel
theorem dX11_actInForce_14 : decode cX11_actInForce 14 = .ok (.if_icmp .ge 55, 3) := by decide +kernel
theorem dX11_actInForce_17 : decode cX11_actInForce 17 = .ok (.aload_n 0, 1) := by decide +kernel
theorem dX11_actInForce_18 : decode cX11_actInForce 18 = .ok (.getfield 30, 3) := by decide +kernel
theorem dX11_actInForce_21 : decode cX11_actInForce 21 = .ok (.iload 4, 2) := by decide +kernel
theorem dX11_actInForce_23 : decode cX11_actInForce 23 = .ok (.aaload, 1) := by decide +kernel
theorem dX11_actInForce_24 : decode cX11_actInForce 24 = .ok (.astore 5, 2) := by decide +kernel
theorem dX11_actInForce_26 : decode cX11_actInForce 26 = .ok (.aload 5, 2) := by decide +kernel
theorem dX11_actInForce_28 : decode cX11_actInForce 28 = .ok (.getfield 424, 3) := by decide +kernel
theorem dX11_actInForce_31 : decode cX11_actInForce 31 = .ok (.iload_n 1, 1) := by decide +kernel
theorem dX11_actInForce_32 : decode cX11_actInForce 32 = .ok (.if_icmp .gt 31, 3) := by decide +kernel
theorem dX11_actInForce_35 : decode cX11_actInForce 35 = .ok (.aload 5, 2) := by decide +kernel
theorem dX11_actInForce_37 : decode cX11_actInForce 37 = .ok (.getfield 424, 3) := by decide +kernel
theorem dX11_actInForce_40 : decode cX11_actInForce 40 = .ok (.iload_n 3, 1) := by decide +kernel
theorem dX11_actInForce_41 : decode cX11_actInForce 41 = .ok (.if_icmp .lt 22, 3) := by decide +kernel
theorem dX11_actInForce_44 : decode cX11_actInForce 44 = .ok (.aload 5, 2) := by decide +kernel
theorem dX11_actInForce_46 : decode cX11_actInForce 46 = .ok (.invokevirtual 234, 3) := by decide +kernel
theorem dX11_actInForce_49 : decode cX11_actInForce 49 = .ok (.bipush (-9), 2) := by decide +kernel
theorem dX11_actInForce_51 : decode cX11_actInForce 51 = .ok (.if_icmp .ne 12, 3) := by decide +kernel
theorem dX11_actInForce_54 : decode cX11_actInForce 54 = .ok (.iload 4, 2) := by decide +kernel
theorem dX11_actInForce_56 : decode cX11_actInForce 56 = .ok (.istore_n 2, 1) := by decide +kernel
theorem dX11_actInForce_57 : decode cX11_actInForce 57 = .ok (.aload 5, 2) := by decide +kernel
theorem dX11_actInForce_59 : decode cX11_actInForce 59 = .ok (.getfield 424, 3) := by decide +kernel
theorem dX11_actInForce_62 : decode cX11_actInForce 62 = .ok (.istore_n 3, 1) := by decide +kernel
theorem dX11_actInForce_63 : decode cX11_actInForce 63 = .ok (.iinc 4 1, 3) := by decide +kernel
theorem dX11_actInForce_66 : decode cX11_actInForce 66 = .ok (.goto (-58), 3) := by decide +kernel
theorem dX11_actInForce_69 : decode cX11_actInForce 69 = .ok (.iload_n 2, 1) := by decide +kernel
theorem dX11_actInForce_70 : decode cX11_actInForce 70 = .ok (.ireturn, 1) := by decide +kernel
theorem dX11_mayAsShown_0 : decode cX11_mayAsShown 0 = .ok (.aload_n 0, 1) := by decide +kernel
theorem dX11_mayAsShown_1 : decode cX11_mayAsShown 1 = .ok (.aload_n 0, 1) := by decide +kernel
theorem dX11_mayAsShown_2 : decode cX11_mayAsShown 2 = .ok (.aload_n 0, 1) := by decide +kernel
theorem dX11_mayAsShown_3 : decode cX11_mayAsShown 3 = .ok (.getfield 152, 3) := by decide +kernel
theorem dX11_mayAsShown_6 : decode cX11_mayAsShown 6 = .ok (.invokevirtual 238, 3) := by decide +kernel
theorem dX11_mayAsShown_9 : decode cX11_mayAsShown 9 = .ok (.invokevirtual 224, 3) := by decide +kernel
theorem dX11_mayAsShown_12 : decode cX11_mayAsShown 12 = .ok (.astore_n 3, 1) := by decide +kernel
theorem dX11_mayAsShown_13 : decode cX11_mayAsShown 13 = .ok (.aload_n 3, 1) := by decide +kernel
theorem dX11_mayAsShown_14 : decode cX11_mayAsShown 14 = .ok (.ifnonnull 5, 3) := by decide +kernel
theorem dX11_mayAsShown_17 : decode cX11_mayAsShown 17 = .ok (.iconst 0, 1) := by decide +kernel
theorem dX11_mayAsShown_18 : decode cX11_mayAsShown 18 = .ok (.ireturn, 1) := by decide +kernel
theorem dX11_mayAsShown_19 : decode cX11_mayAsShown 19 = .ok (.aload_n 0, 1) := by decide +kernel
theorem dX11_mayAsShown_20 : decode cX11_mayAsShown 20 = .ok (.iload_n 2, 1) := by decide +kernel
theorem dX11_mayAsShown_21 : decode cX11_mayAsShown 21 = .ok (.invokevirtual 204, 3) := by decide +kernel
theorem dX11_mayAsShown_24 : decode cX11_mayAsShown 24 = .ok (.astore 4, 2) := by decide +kernel
theorem dX11_mayAsShown_26 : decode cX11_mayAsShown 26 = .ok (.aload_n 3, 1) := by decide +kernel
theorem dX11_mayAsShown_27 : decode cX11_mayAsShown 27 = .ok (.aload_n 1, 1) := by decide +kernel
theorem dX11_mayAsShown_28 : decode cX11_mayAsShown 28 = .ok (.aload 4, 2) := by decide +kernel
theorem dX11_mayAsShown_30 : decode cX11_mayAsShown 30 = .ok (.ifnull 20, 3) := by decide +kernel
theorem dX11_mayAsShown_33 : decode cX11_mayAsShown 33 = .ok (.aload 4, 2) := by decide +kernel
theorem dX11_mayAsShown_35 : decode cX11_mayAsShown 35 = .ok (.aload_n 1, 1) := by decide +kernel
theorem dX11_mayAsShown_36 : decode cX11_mayAsShown 36 = .ok (.aload_n 0, 1) := by decide +kernel
theorem dX11_mayAsShown_37 : decode cX11_mayAsShown 37 = .ok (.getfield 152, 3) := by decide +kernel
theorem dX11_mayAsShown_40 : decode cX11_mayAsShown 40 = .ok (.invokevirtual 211, 3) := by decide +kernel
theorem dX11_mayAsShown_43 : decode cX11_mayAsShown 43 = .ok (.ifCond .le 7, 3) := by decide +kernel
theorem dX11_mayAsShown_46 : decode cX11_mayAsShown 46 = .ok (.iconst 1, 1) := by decide +kernel
theorem dX11_mayAsShown_47 : decode cX11_mayAsShown 47 = .ok (.goto 4, 3) := by decide +kernel
theorem dX11_mayAsShown_50 : decode cX11_mayAsShown 50 = .ok (.iconst 0, 1) := by decide +kernel
theorem dX11_mayAsShown_51 : decode cX11_mayAsShown 51 = .ok (.invokevirtual 425, 3) := by decide +kernel
theorem dX11_mayAsShown_54 : decode cX11_mayAsShown 54 = .ok (.ireturn, 1) := by decide +kernel
theorem dX11_mayInTruth_0 : decode cX11_mayInTruth 0 = .ok (.aload_n 0, 1) := by decide +kernel
theorem dX11_mayInTruth_1 : decode cX11_mayInTruth 1 = .ok (.aload_n 0, 1) := by decide +kernel
theorem dX11_mayInTruth_2 : decode cX11_mayInTruth 2 = .ok (.aload_n 0, 1) := by decide +kernel
theorem dX11_mayInTruth_3 : decode cX11_mayInTruth 3 = .ok (.aload_n 0, 1) := by decide +kernel
theorem dX11_mayInTruth_4 : decode cX11_mayInTruth 4 = .ok (.getfield 152, 3) := by decide +kernel
theorem dX11_mayInTruth_7 : decode cX11_mayInTruth 7 = .ok (.invokevirtual 238, 3) := by decide +kernel
theorem dX11_mayInTruth_10 : decode cX11_mayInTruth 10 = .ok (.invokevirtual 224, 3) := by decide +kernel
theorem dX11_mayInTruth_13 : decode cX11_mayInTruth 13 = .ok (.iload_n 1, 1) := by decide +kernel
theorem dX11_mayInTruth_14 : decode cX11_mayInTruth 14 = .ok (.invokevirtual 429, 3) := by decide +kernel
theorem dX11_mayInTruth_17 : decode cX11_mayInTruth 17 = .ok (.ireturn, 1) := by decide +kernel
theorem dX11_holdsInTruth_0 : decode cX11_holdsInTruth 0 = .ok (.aload_n 0, 1) := by decide +kernel
theorem dX11_holdsInTruth_1 : decode cX11_holdsInTruth 1 = .ok (.iload_n 2, 1) := by decide +kernel
theorem dX11_holdsInTruth_2 : decode cX11_holdsInTruth 2 = .ok (.invokevirtual 123, 3) := by decide +kernel
theorem dX11_holdsInTruth_5 : decode cX11_holdsInTruth 5 = .ok (.astore_n 3, 1) := by decide +kernel
theorem dX11_holdsInTruth_6 : decode cX11_holdsInTruth 6 = .ok (.aload_n 1, 1) := by decide +kernel
theorem dX11_holdsInTruth_7 : decode cX11_holdsInTruth 7 = .ok (.ifnull 25, 3) := by decide +kernel
theorem dX11_holdsInTruth_10 : decode cX11_holdsInTruth 10 = .ok (.aload_n 3, 1) := by decide +kernel
theorem dX11_holdsInTruth_11 : decode cX11_holdsInTruth 11 = .ok (.ifnull 21, 3) := by decide +kernel
theorem dX11_holdsInTruth_14 : decode cX11_holdsInTruth 14 = .ok (.aload_n 1, 1) := by decide +kernel
theorem dX11_holdsInTruth_15 : decode cX11_holdsInTruth 15 = .ok (.aload_n 3, 1) := by decide +kernel
theorem dX11_holdsInTruth_16 : decode cX11_holdsInTruth 16 = .ok (.aload_n 0, 1) := by decide +kernel
theorem dX11_holdsInTruth_17 : decode cX11_holdsInTruth 17 = .ok (.aload_n 3, 1) := by decide +kernel
theorem dX11_holdsInTruth_18 : decode cX11_holdsInTruth 18 = .ok (.iload_n 2, 1) := by decide +kernel
theorem dX11_holdsInTruth_19 : decode cX11_holdsInTruth 19 = .ok (.invokevirtual 433, 3) := by decide +kernel
theorem dX11_holdsInTruth_22 : decode cX11_holdsInTruth 22 = .ok (.invokevirtual 425, 3) := by decide +kernel
theorem dX11_holdsInTruth_25 : decode cX11_holdsInTruth 25 = .ok (.ifCond .eq 7, 3) := by decide +kernel
theorem dX11_holdsInTruth_28 : decode cX11_holdsInTruth 28 = .ok (.iconst 1, 1) := by decide +kernel
theorem dX11_holdsInTruth_29 : decode cX11_holdsInTruth 29 = .ok (.goto 4, 3) := by decide +kernel
theorem dX11_holdsInTruth_32 : decode cX11_holdsInTruth 32 = .ok (.iconst 0, 1) := by decide +kernel
theorem dX11_holdsInTruth_33 : decode cX11_holdsInTruth 33 = .ok (.ireturn, 1) := by decide +kernel
theorem dX11_isCoveredInTruth_0 : decode cX11_isCoveredInTruth 0 = .ok (.iconst 0, 1) := by decide +kernel
theorem dX11_isCoveredInTruth_1 : decode cX11_isCoveredInTruth 1 = .ok (.istore_n 3, 1) := by decide +kernel
theorem dX11_isCoveredInTruth_2 : decode cX11_isCoveredInTruth 2 = .ok (.iload_n 3, 1) := by decide +kernel
theorem dX11_isCoveredInTruth_3 : decode cX11_isCoveredInTruth 3 = .ok (.aload_n 0, 1) := by decide +kernel
theorem dX11_isCoveredInTruth_4 : decode cX11_isCoveredInTruth 4 = .ok (.getfield 193, 3) := by decide +kernel
theorem dX11_isCoveredInTruth_7 : decode cX11_isCoveredInTruth 7 = .ok (.if_icmp .ge 41, 3) := by decide +kernel
theorem dX11_isCoveredInTruth_10 : decode cX11_isCoveredInTruth 10 = .ok (.aload_n 0, 1) := by decide +kernel
theorem dX11_isCoveredInTruth_11 : decode cX11_isCoveredInTruth 11 = .ok (.getfield 24, 3) := by decide +kernel
theorem dX11_isCoveredInTruth_14 : decode cX11_isCoveredInTruth 14 = .ok (.iload_n 3, 1) := by decide +kernel
theorem dX11_isCoveredInTruth_15 : decode cX11_isCoveredInTruth 15 = .ok (.aaload, 1) := by decide +kernel
theorem dX11_isCoveredInTruth_16 : decode cX11_isCoveredInTruth 16 = .ok (.getfield 436, 3) := by decide +kernel
theorem dX11_isCoveredInTruth_19 : decode cX11_isCoveredInTruth 19 = .ok (.iload_n 2, 1) := by decide +kernel
theorem dX11_isCoveredInTruth_20 : decode cX11_isCoveredInTruth 20 = .ok (.if_icmp .ne 22, 3) := by decide +kernel
theorem dX11_isCoveredInTruth_23 : decode cX11_isCoveredInTruth 23 = .ok (.aload_n 0, 1) := by decide +kernel
theorem dX11_isCoveredInTruth_24 : decode cX11_isCoveredInTruth 24 = .ok (.getfield 24, 3) := by decide +kernel
theorem dX11_isCoveredInTruth_27 : decode cX11_isCoveredInTruth 27 = .ok (.iload_n 3, 1) := by decide +kernel
theorem dX11_isCoveredInTruth_28 : decode cX11_isCoveredInTruth 28 = .ok (.aaload, 1) := by decide +kernel
theorem dX11_isCoveredInTruth_29 : decode cX11_isCoveredInTruth 29 = .ok (.aload_n 1, 1) := by decide +kernel
theorem dX11_isCoveredInTruth_30 : decode cX11_isCoveredInTruth 30 = .ok (.aload_n 0, 1) := by decide +kernel
theorem dX11_isCoveredInTruth_31 : decode cX11_isCoveredInTruth 31 = .ok (.getfield 152, 3) := by decide +kernel
theorem dX11_isCoveredInTruth_34 : decode cX11_isCoveredInTruth 34 = .ok (.invokevirtual 211, 3) := by decide +kernel
theorem dX11_isCoveredInTruth_37 : decode cX11_isCoveredInTruth 37 = .ok (.ifCond .le 5, 3) := by decide +kernel
theorem dX11_isCoveredInTruth_40 : decode cX11_isCoveredInTruth 40 = .ok (.iconst 1, 1) := by decide +kernel
theorem dX11_isCoveredInTruth_41 : decode cX11_isCoveredInTruth 41 = .ok (.ireturn, 1) := by decide +kernel
theorem dX11_isCoveredInTruth_42 : decode cX11_isCoveredInTruth 42 = .ok (.iinc 3 1, 3) := by decide +kernel
theorem dX11_isCoveredInTruth_45 : decode cX11_isCoveredInTruth 45 = .ok (.goto (-43), 3) := by decide +kernel
theorem dX11_isCoveredInTruth_48 : decode cX11_isCoveredInTruth 48 = .ok (.iconst 0, 1) := by decide +kernel
theorem dX11_isCoveredInTruth_49 : decode cX11_isCoveredInTruth 49 = .ok (.ireturn, 1) := by decide +kernel
theorem dX11_countTheTakeable_0 : decode cX11_countTheTakeable 0 = .ok (.aload_n 0, 1) := by decide +kernel
theorem dX11_countTheTakeable_1 : decode cX11_countTheTakeable 1 = .ok (.getfield 65, 3) := by decide +kernel
theorem dX11_countTheTakeable_4 : decode cX11_countTheTakeable 4 = .ok (.invokevirtual 439, 3) := by decide +kernel
theorem dX11_countTheTakeable_7 : decode cX11_countTheTakeable 7 = .ok (.aload_n 0, 1) := by decide +kernel
theorem dX11_countTheTakeable_8 : decode cX11_countTheTakeable 8 = .ok (.aload_n 0, 1) := by decide +kernel
theorem dX11_countTheTakeable_9 : decode cX11_countTheTakeable 9 = .ok (.aload_n 0, 1) := by decide +kernel
theorem dX11_countTheTakeable_10 : decode cX11_countTheTakeable 10 = .ok (.getfield 152, 3) := by decide +kernel
theorem dX11_countTheTakeable_13 : decode cX11_countTheTakeable 13 = .ok (.invokevirtual 238, 3) := by decide +kernel
theorem dX11_countTheTakeable_16 : decode cX11_countTheTakeable 16 = .ok (.invokevirtual 224, 3) := by decide +kernel
theorem dX11_countTheTakeable_19 : decode cX11_countTheTakeable 19 = .ok (.astore_n 1, 1) := by decide +kernel
theorem dX11_countTheTakeable_20 : decode cX11_countTheTakeable 20 = .ok (.iconst 0, 1) := by decide +kernel
theorem dX11_countTheTakeable_21 : decode cX11_countTheTakeable 21 = .ok (.istore_n 2, 1) := by decide +kernel
theorem dX11_countTheTakeable_22 : decode cX11_countTheTakeable 22 = .ok (.iload_n 2, 1) := by decide +kernel
theorem dX11_countTheTakeable_23 : decode cX11_countTheTakeable 23 = .ok (.aload_n 0, 1) := by decide +kernel
theorem dX11_countTheTakeable_24 : decode cX11_countTheTakeable 24 = .ok (.getfield 94, 3) := by decide +kernel
theorem dX11_countTheTakeable_27 : decode cX11_countTheTakeable 27 = .ok (.if_icmp .ge 49, 3) := by decide +kernel
theorem dX11_countTheTakeable_30 : decode cX11_countTheTakeable 30 = .ok (.aload_n 0, 1) := by decide +kernel
theorem dX11_countTheTakeable_31 : decode cX11_countTheTakeable 31 = .ok (.getfield 18, 3) := by decide +kernel
theorem dX11_countTheTakeable_34 : decode cX11_countTheTakeable 34 = .ok (.iload_n 2, 1) := by decide +kernel
theorem dX11_countTheTakeable_35 : decode cX11_countTheTakeable 35 = .ok (.aaload, 1) := by decide +kernel
theorem dX11_countTheTakeable_36 : decode cX11_countTheTakeable 36 = .ok (.getfield 178, 3) := by decide +kernel
theorem dX11_countTheTakeable_39 : decode cX11_countTheTakeable 39 = .ok (.invokestatic 349, 3) := by decide +kernel
theorem dX11_countTheTakeable_42 : decode cX11_countTheTakeable 42 = .ok (.ifCond .eq 28, 3) := by decide +kernel
theorem dX11_countTheTakeable_45 : decode cX11_countTheTakeable 45 = .ok (.aload_n 0, 1) := by decide +kernel
theorem dX11_countTheTakeable_46 : decode cX11_countTheTakeable 46 = .ok (.aload_n 1, 1) := by decide +kernel
theorem dX11_countTheTakeable_47 : decode cX11_countTheTakeable 47 = .ok (.iload_n 2, 1) := by decide +kernel
theorem dX11_countTheTakeable_48 : decode cX11_countTheTakeable 48 = .ok (.invokevirtual 429, 3) := by decide +kernel
theorem dX11_countTheTakeable_51 : decode cX11_countTheTakeable 51 = .ok (.ifCond .eq 19, 3) := by decide +kernel
theorem dX11_countTheTakeable_54 : decode cX11_countTheTakeable 54 = .ok (.aload_n 0, 1) := by decide +kernel
theorem dX11_countTheTakeable_55 : decode cX11_countTheTakeable 55 = .ok (.getfield 65, 3) := by decide +kernel
theorem dX11_countTheTakeable_58 : decode cX11_countTheTakeable 58 = .ok (.aload_n 0, 1) := by decide +kernel
theorem dX11_countTheTakeable_59 : decode cX11_countTheTakeable 59 = .ok (.getfield 18, 3) := by decide +kernel
theorem dX11_countTheTakeable_62 : decode cX11_countTheTakeable 62 = .ok (.iload_n 2, 1) := by decide +kernel
theorem dX11_countTheTakeable_63 : decode cX11_countTheTakeable 63 = .ok (.aaload, 1) := by decide +kernel
theorem dX11_countTheTakeable_64 : decode cX11_countTheTakeable 64 = .ok (.getfield 178, 3) := by decide +kernel
theorem dX11_countTheTakeable_67 : decode cX11_countTheTakeable 67 = .ok (.invokevirtual 442, 3) := by decide +kernel
theorem dX11_countTheTakeable_70 : decode cX11_countTheTakeable 70 = .ok (.iinc 2 1, 3) := by decide +kernel
theorem dX11_countTheTakeable_73 : decode cX11_countTheTakeable 73 = .ok (.goto (-51), 3) := by decide +kernel
theorem dX11_countTheTakeable_76 : decode cX11_countTheTakeable 76 = .ok (.return_, 1) := by decide +kernel
theorem dX11_isWronged_0 : decode cX11_isWronged 0 = .ok (.aload_n 1, 1) := by decide +kernel
theorem dX11_isWronged_1 : decode cX11_isWronged 1 = .ok (.getfield 260, 3) := by decide +kernel
theorem dX11_isWronged_4 : decode cX11_isWronged 4 = .ok (.ifnull 13, 3) := by decide +kernel
theorem dX11_isWronged_7 : decode cX11_isWronged 7 = .ok (.aload_n 1, 1) := by decide +kernel
theorem dX11_isWronged_8 : decode cX11_isWronged 8 = .ok (.getfield 260, 3) := by decide +kernel
theorem dX11_isWronged_11 : decode cX11_isWronged 11 = .ok (.getfield 286, 3) := by decide +kernel
theorem dX11_isWronged_14 : decode cX11_isWronged 14 = .ok (.ifCond .eq 5, 3) := by decide +kernel
theorem dX11_isWronged_17 : decode cX11_isWronged 17 = .ok (.iconst 0, 1) := by decide +kernel
theorem dX11_isWronged_18 : decode cX11_isWronged 18 = .ok (.ireturn, 1) := by decide +kernel
theorem dX11_isWronged_19 : decode cX11_isWronged 19 = .ok (.aload_n 1, 1) := by decide +kernel
theorem dX11_isWronged_20 : decode cX11_isWronged 20 = .ok (.getfield 178, 3) := by decide +kernel
theorem dX11_isWronged_23 : decode cX11_isWronged 23 = .ok (.bipush 20, 2) := by decide +kernel
theorem dX11_isWronged_25 : decode cX11_isWronged 25 = .ok (.if_icmp .eq 24, 3) := by decide +kernel
theorem dX11_isWronged_28 : decode cX11_isWronged 28 = .ok (.aload_n 1, 1) := by decide +kernel
theorem dX11_isWronged_29 : decode cX11_isWronged 29 = .ok (.getfield 178, 3) := by decide +kernel
theorem dX11_isWronged_32 : decode cX11_isWronged 32 = .ok (.bipush 21, 2) := by decide +kernel
theorem dX11_isWronged_34 : decode cX11_isWronged 34 = .ok (.if_icmp .eq 15, 3) := by decide +kernel
theorem dX11_isWronged_37 : decode cX11_isWronged 37 = .ok (.aload_n 0, 1) := by decide +kernel
theorem dX11_isWronged_38 : decode cX11_isWronged 38 = .ok (.iconst 0, 1) := by decide +kernel
theorem dX11_isWronged_39 : decode cX11_isWronged 39 = .ok (.aload_n 1, 1) := by decide +kernel
theorem dX11_isWronged_40 : decode cX11_isWronged 40 = .ok (.getfield 178, 3) := by decide +kernel
theorem dX11_isWronged_43 : decode cX11_isWronged 43 = .ok (.invokevirtual 408, 3) := by decide +kernel
theorem dX11_isWronged_46 : decode cX11_isWronged 46 = .ok (.ifCond .eq 7, 3) := by decide +kernel
theorem dX11_isWronged_49 : decode cX11_isWronged 49 = .ok (.iconst 1, 1) := by decide +kernel
theorem dX11_isWronged_50 : decode cX11_isWronged 50 = .ok (.goto 4, 3) := by decide +kernel
theorem dX11_isWronged_53 : decode cX11_isWronged 53 = .ok (.iconst 0, 1) := by decide +kernel
theorem dX11_isWronged_54 : decode cX11_isWronged 54 = .ok (.ireturn, 1) := by decide +kernel
theorem dX11_spareOf_0 : decode cX11_spareOf 0 = .ok (.iconst 0, 1) := by decide +kernel
theorem dX11_spareOf_1 : decode cX11_spareOf 1 = .ok (.iload_n 1, 1) := by decide +kernel
theorem dX11_spareOf_2 : decode cX11_spareOf 2 = .ok (.aload_n 0, 1) := by decide +kernel
theorem dX11_spareOf_3 : decode cX11_spareOf 3 = .ok (.getfield 333, 3) := by decide +kernel
theorem dX11_spareOf_6 : decode cX11_spareOf 6 = .ok (.isub, 1) := by decide +kernel
theorem dX11_spareOf_7 : decode cX11_spareOf 7 = .ok (.iload_n 2, 1) := by decide +kernel
theorem dX11_spareOf_8 : decode cX11_spareOf 8 = .ok (.isub, 1) := by decide +kernel
theorem dX11_spareOf_9 : decode cX11_spareOf 9 = .ok (.invokestatic 416, 3) := by decide +kernel
theorem dX11_spareOf_12 : decode cX11_spareOf 12 = .ok (.ireturn, 1) := by decide +kernel
theorem dX11_kingsAtHome_0 : decode cX11_kingsAtHome 0 = .ok (.iconst 0, 1) := by decide +kernel
theorem dX11_kingsAtHome_1 : decode cX11_kingsAtHome 1 = .ok (.istore_n 1, 1) := by decide +kernel
theorem dX11_kingsAtHome_2 : decode cX11_kingsAtHome 2 = .ok (.iconst 0, 1) := by decide +kernel
theorem dX11_kingsAtHome_3 : decode cX11_kingsAtHome 3 = .ok (.istore_n 2, 1) := by decide +kernel
theorem dX11_kingsAtHome_4 : decode cX11_kingsAtHome 4 = .ok (.iload_n 2, 1) := by decide +kernel
theorem dX11_kingsAtHome_5 : decode cX11_kingsAtHome 5 = .ok (.aload_n 0, 1) := by decide +kernel
theorem dX11_kingsAtHome_6 : decode cX11_kingsAtHome 6 = .ok (.getfield 314, 3) := by decide +kernel
theorem dX11_kingsAtHome_9 : decode cX11_kingsAtHome 9 = .ok (.if_icmp .ge 39, 3) := by decide +kernel
theorem dX11_kingsAtHome_12 : decode cX11_kingsAtHome 12 = .ok (.aload_n 0, 1) := by decide +kernel
theorem dX11_kingsAtHome_13 : decode cX11_kingsAtHome 13 = .ok (.getfield 43, 3) := by decide +kernel
theorem dX11_kingsAtHome_16 : decode cX11_kingsAtHome 16 = .ok (.iload_n 2, 1) := by decide +kernel
theorem dX11_kingsAtHome_17 : decode cX11_kingsAtHome 17 = .ok (.aaload, 1) := by decide +kernel
theorem dX11_kingsAtHome_18 : decode cX11_kingsAtHome 18 = .ok (.getfield 324, 3) := by decide +kernel
theorem dX11_kingsAtHome_21 : decode cX11_kingsAtHome 21 = .ok (.ifCond .ne 21, 3) := by decide +kernel
theorem dX11_kingsAtHome_24 : decode cX11_kingsAtHome 24 = .ok (.aload_n 0, 1) := by decide +kernel
theorem dX11_kingsAtHome_25 : decode cX11_kingsAtHome 25 = .ok (.getfield 43, 3) := by decide +kernel
theorem dX11_kingsAtHome_28 : decode cX11_kingsAtHome 28 = .ok (.iload_n 2, 1) := by decide +kernel
theorem dX11_kingsAtHome_29 : decode cX11_kingsAtHome 29 = .ok (.aaload, 1) := by decide +kernel
theorem dX11_kingsAtHome_30 : decode cX11_kingsAtHome 30 = .ok (.getfield 336, 3) := by decide +kernel
theorem dX11_kingsAtHome_33 : decode cX11_kingsAtHome 33 = .ok (.ifCond .eq 9, 3) := by decide +kernel
theorem dX11_kingsAtHome_36 : decode cX11_kingsAtHome 36 = .ok (.iload_n 1, 1) := by decide +kernel
theorem dX11_kingsAtHome_37 : decode cX11_kingsAtHome 37 = .ok (.iconst 1, 1) := by decide +kernel
theorem dX11_kingsAtHome_38 : decode cX11_kingsAtHome 38 = .ok (.iload_n 2, 1) := by decide +kernel
theorem dX11_kingsAtHome_39 : decode cX11_kingsAtHome 39 = .ok (.ishl, 1) := by decide +kernel
theorem dX11_kingsAtHome_40 : decode cX11_kingsAtHome 40 = .ok (.ior, 1) := by decide +kernel
theorem dX11_kingsAtHome_41 : decode cX11_kingsAtHome 41 = .ok (.istore_n 1, 1) := by decide +kernel
theorem dX11_kingsAtHome_42 : decode cX11_kingsAtHome 42 = .ok (.iinc 2 1, 3) := by decide +kernel
theorem dX11_kingsAtHome_45 : decode cX11_kingsAtHome 45 = .ok (.goto (-41), 3) := by decide +kernel
theorem dX11_kingsAtHome_48 : decode cX11_kingsAtHome 48 = .ok (.iload_n 1, 1) := by decide +kernel
theorem dX11_kingsAtHome_49 : decode cX11_kingsAtHome 49 = .ok (.ireturn, 1) := by decide +kernel
theorem dX11_musterLevy_0 : decode cX11_musterLevy 0 = .ok (.aload_n 0, 1) := by decide +kernel
theorem dX11_musterLevy_1 : decode cX11_musterLevy 1 = .ok (.getfield 72, 3) := by decide +kernel
theorem dX11_musterLevy_4 : decode cX11_musterLevy 4 = .ok (.aload_n 0, 1) := by decide +kernel
theorem dX11_musterLevy_5 : decode cX11_musterLevy 5 = .ok (.bipush 20, 2) := by decide +kernel
theorem dX11_musterLevy_7 : decode cX11_musterLevy 7 = .ok (.invokevirtual 162, 3) := by decide +kernel
theorem dX11_musterLevy_10 : decode cX11_musterLevy 10 = .ok (.aload_n 0, 1) := by decide +kernel
theorem dX11_musterLevy_11 : decode cX11_musterLevy 11 = .ok (.bipush 20, 2) := by decide +kernel
theorem dX11_musterLevy_13 : decode cX11_musterLevy 13 = .ok (.invokevirtual 339, 3) := by decide +kernel
theorem dX11_musterLevy_16 : decode cX11_musterLevy 16 = .ok (.invokevirtual 445, 3) := by decide +kernel
theorem dX11_musterLevy_19 : decode cX11_musterLevy 19 = .ok (.iconst 0, 1) := by decide +kernel
theorem dX11_musterLevy_20 : decode cX11_musterLevy 20 = .ok (.istore_n 2, 1) := by decide +kernel
theorem dX11_musterLevy_21 : decode cX11_musterLevy 21 = .ok (.iload_n 2, 1) := by decide +kernel
theorem dX11_musterLevy_22 : decode cX11_musterLevy 22 = .ok (.aload_n 0, 1) := by decide +kernel
theorem dX11_musterLevy_23 : decode cX11_musterLevy 23 = .ok (.getfield 314, 3) := by decide +kernel
theorem dX11_musterLevy_26 : decode cX11_musterLevy 26 = .ok (.if_icmp .ge 83, 3) := by decide +kernel
theorem dX11_musterLevy_29 : decode cX11_musterLevy 29 = .ok (.aload_n 0, 1) := by decide +kernel
theorem dX11_musterLevy_30 : decode cX11_musterLevy 30 = .ok (.getfield 43, 3) := by decide +kernel
theorem dX11_musterLevy_33 : decode cX11_musterLevy 33 = .ok (.iload_n 2, 1) := by decide +kernel
theorem dX11_musterLevy_34 : decode cX11_musterLevy 34 = .ok (.aaload, 1) := by decide +kernel
theorem dX11_musterLevy_35 : decode cX11_musterLevy 35 = .ok (.astore_n 3, 1) := by decide +kernel
theorem dX11_musterLevy_36 : decode cX11_musterLevy 36 = .ok (.aload_n 3, 1) := by decide +kernel
theorem dX11_musterLevy_37 : decode cX11_musterLevy 37 = .ok (.getfield 336, 3) := by decide +kernel
theorem dX11_musterLevy_40 : decode cX11_musterLevy 40 = .ok (.ifCond .ne 6, 3) := by decide +kernel
theorem dX11_musterLevy_43 : decode cX11_musterLevy 43 = .ok (.goto 60, 3) := by decide +kernel
theorem dX11_musterLevy_46 : decode cX11_musterLevy 46 = .ok (.aload_n 0, 1) := by decide +kernel
theorem dX11_musterLevy_47 : decode cX11_musterLevy 47 = .ok (.bipush 10, 2) := by decide +kernel
theorem dX11_musterLevy_49 : decode cX11_musterLevy 49 = .ok (.iload_n 2, 1) := by decide +kernel
theorem dX11_musterLevy_50 : decode cX11_musterLevy 50 = .ok (.iadd, 1) := by decide +kernel
theorem dX11_musterLevy_51 : decode cX11_musterLevy 51 = .ok (.invokevirtual 162, 3) := by decide +kernel
theorem dX11_musterLevy_54 : decode cX11_musterLevy 54 = .ok (.istore 4, 2) := by decide +kernel
theorem dX11_musterLevy_56 : decode cX11_musterLevy 56 = .ok (.aload_n 0, 1) := by decide +kernel
theorem dX11_musterLevy_57 : decode cX11_musterLevy 57 = .ok (.bipush 10, 2) := by decide +kernel
theorem dX11_musterLevy_59 : decode cX11_musterLevy 59 = .ok (.iload_n 2, 1) := by decide +kernel
theorem dX11_musterLevy_60 : decode cX11_musterLevy 60 = .ok (.iadd, 1) := by decide +kernel
theorem dX11_musterLevy_61 : decode cX11_musterLevy 61 = .ok (.invokevirtual 339, 3) := by decide +kernel
theorem dX11_musterLevy_64 : decode cX11_musterLevy 64 = .ok (.istore 5, 2) := by decide +kernel
theorem dX11_musterLevy_66 : decode cX11_musterLevy 66 = .ok (.aload_n 3, 1) := by decide +kernel
theorem dX11_musterLevy_67 : decode cX11_musterLevy 67 = .ok (.getfield 324, 3) := by decide +kernel
theorem dX11_musterLevy_70 : decode cX11_musterLevy 70 = .ok (.ifCond .ne 17, 3) := by decide +kernel
theorem dX11_musterLevy_73 : decode cX11_musterLevy 73 = .ok (.aload_n 0, 1) := by decide +kernel
theorem dX11_musterLevy_74 : decode cX11_musterLevy 74 = .ok (.getfield 72, 3) := by decide +kernel
theorem dX11_musterLevy_77 : decode cX11_musterLevy 77 = .ok (.iload 4, 2) := by decide +kernel
theorem dX11_musterLevy_79 : decode cX11_musterLevy 79 = .ok (.iload 5, 2) := by decide +kernel
theorem dX11_musterLevy_81 : decode cX11_musterLevy 81 = .ok (.invokevirtual 448, 3) := by decide +kernel
theorem dX11_musterLevy_84 : decode cX11_musterLevy 84 = .ok (.goto 19, 3) := by decide +kernel
theorem dX11_musterLevy_87 : decode cX11_musterLevy 87 = .ok (.aload_n 0, 1) := by decide +kernel
theorem dX11_musterLevy_88 : decode cX11_musterLevy 88 = .ok (.getfield 72, 3) := by decide +kernel
theorem dX11_musterLevy_91 : decode cX11_musterLevy 91 = .ok (.aload_n 3, 1) := by decide +kernel
theorem dX11_musterLevy_92 : decode cX11_musterLevy 92 = .ok (.iload 4, 2) := by decide +kernel
theorem dX11_musterLevy_94 : decode cX11_musterLevy 94 = .ok (.iload_n 1, 1) := by decide +kernel
theorem dX11_musterLevy_95 : decode cX11_musterLevy 95 = .ok (.invokestatic 345, 3) := by decide +kernel
theorem dX11_musterLevy_98 : decode cX11_musterLevy 98 = .ok (.iload 5, 2) := by decide +kernel
theorem dX11_musterLevy_100 : decode cX11_musterLevy 100 = .ok (.invokevirtual 451, 3) := by decide +kernel
theorem dX11_musterLevy_103 : decode cX11_musterLevy 103 = .ok (.iinc 2 1, 3) := by decide +kernel
theorem dX11_musterLevy_106 : decode cX11_musterLevy 106 = .ok (.goto (-85), 3) := by decide +kernel
theorem dX11_musterLevy_109 : decode cX11_musterLevy 109 = .ok (.return_, 1) := by decide +kernel
theorem dX11_leastTaken_0 : decode cX11_leastTaken 0 = .ok (.iconst 0, 1) := by decide +kernel
theorem dX11_leastTaken_1 : decode cX11_leastTaken 1 = .ok (.istore_n 2, 1) := by decide +kernel
theorem dX11_leastTaken_2 : decode cX11_leastTaken 2 = .ok (.iconst 0, 1) := by decide +kernel
theorem dX11_leastTaken_3 : decode cX11_leastTaken 3 = .ok (.istore_n 3, 1) := by decide +kernel
theorem dX11_leastTaken_4 : decode cX11_leastTaken 4 = .ok (.iconst 0, 1) := by decide +kernel
theorem dX11_leastTaken_5 : decode cX11_leastTaken 5 = .ok (.istore 4, 2) := by decide +kernel
theorem dX11_leastTaken_7 : decode cX11_leastTaken 7 = .ok (.iload 4, 2) := by decide +kernel
theorem dX11_leastTaken_9 : decode cX11_leastTaken 9 = .ok (.aload_n 0, 1) := by decide +kernel
theorem dX11_leastTaken_10 : decode cX11_leastTaken 10 = .ok (.getfield 314, 3) := by decide +kernel
theorem dX11_leastTaken_13 : decode cX11_leastTaken 13 = .ok (.if_icmp .ge 45, 3) := by decide +kernel
theorem dX11_leastTaken_16 : decode cX11_leastTaken 16 = .ok (.iload_n 1, 1) := by decide +kernel
theorem dX11_leastTaken_17 : decode cX11_leastTaken 17 = .ok (.iload 4, 2) := by decide +kernel
theorem dX11_leastTaken_19 : decode cX11_leastTaken 19 = .ok (.ishr, 1) := by decide +kernel
theorem dX11_leastTaken_20 : decode cX11_leastTaken 20 = .ok (.iconst 1, 1) := by decide +kernel
theorem dX11_leastTaken_21 : decode cX11_leastTaken 21 = .ok (.iand, 1) := by decide +kernel
theorem dX11_leastTaken_22 : decode cX11_leastTaken 22 = .ok (.iconst 1, 1) := by decide +kernel
theorem dX11_leastTaken_23 : decode cX11_leastTaken 23 = .ok (.if_icmp .ne 29, 3) := by decide +kernel
theorem dX11_leastTaken_26 : decode cX11_leastTaken 26 = .ok (.iload_n 2, 1) := by decide +kernel
theorem dX11_leastTaken_27 : decode cX11_leastTaken 27 = .ok (.aload_n 0, 1) := by decide +kernel
theorem dX11_leastTaken_28 : decode cX11_leastTaken 28 = .ok (.getfield 43, 3) := by decide +kernel
theorem dX11_leastTaken_31 : decode cX11_leastTaken 31 = .ok (.iload 4, 2) := by decide +kernel
theorem dX11_leastTaken_33 : decode cX11_leastTaken 33 = .ok (.aaload, 1) := by decide +kernel
theorem dX11_leastTaken_34 : decode cX11_leastTaken 34 = .ok (.getfield 327, 3) := by decide +kernel
theorem dX11_leastTaken_37 : decode cX11_leastTaken 37 = .ok (.iadd, 1) := by decide +kernel
theorem dX11_leastTaken_38 : decode cX11_leastTaken 38 = .ok (.istore_n 2, 1) := by decide +kernel
theorem dX11_leastTaken_39 : decode cX11_leastTaken 39 = .ok (.iload_n 3, 1) := by decide +kernel
theorem dX11_leastTaken_40 : decode cX11_leastTaken 40 = .ok (.aload_n 0, 1) := by decide +kernel
theorem dX11_leastTaken_41 : decode cX11_leastTaken 41 = .ok (.getfield 43, 3) := by decide +kernel
theorem dX11_leastTaken_44 : decode cX11_leastTaken 44 = .ok (.iload 4, 2) := by decide +kernel
theorem dX11_leastTaken_46 : decode cX11_leastTaken 46 = .ok (.aaload, 1) := by decide +kernel
theorem dX11_leastTaken_47 : decode cX11_leastTaken 47 = .ok (.getfield 330, 3) := by decide +kernel
theorem dX11_leastTaken_50 : decode cX11_leastTaken 50 = .ok (.iadd, 1) := by decide +kernel
theorem dX11_leastTaken_51 : decode cX11_leastTaken 51 = .ok (.istore_n 3, 1) := by decide +kernel
theorem dX11_leastTaken_52 : decode cX11_leastTaken 52 = .ok (.iinc 4 1, 3) := by decide +kernel
theorem dX11_leastTaken_55 : decode cX11_leastTaken 55 = .ok (.goto (-48), 3) := by decide +kernel
theorem dX11_leastTaken_58 : decode cX11_leastTaken 58 = .ok (.aload_n 0, 1) := by decide +kernel
theorem dX11_leastTaken_59 : decode cX11_leastTaken 59 = .ok (.getfield 72, 3) := by decide +kernel
theorem dX11_leastTaken_62 : decode cX11_leastTaken 62 = .ok (.iload_n 2, 1) := by decide +kernel
theorem dX11_leastTaken_63 : decode cX11_leastTaken 63 = .ok (.iload_n 3, 1) := by decide +kernel
theorem dX11_leastTaken_64 : decode cX11_leastTaken 64 = .ok (.invokevirtual 454, 3) := by decide +kernel
theorem dX11_leastTaken_67 : decode cX11_leastTaken 67 = .ok (.ireturn, 1) := by decide +kernel
theorem dX11_give_0 : decode cX11_give 0 = .ok (.iload_n 2, 1) := by decide +kernel
theorem dX11_give_1 : decode cX11_give 1 = .ok (.invokestatic 377, 3) := by decide +kernel
theorem dX11_give_4 : decode cX11_give 4 = .ok (.ifCond .eq 14, 3) := by decide +kernel
theorem dX11_give_7 : decode cX11_give 7 = .ok (.aload_n 0, 1) := by decide +kernel
theorem dX11_give_8 : decode cX11_give 8 = .ok (.getfield 53, 3) := by decide +kernel
theorem dX11_give_11 : decode cX11_give 11 = .ok (.iload_n 2, 1) := by decide +kernel
theorem dX11_give_12 : decode cX11_give 12 = .ok (.dup2, 1) := by decide +kernel
theorem dX11_give_13 : decode cX11_give 13 = .ok (.iaload, 1) := by decide +kernel
theorem dX11_give_14 : decode cX11_give 14 = .ok (.iload_n 3, 1) := by decide +kernel
theorem dX11_give_15 : decode cX11_give 15 = .ok (.iadd, 1) := by decide +kernel
theorem dX11_give_16 : decode cX11_give 16 = .ok (.iastore, 1) := by decide +kernel
theorem dX11_give_17 : decode cX11_give 17 = .ok (.return_, 1) := by decide +kernel
theorem dX11_give_18 : decode cX11_give 18 = .ok (.aload_n 0, 1) := by decide +kernel
theorem dX11_give_19 : decode cX11_give 19 = .ok (.aload_n 1, 1) := by decide +kernel
theorem dX11_give_20 : decode cX11_give 20 = .ok (.getfield 457, 3) := by decide +kernel
theorem dX11_give_23 : decode cX11_give 23 = .ok (.invokevirtual 123, 3) := by decide +kernel
theorem dX11_give_26 : decode cX11_give 26 = .ok (.astore 4, 2) := by decide +kernel
theorem dX11_give_28 : decode cX11_give 28 = .ok (.aload 4, 2) := by decide +kernel
theorem dX11_give_30 : decode cX11_give 30 = .ok (.ifnull 14, 3) := by decide +kernel
theorem dX11_give_33 : decode cX11_give 33 = .ok (.aload 4, 2) := by decide +kernel
theorem dX11_give_35 : decode cX11_give 35 = .ok (.dup, 1) := by decide +kernel
theorem dX11_give_36 : decode cX11_give 36 = .ok (.getfield 399, 3) := by decide +kernel
theorem dX11_give_39 : decode cX11_give 39 = .ok (.iload_n 3, 1) := by decide +kernel
theorem dX11_give_40 : decode cX11_give 40 = .ok (.iadd, 1) := by decide +kernel
theorem dX11_give_41 : decode cX11_give 41 = .ok (.putfield 399, 3) := by decide +kernel
theorem dX11_give_44 : decode cX11_give 44 = .ok (.return_, 1) := by decide +kernel
theorem dX11_owedTo_0 : decode cX11_owedTo 0 = .ok (.iconst 0, 1) := by decide +kernel
theorem dX11_owedTo_1 : decode cX11_owedTo 1 = .ok (.istore_n 2, 1) := by decide +kernel
theorem dX11_owedTo_2 : decode cX11_owedTo 2 = .ok (.iconst 0, 1) := by decide +kernel
theorem dX11_owedTo_3 : decode cX11_owedTo 3 = .ok (.istore_n 3, 1) := by decide +kernel
theorem dX11_owedTo_4 : decode cX11_owedTo 4 = .ok (.iload_n 3, 1) := by decide +kernel
theorem dX11_owedTo_5 : decode cX11_owedTo 5 = .ok (.aload_n 0, 1) := by decide +kernel
theorem dX11_owedTo_6 : decode cX11_owedTo 6 = .ok (.getfield 369, 3) := by decide +kernel
theorem dX11_owedTo_9 : decode cX11_owedTo 9 = .ok (.if_icmp .ge 52, 3) := by decide +kernel
theorem dX11_owedTo_12 : decode cX11_owedTo 12 = .ok (.aload_n 0, 1) := by decide +kernel
theorem dX11_owedTo_13 : decode cX11_owedTo 13 = .ok (.getfield 49, 3) := by decide +kernel
theorem dX11_owedTo_16 : decode cX11_owedTo 16 = .ok (.iload_n 3, 1) := by decide +kernel
theorem dX11_owedTo_17 : decode cX11_owedTo 17 = .ok (.aaload, 1) := by decide +kernel
theorem dX11_owedTo_18 : decode cX11_owedTo 18 = .ok (.astore 4, 2) := by decide +kernel
theorem dX11_owedTo_20 : decode cX11_owedTo 20 = .ok (.aload 4, 2) := by decide +kernel
theorem dX11_owedTo_22 : decode cX11_owedTo 22 = .ok (.getfield 457, 3) := by decide +kernel
theorem dX11_owedTo_25 : decode cX11_owedTo 25 = .ok (.iload_n 1, 1) := by decide +kernel
theorem dX11_owedTo_26 : decode cX11_owedTo 26 = .ok (.if_icmp .ne 29, 3) := by decide +kernel
theorem dX11_owedTo_29 : decode cX11_owedTo 29 = .ok (.aload 4, 2) := by decide +kernel
theorem dX11_owedTo_31 : decode cX11_owedTo 31 = .ok (.getfield 383, 3) := by decide +kernel
theorem dX11_owedTo_34 : decode cX11_owedTo 34 = .ok (.bipush (-9), 2) := by decide +kernel
theorem dX11_owedTo_36 : decode cX11_owedTo 36 = .ok (.if_icmp .ne 19, 3) := by decide +kernel
theorem dX11_owedTo_39 : decode cX11_owedTo 39 = .ok (.aload 4, 2) := by decide +kernel
theorem dX11_owedTo_41 : decode cX11_owedTo 41 = .ok (.getfield 380, 3) := by decide +kernel
theorem dX11_owedTo_44 : decode cX11_owedTo 44 = .ok (.ifCond .ne 11, 3) := by decide +kernel
theorem dX11_owedTo_47 : decode cX11_owedTo 47 = .ok (.iload_n 2, 1) := by decide +kernel
theorem dX11_owedTo_48 : decode cX11_owedTo 48 = .ok (.aload 4, 2) := by decide +kernel
theorem dX11_owedTo_50 : decode cX11_owedTo 50 = .ok (.getfield 386, 3) := by decide +kernel
theorem dX11_owedTo_53 : decode cX11_owedTo 53 = .ok (.iadd, 1) := by decide +kernel
theorem dX11_owedTo_54 : decode cX11_owedTo 54 = .ok (.istore_n 2, 1) := by decide +kernel
theorem dX11_owedTo_55 : decode cX11_owedTo 55 = .ok (.iinc 3 1, 3) := by decide +kernel
theorem dX11_owedTo_58 : decode cX11_owedTo 58 = .ok (.goto (-54), 3) := by decide +kernel
theorem dX11_owedTo_61 : decode cX11_owedTo 61 = .ok (.iload_n 2, 1) := by decide +kernel
theorem dX11_owedTo_62 : decode cX11_owedTo 62 = .ok (.ireturn, 1) := by decide +kernel
theorem dJ6_bitCount_0f7a4_0 : decode cJ6_bitCount_0f7a4 0 = .ok (.iload_n 0, 1) := by decide +kernel
theorem dJ6_bitCount_0f7a4_1 : decode cJ6_bitCount_0f7a4 1 = .ok (.iload_n 0, 1) := by decide +kernel
theorem dJ6_bitCount_0f7a4_2 : decode cJ6_bitCount_0f7a4 2 = .ok (.iconst 1, 1) := by decide +kernel
theorem dJ6_bitCount_0f7a4_3 : decode cJ6_bitCount_0f7a4 3 = .ok (.iushr, 1) := by decide +kernel
theorem dJ6_bitCount_0f7a4_4 : decode cJ6_bitCount_0f7a4 4 = .ok (.ldc_w 265, 3) := by decide +kernel
theorem dJ6_bitCount_0f7a4_7 : decode cJ6_bitCount_0f7a4 7 = .ok (.iand, 1) := by decide +kernel
theorem dJ6_bitCount_0f7a4_8 : decode cJ6_bitCount_0f7a4 8 = .ok (.isub, 1) := by decide +kernel
theorem dJ6_bitCount_0f7a4_9 : decode cJ6_bitCount_0f7a4 9 = .ok (.istore_n 0, 1) := by decide +kernel
theorem dJ6_bitCount_0f7a4_10 : decode cJ6_bitCount_0f7a4 10 = .ok (.iload_n 0, 1) := by decide +kernel
theorem dJ6_bitCount_0f7a4_11 : decode cJ6_bitCount_0f7a4 11 = .ok (.ldc_w 266, 3) := by decide +kernel
theorem dJ6_bitCount_0f7a4_14 : decode cJ6_bitCount_0f7a4 14 = .ok (.iand, 1) := by decide +kernel
theorem dJ6_bitCount_0f7a4_15 : decode cJ6_bitCount_0f7a4 15 = .ok (.iload_n 0, 1) := by decide +kernel
theorem dJ6_bitCount_0f7a4_16 : decode cJ6_bitCount_0f7a4 16 = .ok (.iconst 2, 1) := by decide +kernel
theorem dJ6_bitCount_0f7a4_17 : decode cJ6_bitCount_0f7a4 17 = .ok (.iushr, 1) := by decide +kernel
theorem dJ6_bitCount_0f7a4_18 : decode cJ6_bitCount_0f7a4 18 = .ok (.ldc_w 266, 3) := by decide +kernel
theorem dJ6_bitCount_0f7a4_21 : decode cJ6_bitCount_0f7a4 21 = .ok (.iand, 1) := by decide +kernel
theorem dJ6_bitCount_0f7a4_22 : decode cJ6_bitCount_0f7a4 22 = .ok (.iadd, 1) := by decide +kernel
theorem dJ6_bitCount_0f7a4_23 : decode cJ6_bitCount_0f7a4 23 = .ok (.istore_n 0, 1) := by decide +kernel
theorem dJ6_bitCount_0f7a4_24 : decode cJ6_bitCount_0f7a4 24 = .ok (.iload_n 0, 1) := by decide +kernel
theorem dJ6_bitCount_0f7a4_25 : decode cJ6_bitCount_0f7a4 25 = .ok (.iload_n 0, 1) := by decide +kernel
theorem dJ6_bitCount_0f7a4_26 : decode cJ6_bitCount_0f7a4 26 = .ok (.iconst 4, 1) := by decide +kernel
theorem dJ6_bitCount_0f7a4_27 : decode cJ6_bitCount_0f7a4 27 = .ok (.iushr, 1) := by decide +kernel
theorem dJ6_bitCount_0f7a4_28 : decode cJ6_bitCount_0f7a4 28 = .ok (.iadd, 1) := by decide +kernel
theorem dJ6_bitCount_0f7a4_29 : decode cJ6_bitCount_0f7a4 29 = .ok (.ldc_w 267, 3) := by decide +kernel
theorem dJ6_bitCount_0f7a4_32 : decode cJ6_bitCount_0f7a4 32 = .ok (.iand, 1) := by decide +kernel
theorem dJ6_bitCount_0f7a4_33 : decode cJ6_bitCount_0f7a4 33 = .ok (.istore_n 0, 1) := by decide +kernel
theorem dJ6_bitCount_0f7a4_34 : decode cJ6_bitCount_0f7a4 34 = .ok (.iload_n 0, 1) := by decide +kernel
theorem dJ6_bitCount_0f7a4_35 : decode cJ6_bitCount_0f7a4 35 = .ok (.iload_n 0, 1) := by decide +kernel
theorem dJ6_bitCount_0f7a4_36 : decode cJ6_bitCount_0f7a4 36 = .ok (.bipush 8, 2) := by decide +kernel
theorem dJ6_bitCount_0f7a4_38 : decode cJ6_bitCount_0f7a4 38 = .ok (.iushr, 1) := by decide +kernel
theorem dJ6_bitCount_0f7a4_39 : decode cJ6_bitCount_0f7a4 39 = .ok (.iadd, 1) := by decide +kernel
theorem dJ6_bitCount_0f7a4_40 : decode cJ6_bitCount_0f7a4 40 = .ok (.istore_n 0, 1) := by decide +kernel
theorem dJ6_bitCount_0f7a4_41 : decode cJ6_bitCount_0f7a4 41 = .ok (.iload_n 0, 1) := by decide +kernel
theorem dJ6_bitCount_0f7a4_42 : decode cJ6_bitCount_0f7a4 42 = .ok (.iload_n 0, 1) := by decide +kernel
theorem dJ6_bitCount_0f7a4_43 : decode cJ6_bitCount_0f7a4 43 = .ok (.bipush 16, 2) := by decide +kernel
theorem dJ6_bitCount_0f7a4_45 : decode cJ6_bitCount_0f7a4 45 = .ok (.iushr, 1) := by decide +kernel
theorem dJ6_bitCount_0f7a4_46 : decode cJ6_bitCount_0f7a4 46 = .ok (.iadd, 1) := by decide +kernel
theorem dJ6_bitCount_0f7a4_47 : decode cJ6_bitCount_0f7a4 47 = .ok (.istore_n 0, 1) := by decide +kernel
theorem dJ6_bitCount_0f7a4_48 : decode cJ6_bitCount_0f7a4 48 = .ok (.iload_n 0, 1) := by decide +kernel
theorem dJ6_bitCount_0f7a4_49 : decode cJ6_bitCount_0f7a4 49 = .ok (.bipush 63, 2) := by decide +kernel
theorem dJ6_bitCount_0f7a4_51 : decode cJ6_bitCount_0f7a4 51 = .ok (.iand, 1) := by decide +kernel
theorem dJ6_bitCount_0f7a4_52 : decode cJ6_bitCount_0f7a4 52 = .ok (.ireturn, 1) := by decide +kernel
theorem dJ13_bitCount_95d88_0 : decode cJ13_bitCount_95d88 0 = .ok (.lload_n 0, 1) := by decide +kernel
theorem dJ13_bitCount_95d88_1 : decode cJ13_bitCount_95d88 1 = .ok (.lload_n 0, 1) := by decide +kernel
theorem dJ13_bitCount_95d88_2 : decode cJ13_bitCount_95d88 2 = .ok (.iconst 1, 1) := by decide +kernel
theorem dJ13_bitCount_95d88_3 : decode cJ13_bitCount_95d88 3 = .ok (.lushr, 1) := by decide +kernel
theorem dJ13_bitCount_95d88_4 : decode cJ13_bitCount_95d88 4 = .ok (.ldc2_w 314, 3) := by decide +kernel
theorem dJ13_bitCount_95d88_7 : decode cJ13_bitCount_95d88 7 = .ok (.land, 1) := by decide +kernel
theorem dJ13_bitCount_95d88_8 : decode cJ13_bitCount_95d88 8 = .ok (.lsub, 1) := by decide +kernel
theorem dJ13_bitCount_95d88_9 : decode cJ13_bitCount_95d88 9 = .ok (.lstore_n 0, 1) := by decide +kernel
theorem dJ13_bitCount_95d88_10 : decode cJ13_bitCount_95d88 10 = .ok (.lload_n 0, 1) := by decide +kernel
theorem dJ13_bitCount_95d88_11 : decode cJ13_bitCount_95d88 11 = .ok (.ldc2_w 316, 3) := by decide +kernel
theorem dJ13_bitCount_95d88_14 : decode cJ13_bitCount_95d88 14 = .ok (.land, 1) := by decide +kernel
theorem dJ13_bitCount_95d88_15 : decode cJ13_bitCount_95d88 15 = .ok (.lload_n 0, 1) := by decide +kernel
theorem dJ13_bitCount_95d88_16 : decode cJ13_bitCount_95d88 16 = .ok (.iconst 2, 1) := by decide +kernel
theorem dJ13_bitCount_95d88_17 : decode cJ13_bitCount_95d88 17 = .ok (.lushr, 1) := by decide +kernel
theorem dJ13_bitCount_95d88_18 : decode cJ13_bitCount_95d88 18 = .ok (.ldc2_w 316, 3) := by decide +kernel
theorem dJ13_bitCount_95d88_21 : decode cJ13_bitCount_95d88 21 = .ok (.land, 1) := by decide +kernel
theorem dJ13_bitCount_95d88_22 : decode cJ13_bitCount_95d88 22 = .ok (.ladd, 1) := by decide +kernel
theorem dJ13_bitCount_95d88_23 : decode cJ13_bitCount_95d88 23 = .ok (.lstore_n 0, 1) := by decide +kernel
theorem dJ13_bitCount_95d88_24 : decode cJ13_bitCount_95d88 24 = .ok (.lload_n 0, 1) := by decide +kernel
theorem dJ13_bitCount_95d88_25 : decode cJ13_bitCount_95d88 25 = .ok (.lload_n 0, 1) := by decide +kernel
theorem dJ13_bitCount_95d88_26 : decode cJ13_bitCount_95d88 26 = .ok (.iconst 4, 1) := by decide +kernel
theorem dJ13_bitCount_95d88_27 : decode cJ13_bitCount_95d88 27 = .ok (.lushr, 1) := by decide +kernel
theorem dJ13_bitCount_95d88_28 : decode cJ13_bitCount_95d88 28 = .ok (.ladd, 1) := by decide +kernel
theorem dJ13_bitCount_95d88_29 : decode cJ13_bitCount_95d88 29 = .ok (.ldc2_w 318, 3) := by decide +kernel
theorem dJ13_bitCount_95d88_32 : decode cJ13_bitCount_95d88 32 = .ok (.land, 1) := by decide +kernel
theorem dJ13_bitCount_95d88_33 : decode cJ13_bitCount_95d88 33 = .ok (.lstore_n 0, 1) := by decide +kernel
theorem dJ13_bitCount_95d88_34 : decode cJ13_bitCount_95d88 34 = .ok (.lload_n 0, 1) := by decide +kernel
theorem dJ13_bitCount_95d88_35 : decode cJ13_bitCount_95d88 35 = .ok (.lload_n 0, 1) := by decide +kernel
theorem dJ13_bitCount_95d88_36 : decode cJ13_bitCount_95d88 36 = .ok (.bipush 8, 2) := by decide +kernel
theorem dJ13_bitCount_95d88_38 : decode cJ13_bitCount_95d88 38 = .ok (.lushr, 1) := by decide +kernel
theorem dJ13_bitCount_95d88_39 : decode cJ13_bitCount_95d88 39 = .ok (.ladd, 1) := by decide +kernel
theorem dJ13_bitCount_95d88_40 : decode cJ13_bitCount_95d88 40 = .ok (.lstore_n 0, 1) := by decide +kernel
theorem dJ13_bitCount_95d88_41 : decode cJ13_bitCount_95d88 41 = .ok (.lload_n 0, 1) := by decide +kernel
theorem dJ13_bitCount_95d88_42 : decode cJ13_bitCount_95d88 42 = .ok (.lload_n 0, 1) := by decide +kernel
theorem dJ13_bitCount_95d88_43 : decode cJ13_bitCount_95d88 43 = .ok (.bipush 16, 2) := by decide +kernel
theorem dJ13_bitCount_95d88_45 : decode cJ13_bitCount_95d88 45 = .ok (.lushr, 1) := by decide +kernel
theorem dJ13_bitCount_95d88_46 : decode cJ13_bitCount_95d88 46 = .ok (.ladd, 1) := by decide +kernel
theorem dJ13_bitCount_95d88_47 : decode cJ13_bitCount_95d88 47 = .ok (.lstore_n 0, 1) := by decide +kernel
theorem dJ13_bitCount_95d88_48 : decode cJ13_bitCount_95d88 48 = .ok (.lload_n 0, 1) := by decide +kernel
theorem dJ13_bitCount_95d88_49 : decode cJ13_bitCount_95d88 49 = .ok (.lload_n 0, 1) := by decide +kernel
theorem dJ13_bitCount_95d88_50 : decode cJ13_bitCount_95d88 50 = .ok (.bipush 32, 2) := by decide +kernel
theorem dJ13_bitCount_95d88_52 : decode cJ13_bitCount_95d88 52 = .ok (.lushr, 1) := by decide +kernel
theorem dJ13_bitCount_95d88_53 : decode cJ13_bitCount_95d88 53 = .ok (.ladd, 1) := by decide +kernel
theorem dJ13_bitCount_95d88_54 : decode cJ13_bitCount_95d88 54 = .ok (.lstore_n 0, 1) := by decide +kernel
theorem dJ13_bitCount_95d88_55 : decode cJ13_bitCount_95d88 55 = .ok (.lload_n 0, 1) := by decide +kernel
theorem dJ13_bitCount_95d88_56 : decode cJ13_bitCount_95d88 56 = .ok (.l2i, 1) := by decide +kernel
theorem dJ13_bitCount_95d88_57 : decode cJ13_bitCount_95d88 57 = .ok (.bipush 127, 2) := by decide +kernel
theorem dJ13_bitCount_95d88_59 : decode cJ13_bitCount_95d88 59 = .ok (.iand, 1) := by decide +kernel
theorem dJ13_bitCount_95d88_60 : decode cJ13_bitCount_95d88 60 = .ok (.ireturn, 1) := by decide +kernel
theorem dJ9_max_7cf53_0 : decode cJ9_max_7cf53 0 = .ok (.iload_n 0, 1) := by decide +kernel
theorem dJ9_max_7cf53_1 : decode cJ9_max_7cf53 1 = .ok (.iload_n 1, 1) := by decide +kernel
theorem dJ9_max_7cf53_2 : decode cJ9_max_7cf53 2 = .ok (.if_icmp .lt 7, 3) := by decide +kernel
theorem dJ9_max_7cf53_5 : decode cJ9_max_7cf53 5 = .ok (.iload_n 0, 1) := by decide +kernel
theorem dJ9_max_7cf53_6 : decode cJ9_max_7cf53 6 = .ok (.goto 4, 3) := by decide +kernel
theorem dJ9_max_7cf53_9 : decode cJ9_max_7cf53 9 = .ok (.iload_n 1, 1) := by decide +kernel
theorem dJ9_max_7cf53_10 : decode cJ9_max_7cf53 10 = .ok (.ireturn, 1) := by decide +kernel
theorem dJ9_min_7cf53_0 : decode cJ9_min_7cf53 0 = .ok (.iload_n 0, 1) := by decide +kernel
theorem dJ9_min_7cf53_1 : decode cJ9_min_7cf53 1 = .ok (.iload_n 1, 1) := by decide +kernel
theorem dJ9_min_7cf53_2 : decode cJ9_min_7cf53 2 = .ok (.if_icmp .gt 7, 3) := by decide +kernel
theorem dJ9_min_7cf53_5 : decode cJ9_min_7cf53 5 = .ok (.iload_n 0, 1) := by decide +kernel
theorem dJ9_min_7cf53_6 : decode cJ9_min_7cf53 6 = .ok (.goto 4, 3) := by decide +kernel
theorem dJ9_min_7cf53_9 : decode cJ9_min_7cf53 9 = .ok (.iload_n 1, 1) := by decide +kernel
theorem dJ9_min_7cf53_10 : decode cJ9_min_7cf53 10 = .ok (.ireturn, 1) := by decide +kernel
theorem dJ7_fill_53178_0 : decode cJ7_fill_53178 0 = .ok (.iconst 0, 1) := by decide +kernel
theorem dJ7_fill_53178_1 : decode cJ7_fill_53178 1 = .ok (.istore_n 2, 1) := by decide +kernel
theorem dJ7_fill_53178_2 : decode cJ7_fill_53178 2 = .ok (.aload_n 0, 1) := by decide +kernel
theorem dJ7_fill_53178_3 : decode cJ7_fill_53178 3 = .ok (.arraylength, 1) := by decide +kernel
theorem dJ7_fill_53178_4 : decode cJ7_fill_53178 4 = .ok (.istore_n 3, 1) := by decide +kernel
theorem dJ7_fill_53178_5 : decode cJ7_fill_53178 5 = .ok (.iload_n 2, 1) := by decide +kernel
theorem dJ7_fill_53178_6 : decode cJ7_fill_53178 6 = .ok (.iload_n 3, 1) := by decide +kernel
theorem dJ7_fill_53178_7 : decode cJ7_fill_53178 7 = .ok (.if_icmp .ge 13, 3) := by decide +kernel
theorem dJ7_fill_53178_10 : decode cJ7_fill_53178 10 = .ok (.aload_n 0, 1) := by decide +kernel
theorem dJ7_fill_53178_11 : decode cJ7_fill_53178 11 = .ok (.iload_n 2, 1) := by decide +kernel
theorem dJ7_fill_53178_12 : decode cJ7_fill_53178 12 = .ok (.iload_n 1, 1) := by decide +kernel
theorem dJ7_fill_53178_13 : decode cJ7_fill_53178 13 = .ok (.iastore, 1) := by decide +kernel
theorem dJ7_fill_53178_14 : decode cJ7_fill_53178 14 = .ok (.iinc 2 1, 3) := by decide +kernel
theorem dJ7_fill_53178_17 : decode cJ7_fill_53178 17 = .ok (.goto (-12), 3) := by decide +kernel
theorem dJ7_fill_53178_20 : decode cJ7_fill_53178 20 = .ok (.return_, 1) := by decide +kernel
theorem dJ7_copyOf_59c91_0 : decode cJ7_copyOf_59c91 0 = .ok (.iload_n 1, 1) := by decide +kernel
theorem dJ7_copyOf_59c91_1 : decode cJ7_copyOf_59c91 1 = .ok (.aload_n 0, 1) := by decide +kernel
theorem dJ7_copyOf_59c91_2 : decode cJ7_copyOf_59c91 2 = .ok (.arraylength, 1) := by decide +kernel
theorem dJ7_copyOf_59c91_3 : decode cJ7_copyOf_59c91 3 = .ok (.if_icmp .ne 11, 3) := by decide +kernel
theorem dJ7_copyOf_59c91_6 : decode cJ7_copyOf_59c91 6 = .ok (.aload_n 0, 1) := by decide +kernel
theorem dJ7_copyOf_59c91_7 : decode cJ7_copyOf_59c91 7 = .ok (.invokevirtual 316, 3) := by decide +kernel
theorem dJ7_copyOf_59c91_10 : decode cJ7_copyOf_59c91 10 = .ok (.checkcast 317, 3) := by decide +kernel
theorem dJ7_copyOf_59c91_13 : decode cJ7_copyOf_59c91 13 = .ok (.areturn, 1) := by decide +kernel
theorem dJ7_copyOf_59c91_14 : decode cJ7_copyOf_59c91 14 = .ok (.iload_n 1, 1) := by decide +kernel
theorem dJ7_copyOf_59c91_15 : decode cJ7_copyOf_59c91 15 = .ok (.newarray .int, 2) := by decide +kernel
theorem dJ7_copyOf_59c91_17 : decode cJ7_copyOf_59c91 17 = .ok (.astore_n 2, 1) := by decide +kernel
theorem dJ7_copyOf_59c91_18 : decode cJ7_copyOf_59c91 18 = .ok (.aload_n 0, 1) := by decide +kernel
theorem dJ7_copyOf_59c91_19 : decode cJ7_copyOf_59c91 19 = .ok (.iconst 0, 1) := by decide +kernel
theorem dJ7_copyOf_59c91_20 : decode cJ7_copyOf_59c91 20 = .ok (.aload_n 2, 1) := by decide +kernel
theorem dJ7_copyOf_59c91_21 : decode cJ7_copyOf_59c91 21 = .ok (.iconst 0, 1) := by decide +kernel
theorem dJ7_copyOf_59c91_22 : decode cJ7_copyOf_59c91 22 = .ok (.aload_n 0, 1) := by decide +kernel
theorem dJ7_copyOf_59c91_23 : decode cJ7_copyOf_59c91 23 = .ok (.arraylength, 1) := by decide +kernel
theorem dJ7_copyOf_59c91_24 : decode cJ7_copyOf_59c91 24 = .ok (.iload_n 1, 1) := by decide +kernel
theorem dJ7_copyOf_59c91_25 : decode cJ7_copyOf_59c91 25 = .ok (.invokestatic 304, 3) := by decide +kernel
theorem dJ7_copyOf_59c91_28 : decode cJ7_copyOf_59c91 28 = .ok (.invokestatic 150, 3) := by decide +kernel
theorem dJ7_copyOf_59c91_31 : decode cJ7_copyOf_59c91 31 = .ok (.aload_n 2, 1) := by decide +kernel
theorem dJ7_copyOf_59c91_32 : decode cJ7_copyOf_59c91 32 = .ok (.areturn, 1) := by decide +kernel
