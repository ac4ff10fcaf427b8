theorem dX4_readWall_65 : decode cX4_readWall 65 = .ok (.istore 4, 2) := by decide +kernel
theorem dX4_readWall_67 : decode cX4_readWall 67 = .ok (.aload_n 0, 1) := by decide +kernel
theorem dX4_readWall_68 : decode cX4_readWall 68 = .ok (.iconst 1, 1) := by decide +kernel
theorem dX4_readWall_69 : decode cX4_readWall 69 = .ok (.iload_n 2, 1) := by decide +kernel
theorem dX4_readWall_70 : decode cX4_readWall 70 = .ok (.iconst 1, 1) := by decide +kernel
theorem dX4_readWall_71 : decode cX4_readWall 71 = .ok (.if_icmp .ne 13, 3) := by decide +kernel
theorem dX4_readWall_74 : decode cX4_readWall 74 = .ok (.aload_n 1, 1) := by decide +kernel
theorem dX4_readWall_75 : decode cX4_readWall 75 = .ok (.getfield 71, 3) := by decide +kernel
theorem dX4_readWall_78 : decode cX4_readWall 78 = .ok (.iload 4, 2) := by decide +kernel
theorem dX4_readWall_80 : decode cX4_readWall 80 = .ok (.isub, 1) := by decide +kernel
theorem dX4_readWall_81 : decode cX4_readWall 81 = .ok (.goto 9, 3) := by decide +kernel
theorem dX4_readWall_84 : decode cX4_readWall 84 = .ok (.aload_n 1, 1) := by decide +kernel
theorem dX4_readWall_85 : decode cX4_readWall 85 = .ok (.getfield 68, 3) := by decide +kernel
theorem dX4_readWall_88 : decode cX4_readWall 88 = .ok (.iload_n 3, 1) := by decide +kernel
theorem dX4_readWall_89 : decode cX4_readWall 89 = .ok (.isub, 1) := by decide +kernel
theorem dX4_readWall_90 : decode cX4_readWall 90 = .ok (.invokevirtual 57, 3) := by decide +kernel
theorem dX4_readWall_93 : decode cX4_readWall 93 = .ok (.ifCond .ne 5, 3) := by decide +kernel
theorem dX4_readWall_96 : decode cX4_readWall 96 = .ok (.iconst 0, 1) := by decide +kernel
theorem dX4_readWall_97 : decode cX4_readWall 97 = .ok (.ireturn, 1) := by decide +kernel
theorem dX4_readWall_98 : decode cX4_readWall 98 = .ok (.aload_n 1, 1) := by decide +kernel
theorem dX4_readWall_99 : decode cX4_readWall 99 = .ok (.iload_n 3, 1) := by decide +kernel
theorem dX4_readWall_100 : decode cX4_readWall 100 = .ok (.iload 4, 2) := by decide +kernel
theorem dX4_readWall_102 : decode cX4_readWall 102 = .ok (.aload_n 0, 1) := by decide +kernel
theorem dX4_readWall_103 : decode cX4_readWall 103 = .ok (.getfield 61, 3) := by decide +kernel
theorem dX4_readWall_106 : decode cX4_readWall 106 = .ok (.iload_n 2, 1) := by decide +kernel
theorem dX4_readWall_107 : decode cX4_readWall 107 = .ok (.invokevirtual 74, 3) := by decide +kernel
theorem dX4_readWall_110 : decode cX4_readWall 110 = .ok (.aload_n 0, 1) := by decide +kernel
theorem dX4_readWall_111 : decode cX4_readWall 111 = .ok (.invokevirtual 64, 3) := by decide +kernel
theorem dX4_readWall_114 : decode cX4_readWall 114 = .ok (.ireturn, 1) := by decide +kernel
theorem dX4_readLamp_0 : decode cX4_readLamp 0 = .ok (.aload_n 0, 1) := by decide +kernel
theorem dX4_readLamp_1 : decode cX4_readLamp 1 = .ok (.iconst 0, 1) := by decide +kernel
theorem dX4_readLamp_2 : decode cX4_readLamp 2 = .ok (.aload_n 1, 1) := by decide +kernel
theorem dX4_readLamp_3 : decode cX4_readLamp 3 = .ok (.getfield 68, 3) := by decide +kernel
theorem dX4_readLamp_6 : decode cX4_readLamp 6 = .ok (.iconst 1, 1) := by decide +kernel
theorem dX4_readLamp_7 : decode cX4_readLamp 7 = .ok (.isub, 1) := by decide +kernel
theorem dX4_readLamp_8 : decode cX4_readLamp 8 = .ok (.invokevirtual 57, 3) := by decide +kernel
theorem dX4_readLamp_11 : decode cX4_readLamp 11 = .ok (.ifCond .ne 5, 3) := by decide +kernel
theorem dX4_readLamp_14 : decode cX4_readLamp 14 = .ok (.iconst 0, 1) := by decide +kernel
theorem dX4_readLamp_15 : decode cX4_readLamp 15 = .ok (.ireturn, 1) := by decide +kernel
theorem dX4_readLamp_16 : decode cX4_readLamp 16 = .ok (.aload_n 0, 1) := by decide +kernel
theorem dX4_readLamp_17 : decode cX4_readLamp 17 = .ok (.getfield 61, 3) := by decide +kernel
theorem dX4_readLamp_20 : decode cX4_readLamp 20 = .ok (.istore_n 2, 1) := by decide +kernel
theorem dX4_readLamp_21 : decode cX4_readLamp 21 = .ok (.aload_n 0, 1) := by decide +kernel
theorem dX4_readLamp_22 : decode cX4_readLamp 22 = .ok (.iconst 0, 1) := by decide +kernel
theorem dX4_readLamp_23 : decode cX4_readLamp 23 = .ok (.aload_n 1, 1) := by decide +kernel
theorem dX4_readLamp_24 : decode cX4_readLamp 24 = .ok (.getfield 71, 3) := by decide +kernel
theorem dX4_readLamp_27 : decode cX4_readLamp 27 = .ok (.iconst 1, 1) := by decide +kernel
theorem dX4_readLamp_28 : decode cX4_readLamp 28 = .ok (.isub, 1) := by decide +kernel
theorem dX4_readLamp_29 : decode cX4_readLamp 29 = .ok (.invokevirtual 57, 3) := by decide +kernel
theorem dX4_readLamp_32 : decode cX4_readLamp 32 = .ok (.ifCond .eq 15, 3) := by decide +kernel
theorem dX4_readLamp_35 : decode cX4_readLamp 35 = .ok (.aload_n 1, 1) := by decide +kernel
theorem dX4_readLamp_36 : decode cX4_readLamp 36 = .ok (.iload_n 2, 1) := by decide +kernel
theorem dX4_readLamp_37 : decode cX4_readLamp 37 = .ok (.aload_n 0, 1) := by decide +kernel
theorem dX4_readLamp_38 : decode cX4_readLamp 38 = .ok (.getfield 61, 3) := by decide +kernel
theorem dX4_readLamp_41 : decode cX4_readLamp 41 = .ok (.invokevirtual 78, 3) := by decide +kernel
theorem dX4_readLamp_44 : decode cX4_readLamp 44 = .ok (.ifCond .eq 5, 3) := by decide +kernel
theorem dX4_readLamp_47 : decode cX4_readLamp 47 = .ok (.iconst 0, 1) := by decide +kernel
theorem dX4_readLamp_48 : decode cX4_readLamp 48 = .ok (.ireturn, 1) := by decide +kernel
theorem dX4_readLamp_49 : decode cX4_readLamp 49 = .ok (.aload_n 1, 1) := by decide +kernel
theorem dX4_readLamp_50 : decode cX4_readLamp 50 = .ok (.iload_n 2, 1) := by decide +kernel
theorem dX4_readLamp_51 : decode cX4_readLamp 51 = .ok (.aload_n 0, 1) := by decide +kernel
theorem dX4_readLamp_52 : decode cX4_readLamp 52 = .ok (.getfield 61, 3) := by decide +kernel
theorem dX4_readLamp_55 : decode cX4_readLamp 55 = .ok (.invokevirtual 81, 3) := by decide +kernel
theorem dX4_readLamp_58 : decode cX4_readLamp 58 = .ok (.aload_n 0, 1) := by decide +kernel
theorem dX4_readLamp_59 : decode cX4_readLamp 59 = .ok (.invokevirtual 64, 3) := by decide +kernel
theorem dX4_readLamp_62 : decode cX4_readLamp 62 = .ok (.ireturn, 1) := by decide +kernel
theorem dX4_readNumber_0 : decode cX4_readNumber 0 = .ok (.aload_n 0, 1) := by decide +kernel
theorem dX4_readNumber_1 : decode cX4_readNumber 1 = .ok (.invokevirtual 28, 3) := by decide +kernel
theorem dX4_readNumber_4 : decode cX4_readNumber 4 = .ok (.aload_n 0, 1) := by decide +kernel
theorem dX4_readNumber_5 : decode cX4_readNumber 5 = .ok (.getfield 31, 3) := by decide +kernel
theorem dX4_readNumber_8 : decode cX4_readNumber 8 = .ok (.bipush (-2), 2) := by decide +kernel
theorem dX4_readNumber_10 : decode cX4_readNumber 10 = .ok (.if_icmp .ne 23, 3) := by decide +kernel
theorem dX4_readNumber_13 : decode cX4_readNumber 13 = .ok (.aload_n 0, 1) := by decide +kernel
theorem dX4_readNumber_14 : decode cX4_readNumber 14 = .ok (.getfield 61, 3) := by decide +kernel
theorem dX4_readNumber_17 : decode cX4_readNumber 17 = .ok (.iload_n 1, 1) := by decide +kernel
theorem dX4_readNumber_18 : decode cX4_readNumber 18 = .ok (.if_icmp .lt 15, 3) := by decide +kernel
theorem dX4_readNumber_21 : decode cX4_readNumber 21 = .ok (.aload_n 0, 1) := by decide +kernel
theorem dX4_readNumber_22 : decode cX4_readNumber 22 = .ok (.getfield 61, 3) := by decide +kernel
theorem dX4_readNumber_25 : decode cX4_readNumber 25 = .ok (.iload_n 2, 1) := by decide +kernel
theorem dX4_readNumber_26 : decode cX4_readNumber 26 = .ok (.if_icmp .gt 7, 3) := by decide +kernel
theorem dX4_readNumber_29 : decode cX4_readNumber 29 = .ok (.iconst 1, 1) := by decide +kernel
theorem dX4_readNumber_30 : decode cX4_readNumber 30 = .ok (.goto 4, 3) := by decide +kernel
theorem dX4_readNumber_33 : decode cX4_readNumber 33 = .ok (.iconst 0, 1) := by decide +kernel
theorem dX4_readNumber_34 : decode cX4_readNumber 34 = .ok (.ireturn, 1) := by decide +kernel
theorem dX4_readItemEnd_0 : decode cX4_readItemEnd 0 = .ok (.aload_n 0, 1) := by decide +kernel
theorem dX4_readItemEnd_1 : decode cX4_readItemEnd 1 = .ok (.invokevirtual 28, 3) := by decide +kernel
theorem dX4_readItemEnd_4 : decode cX4_readItemEnd 4 = .ok (.aload_n 0, 1) := by decide +kernel
theorem dX4_readItemEnd_5 : decode cX4_readItemEnd 5 = .ok (.getfield 31, 3) := by decide +kernel
theorem dX4_readItemEnd_8 : decode cX4_readItemEnd 8 = .ok (.bipush 59, 2) := by decide +kernel
theorem dX4_readItemEnd_10 : decode cX4_readItemEnd 10 = .ok (.if_icmp .ne 7, 3) := by decide +kernel
theorem dX4_readItemEnd_13 : decode cX4_readItemEnd 13 = .ok (.iconst 1, 1) := by decide +kernel
theorem dX4_readItemEnd_14 : decode cX4_readItemEnd 14 = .ok (.goto 4, 3) := by decide +kernel
theorem dX4_readItemEnd_17 : decode cX4_readItemEnd 17 = .ok (.iconst 0, 1) := by decide +kernel
theorem dX4_readItemEnd_18 : decode cX4_readItemEnd 18 = .ok (.ireturn, 1) := by decide +kernel
theorem dX4_readToken_0 : decode cX4_readToken 0 = .ok (.aload_n 0, 1) := by decide +kernel
theorem dX4_readToken_1 : decode cX4_readToken 1 = .ok (.getfield 25, 3) := by decide +kernel
theorem dX4_readToken_4 : decode cX4_readToken 4 = .ok (.aload_n 0, 1) := by decide +kernel
theorem dX4_readToken_5 : decode cX4_readToken 5 = .ok (.getfield 15, 3) := by decide +kernel
theorem dX4_readToken_8 : decode cX4_readToken 8 = .ok (.if_icmp .ge 30, 3) := by decide +kernel
theorem dX4_readToken_11 : decode cX4_readToken 11 = .ok (.aload_n 0, 1) := by decide +kernel
theorem dX4_readToken_12 : decode cX4_readToken 12 = .ok (.getfield 9, 3) := by decide +kernel
theorem dX4_readToken_15 : decode cX4_readToken 15 = .ok (.aload_n 0, 1) := by decide +kernel
theorem dX4_readToken_16 : decode cX4_readToken 16 = .ok (.getfield 25, 3) := by decide +kernel
theorem dX4_readToken_19 : decode cX4_readToken 19 = .ok (.caload, 1) := by decide +kernel
theorem dX4_readToken_20 : decode cX4_readToken 20 = .ok (.bipush 32, 2) := by decide +kernel
theorem dX4_readToken_22 : decode cX4_readToken 22 = .ok (.if_icmp .ne 16, 3) := by decide +kernel
theorem dX4_readToken_25 : decode cX4_readToken 25 = .ok (.aload_n 0, 1) := by decide +kernel
theorem dX4_readToken_26 : decode cX4_readToken 26 = .ok (.dup, 1) := by decide +kernel
theorem dX4_readToken_27 : decode cX4_readToken 27 = .ok (.getfield 25, 3) := by decide +kernel
theorem dX4_readToken_30 : decode cX4_readToken 30 = .ok (.iconst 1, 1) := by decide +kernel
theorem dX4_readToken_31 : decode cX4_readToken 31 = .ok (.iadd, 1) := by decide +kernel
theorem dX4_readToken_32 : decode cX4_readToken 32 = .ok (.putfield 25, 3) := by decide +kernel
theorem dX4_readToken_35 : decode cX4_readToken 35 = .ok (.goto (-35), 3) := by decide +kernel
theorem dX4_readToken_38 : decode cX4_readToken 38 = .ok (.aload_n 0, 1) := by decide +kernel
theorem dX4_readToken_39 : decode cX4_readToken 39 = .ok (.aload_n 0, 1) := by decide +kernel
theorem dX4_readToken_40 : decode cX4_readToken 40 = .ok (.getfield 25, 3) := by decide +kernel
theorem dX4_readToken_43 : decode cX4_readToken 43 = .ok (.putfield 38, 3) := by decide +kernel
theorem dX4_readToken_46 : decode cX4_readToken 46 = .ok (.aload_n 0, 1) := by decide +kernel
theorem dX4_readToken_47 : decode cX4_readToken 47 = .ok (.iconst (-1), 1) := by decide +kernel
theorem dX4_readToken_48 : decode cX4_readToken 48 = .ok (.putfield 31, 3) := by decide +kernel
theorem dX4_readToken_51 : decode cX4_readToken 51 = .ok (.aload_n 0, 1) := by decide +kernel
theorem dX4_readToken_52 : decode cX4_readToken 52 = .ok (.getfield 25, 3) := by decide +kernel
theorem dX4_readToken_55 : decode cX4_readToken 55 = .ok (.aload_n 0, 1) := by decide +kernel
theorem dX4_readToken_56 : decode cX4_readToken 56 = .ok (.getfield 15, 3) := by decide +kernel
theorem dX4_readToken_59 : decode cX4_readToken 59 = .ok (.if_icmp .lt 4, 3) := by decide +kernel
theorem dX4_readToken_62 : decode cX4_readToken 62 = .ok (.return_, 1) := by decide +kernel
theorem dX4_readToken_63 : decode cX4_readToken 63 = .ok (.aload_n 0, 1) := by decide +kernel
theorem dX4_readToken_64 : decode cX4_readToken 64 = .ok (.aload_n 0, 1) := by decide +kernel
theorem dX4_readToken_65 : decode cX4_readToken 65 = .ok (.getfield 9, 3) := by decide +kernel
theorem dX4_readToken_68 : decode cX4_readToken 68 = .ok (.aload_n 0, 1) := by decide +kernel
theorem dX4_readToken_69 : decode cX4_readToken 69 = .ok (.getfield 25, 3) := by decide +kernel
theorem dX4_readToken_72 : decode cX4_readToken 72 = .ok (.caload, 1) := by decide +kernel
theorem dX4_readToken_73 : decode cX4_readToken 73 = .ok (.putfield 31, 3) := by decide +kernel
theorem dX4_readToken_76 : decode cX4_readToken 76 = .ok (.aload_n 0, 1) := by decide +kernel
theorem dX4_readToken_77 : decode cX4_readToken 77 = .ok (.getfield 9, 3) := by decide +kernel
theorem dX4_readToken_80 : decode cX4_readToken 80 = .ok (.aload_n 0, 1) := by decide +kernel
theorem dX4_readToken_81 : decode cX4_readToken 81 = .ok (.getfield 25, 3) := by decide +kernel
theorem dX4_readToken_84 : decode cX4_readToken 84 = .ok (.caload, 1) := by decide +kernel
theorem dX4_readToken_85 : decode cX4_readToken 85 = .ok (.invokestatic 84, 3) := by decide +kernel
theorem dX4_readToken_88 : decode cX4_readToken 88 = .ok (.ifCond .eq 25, 3) := by decide +kernel
theorem dX4_readToken_91 : decode cX4_readToken 91 = .ok (.aload_n 0, 1) := by decide +kernel
theorem dX4_readToken_92 : decode cX4_readToken 92 = .ok (.aload_n 0, 1) := by decide +kernel
theorem dX4_readToken_93 : decode cX4_readToken 93 = .ok (.getfield 9, 3) := by decide +kernel
theorem dX4_readToken_96 : decode cX4_readToken 96 = .ok (.aload_n 0, 1) := by decide +kernel
theorem dX4_readToken_97 : decode cX4_readToken 97 = .ok (.getfield 25, 3) := by decide +kernel
theorem dX4_readToken_100 : decode cX4_readToken 100 = .ok (.caload, 1) := by decide +kernel
theorem dX4_readToken_101 : decode cX4_readToken 101 = .ok (.bipush 48, 2) := by decide +kernel
theorem dX4_readToken_103 : decode cX4_readToken 103 = .ok (.isub, 1) := by decide +kernel
theorem dX4_readToken_104 : decode cX4_readToken 104 = .ok (.putfield 61, 3) := by decide +kernel
theorem dX4_readToken_107 : decode cX4_readToken 107 = .ok (.aload_n 0, 1) := by decide +kernel
theorem dX4_readToken_108 : decode cX4_readToken 108 = .ok (.bipush (-2), 2) := by decide +kernel
theorem dX4_readToken_110 : decode cX4_readToken 110 = .ok (.putfield 31, 3) := by decide +kernel
theorem dX4_readToken_113 : decode cX4_readToken 113 = .ok (.aload_n 0, 1) := by decide +kernel
theorem dX4_readToken_114 : decode cX4_readToken 114 = .ok (.dup, 1) := by decide +kernel
theorem dX4_readToken_115 : decode cX4_readToken 115 = .ok (.getfield 25, 3) := by decide +kernel
theorem dX4_readToken_118 : decode cX4_readToken 118 = .ok (.iconst 1, 1) := by decide +kernel
theorem dX4_readToken_119 : decode cX4_readToken 119 = .ok (.iadd, 1) := by decide +kernel
theorem dX4_readToken_120 : decode cX4_readToken 120 = .ok (.putfield 25, 3) := by decide +kernel
theorem dX4_readToken_123 : decode cX4_readToken 123 = .ok (.aload_n 0, 1) := by decide +kernel
theorem dX4_readToken_124 : decode cX4_readToken 124 = .ok (.getfield 31, 3) := by decide +kernel
theorem dX4_readToken_127 : decode cX4_readToken 127 = .ok (.bipush (-2), 2) := by decide +kernel
theorem dX4_readToken_129 : decode cX4_readToken 129 = .ok (.if_icmp .ne 47, 3) := by decide +kernel
theorem dX4_readToken_132 : decode cX4_readToken 132 = .ok (.aload_n 0, 1) := by decide +kernel
theorem dX4_readToken_133 : decode cX4_readToken 133 = .ok (.getfield 25, 3) := by decide +kernel
theorem dX4_readToken_136 : decode cX4_readToken 136 = .ok (.aload_n 0, 1) := by decide +kernel
theorem dX4_readToken_137 : decode cX4_readToken 137 = .ok (.getfield 15, 3) := by decide +kernel
theorem dX4_readToken_140 : decode cX4_readToken 140 = .ok (.if_icmp .ge 36, 3) := by decide +kernel
theorem dX4_readToken_143 : decode cX4_readToken 143 = .ok (.aload_n 0, 1) := by decide +kernel
theorem dX4_readToken_144 : decode cX4_readToken 144 = .ok (.getfield 9, 3) := by decide +kernel
theorem dX4_readToken_147 : decode cX4_readToken 147 = .ok (.aload_n 0, 1) := by decide +kernel
theorem dX4_readToken_148 : decode cX4_readToken 148 = .ok (.getfield 25, 3) := by decide +kernel
theorem dX4_readToken_151 : decode cX4_readToken 151 = .ok (.caload, 1) := by decide +kernel
theorem dX4_readToken_152 : decode cX4_readToken 152 = .ok (.invokestatic 84, 3) := by decide +kernel
theorem dX4_readToken_155 : decode cX4_readToken 155 = .ok (.ifCond .eq 21, 3) := by decide +kernel
theorem dX4_readToken_158 : decode cX4_readToken 158 = .ok (.aload_n 0, 1) := by decide +kernel
theorem dX4_readToken_159 : decode cX4_readToken 159 = .ok (.iconst (-1), 1) := by decide +kernel
theorem dX4_readToken_160 : decode cX4_readToken 160 = .ok (.putfield 61, 3) := by decide +kernel
theorem dX4_readToken_163 : decode cX4_readToken 163 = .ok (.aload_n 0, 1) := by decide +kernel
theorem dX4_readToken_164 : decode cX4_readToken 164 = .ok (.dup, 1) := by decide +kernel
theorem dX4_readToken_165 : decode cX4_readToken 165 = .ok (.getfield 25, 3) := by decide +kernel
theorem dX4_readToken_168 : decode cX4_readToken 168 = .ok (.iconst 1, 1) := by decide +kernel
theorem dX4_readToken_169 : decode cX4_readToken 169 = .ok (.iadd, 1) := by decide +kernel
theorem dX4_readToken_170 : decode cX4_readToken 170 = .ok (.putfield 25, 3) := by decide +kernel
theorem dX4_readToken_173 : decode cX4_readToken 173 = .ok (.goto (-50), 3) := by decide +kernel
theorem dX4_readToken_176 : decode cX4_readToken 176 = .ok (.return_, 1) := by decide +kernel
theorem dX4_isFigure_0 : decode cX4_isFigure 0 = .ok (.iload_n 0, 1) := by decide +kernel
theorem dX4_isFigure_1 : decode cX4_isFigure 1 = .ok (.bipush 48, 2) := by decide +kernel
theorem dX4_isFigure_3 : decode cX4_isFigure 3 = .ok (.if_icmp .lt 13, 3) := by decide +kernel
theorem dX4_isFigure_6 : decode cX4_isFigure 6 = .ok (.iload_n 0, 1) := by decide +kernel
theorem dX4_isFigure_7 : decode cX4_isFigure 7 = .ok (.bipush 57, 2) := by decide +kernel
theorem dX4_isFigure_9 : decode cX4_isFigure 9 = .ok (.if_icmp .gt 7, 3) := by decide +kernel
theorem dX4_isFigure_12 : decode cX4_isFigure 12 = .ok (.iconst 1, 1) := by decide +kernel
theorem dX4_isFigure_13 : decode cX4_isFigure 13 = .ok (.goto 4, 3) := by decide +kernel
theorem dX4_isFigure_16 : decode cX4_isFigure 16 = .ok (.iconst 0, 1) := by decide +kernel
theorem dX4_isFigure_17 : decode cX4_isFigure 17 = .ok (.ireturn, 1) := by decide +kernel
theorem dX5_init_0 : decode cX5_init 0 = .ok (.aload_n 0, 1) := by decide +kernel
theorem dX5_init_1 : decode cX5_init 1 = .ok (.invokespecial 3, 3) := by decide +kernel
theorem dX5_init_4 : decode cX5_init 4 = .ok (.aload_n 0, 1) := by decide +kernel
theorem dX5_init_5 : decode cX5_init 5 = .ok (.new 9, 3) := by decide +kernel
theorem dX5_init_8 : decode cX5_init 8 = .ok (.dup, 1) := by decide +kernel
theorem dX5_init_9 : decode cX5_init 9 = .ok (.invokespecial 11, 3) := by decide +kernel
theorem dX5_init_12 : decode cX5_init 12 = .ok (.putfield 12, 3) := by decide +kernel
theorem dX5_init_15 : decode cX5_init 15 = .ok (.aload_n 0, 1) := by decide +kernel
theorem dX5_init_16 : decode cX5_init 16 = .ok (.new 9, 3) := by decide +kernel
theorem dX5_init_19 : decode cX5_init 19 = .ok (.dup, 1) := by decide +kernel
theorem dX5_init_20 : decode cX5_init 20 = .ok (.invokespecial 11, 3) := by decide +kernel
theorem dX5_init_23 : decode cX5_init 23 = .ok (.putfield 16, 3) := by decide +kernel
theorem dX5_init_26 : decode cX5_init 26 = .ok (.aload_n 0, 1) := by decide +kernel
theorem dX5_init_27 : decode cX5_init 27 = .ok (.new 19, 3) := by decide +kernel
theorem dX5_init_30 : decode cX5_init 30 = .ok (.dup, 1) := by decide +kernel
theorem dX5_init_31 : decode cX5_init 31 = .ok (.invokespecial 21, 3) := by decide +kernel
theorem dX5_init_34 : decode cX5_init 34 = .ok (.putfield 22, 3) := by decide +kernel
theorem dX5_init_37 : decode cX5_init 37 = .ok (.aload_n 0, 1) := by decide +kernel
theorem dX5_init_38 : decode cX5_init 38 = .ok (.new 26, 3) := by decide +kernel
theorem dX5_init_41 : decode cX5_init 41 = .ok (.dup, 1) := by decide +kernel
theorem dX5_init_42 : decode cX5_init 42 = .ok (.invokespecial 28, 3) := by decide +kernel
theorem dX5_init_45 : decode cX5_init 45 = .ok (.putfield 29, 3) := by decide +kernel
theorem dX5_init_48 : decode cX5_init 48 = .ok (.aload_n 0, 1) := by decide +kernel
theorem dX5_init_49 : decode cX5_init 49 = .ok (.new 33, 3) := by decide +kernel
theorem dX5_init_52 : decode cX5_init 52 = .ok (.dup, 1) := by decide +kernel
theorem dX5_init_53 : decode cX5_init 53 = .ok (.invokespecial 35, 3) := by decide +kernel
theorem dX5_init_56 : decode cX5_init 56 = .ok (.putfield 36, 3) := by decide +kernel
theorem dX5_init_59 : decode cX5_init 59 = .ok (.aload_n 0, 1) := by decide +kernel
theorem dX5_init_60 : decode cX5_init 60 = .ok (.new 40, 3) := by decide +kernel
theorem dX5_init_63 : decode cX5_init 63 = .ok (.dup, 1) := by decide +kernel
theorem dX5_init_64 : decode cX5_init 64 = .ok (.invokespecial 42, 3) := by decide +kernel
theorem dX5_init_67 : decode cX5_init 67 = .ok (.putfield 43, 3) := by decide +kernel
theorem dX5_init_70 : decode cX5_init 70 = .ok (.aload_n 0, 1) := by decide +kernel
theorem dX5_init_71 : decode cX5_init 71 = .ok (.iconst 2, 1) := by decide +kernel
theorem dX5_init_72 : decode cX5_init 72 = .ok (.anewarray 9, 3) := by decide +kernel
theorem dX5_init_75 : decode cX5_init 75 = .ok (.putfield 47, 3) := by decide +kernel
theorem dX5_init_78 : decode cX5_init 78 = .ok (.aload_n 0, 1) := by decide +kernel
theorem dX5_init_79 : decode cX5_init 79 = .ok (.iconst 2, 1) := by decide +kernel
theorem dX5_init_80 : decode cX5_init 80 = .ok (.newarray .boolean, 2) := by decide +kernel
theorem dX5_init_82 : decode cX5_init 82 = .ok (.putfield 51, 3) := by decide +kernel
theorem dX5_init_85 : decode cX5_init 85 = .ok (.aload_n 0, 1) := by decide +kernel
theorem dX5_init_86 : decode cX5_init 86 = .ok (.bipush 18, 2) := by decide +kernel
theorem dX5_init_88 : decode cX5_init 88 = .ok (.newarray .int, 2) := by decide +kernel
theorem dX5_init_90 : decode cX5_init 90 = .ok (.putfield 55, 3) := by decide +kernel
theorem dX5_init_93 : decode cX5_init 93 = .ok (.iconst 0, 1) := by decide +kernel
theorem dX5_init_94 : decode cX5_init 94 = .ok (.istore_n 1, 1) := by decide +kernel
theorem dX5_init_95 : decode cX5_init 95 = .ok (.iload_n 1, 1) := by decide +kernel
theorem dX5_init_96 : decode cX5_init 96 = .ok (.iconst 2, 1) := by decide +kernel
theorem dX5_init_97 : decode cX5_init 97 = .ok (.if_icmp .ge 22, 3) := by decide +kernel
theorem dX5_init_100 : decode cX5_init 100 = .ok (.aload_n 0, 1) := by decide +kernel
theorem dX5_init_101 : decode cX5_init 101 = .ok (.getfield 47, 3) := by decide +kernel
theorem dX5_init_104 : decode cX5_init 104 = .ok (.iload_n 1, 1) := by decide +kernel
theorem dX5_init_105 : decode cX5_init 105 = .ok (.new 9, 3) := by decide +kernel
theorem dX5_init_108 : decode cX5_init 108 = .ok (.dup, 1) := by decide +kernel
theorem dX5_init_109 : decode cX5_init 109 = .ok (.invokespecial 11, 3) := by decide +kernel
theorem dX5_init_112 : decode cX5_init 112 = .ok (.aastore, 1) := by decide +kernel
theorem dX5_init_113 : decode cX5_init 113 = .ok (.iinc 1 1, 3) := by decide +kernel
theorem dX5_init_116 : decode cX5_init 116 = .ok (.goto (-21), 3) := by decide +kernel
theorem dX5_init_119 : decode cX5_init 119 = .ok (.aload_n 0, 1) := by decide +kernel
theorem dX5_init_120 : decode cX5_init 120 = .ok (.getfield 12, 3) := by decide +kernel
theorem dX5_init_123 : decode cX5_init 123 = .ok (.bipush 6, 2) := by decide +kernel
theorem dX5_init_125 : decode cX5_init 125 = .ok (.bipush 6, 2) := by decide +kernel
theorem dX5_init_127 : decode cX5_init 127 = .ok (.invokevirtual 59, 3) := by decide +kernel
theorem dX5_init_130 : decode cX5_init 130 = .ok (.return_, 1) := by decide +kernel
theorem dX5_type_0 : decode cX5_type 0 = .ok (.iload_n 1, 1) := by decide +kernel
theorem dX5_type_1 : decode cX5_type 1 = .ok (.ifCond .lt 10, 3) := by decide +kernel
theorem dX5_type_4 : decode cX5_type 4 = .ok (.iload_n 1, 1) := by decide +kernel
theorem dX5_type_5 : decode cX5_type 5 = .ok (.sipush 255, 3) := by decide +kernel
theorem dX5_type_8 : decode cX5_type 8 = .ok (.if_icmp .le 5, 3) := by decide +kernel
theorem dX5_type_11 : decode cX5_type 11 = .ok (.iconst (-1), 1) := by decide +kernel
theorem dX5_type_12 : decode cX5_type 12 = .ok (.ireturn, 1) := by decide +kernel
theorem dX5_type_13 : decode cX5_type 13 = .ok (.aload_n 0, 1) := by decide +kernel
theorem dX5_type_14 : decode cX5_type 14 = .ok (.getfield 22, 3) := by decide +kernel
theorem dX5_type_17 : decode cX5_type 17 = .ok (.getfield 63, 3) := by decide +kernel
theorem dX5_type_20 : decode cX5_type 20 = .ok (.bipush 120, 2) := by decide +kernel
theorem dX5_type_22 : decode cX5_type 22 = .ok (.if_icmp .lt 6, 3) := by decide +kernel
theorem dX5_type_25 : decode cX5_type 25 = .ok (.bipush (-3), 2) := by decide +kernel
theorem dX5_type_27 : decode cX5_type 27 = .ok (.ireturn, 1) := by decide +kernel
theorem dX5_type_28 : decode cX5_type 28 = .ok (.aload_n 0, 1) := by decide +kernel
theorem dX5_type_29 : decode cX5_type 29 = .ok (.getfield 22, 3) := by decide +kernel
theorem dX5_type_32 : decode cX5_type 32 = .ok (.iload_n 1, 1) := by decide +kernel
theorem dX5_type_33 : decode cX5_type 33 = .ok (.i2c, 1) := by decide +kernel
theorem dX5_type_34 : decode cX5_type 34 = .ok (.invokevirtual 67, 3) := by decide +kernel
theorem dX5_type_37 : decode cX5_type 37 = .ok (.aload_n 0, 1) := by decide +kernel
theorem dX5_type_38 : decode cX5_type 38 = .ok (.getfield 22, 3) := by decide +kernel
theorem dX5_type_41 : decode cX5_type 41 = .ok (.getfield 63, 3) := by decide +kernel
theorem dX5_type_44 : decode cX5_type 44 = .ok (.ireturn, 1) := by decide +kernel
theorem dX5_clear_0 : decode cX5_clear 0 = .ok (.aload_n 0, 1) := by decide +kernel
theorem dX5_clear_1 : decode cX5_clear 1 = .ok (.getfield 22, 3) := by decide +kernel
theorem dX5_clear_4 : decode cX5_clear 4 = .ok (.getfield 63, 3) := by decide +kernel
theorem dX5_clear_7 : decode cX5_clear 7 = .ok (.istore_n 1, 1) := by decide +kernel
theorem dX5_clear_8 : decode cX5_clear 8 = .ok (.aload_n 0, 1) := by decide +kernel
theorem dX5_clear_9 : decode cX5_clear 9 = .ok (.getfield 22, 3) := by decide +kernel
theorem dX5_clear_12 : decode cX5_clear 12 = .ok (.iconst 0, 1) := by decide +kernel
theorem dX5_clear_13 : decode cX5_clear 13 = .ok (.putfield 63, 3) := by decide +kernel
theorem dX5_clear_16 : decode cX5_clear 16 = .ok (.iload_n 1, 1) := by decide +kernel
theorem dX5_clear_17 : decode cX5_clear 17 = .ok (.ireturn, 1) := by decide +kernel
theorem dX5_plan_0 : decode cX5_plan 0 = .ok (.aload_n 0, 1) := by decide +kernel
theorem dX5_plan_1 : decode cX5_plan 1 = .ok (.getfield 22, 3) := by decide +kernel
theorem dX5_plan_4 : decode cX5_plan 4 = .ok (.aload_n 0, 1) := by decide +kernel
theorem dX5_plan_5 : decode cX5_plan 5 = .ok (.getfield 16, 3) := by decide +kernel
theorem dX5_plan_8 : decode cX5_plan 8 = .ok (.invokevirtual 71, 3) := by decide +kernel
theorem dX5_plan_11 : decode cX5_plan 11 = .ok (.istore_n 1, 1) := by decide +kernel
theorem dX5_plan_12 : decode cX5_plan 12 = .ok (.iload_n 1, 1) := by decide +kernel
theorem dX5_plan_13 : decode cX5_plan 13 = .ok (.ifCond .ge 5, 3) := by decide +kernel
theorem dX5_plan_16 : decode cX5_plan 16 = .ok (.iload_n 1, 1) := by decide +kernel
theorem dX5_plan_17 : decode cX5_plan 17 = .ok (.ireturn, 1) := by decide +kernel
theorem dX5_plan_18 : decode cX5_plan 18 = .ok (.aload_n 0, 1) := by decide +kernel
theorem dX5_plan_19 : decode cX5_plan 19 = .ok (.getfield 12, 3) := by decide +kernel
theorem dX5_plan_22 : decode cX5_plan 22 = .ok (.aload_n 0, 1) := by decide +kernel
theorem dX5_plan_23 : decode cX5_plan 23 = .ok (.getfield 16, 3) := by decide +kernel
theorem dX5_plan_26 : decode cX5_plan 26 = .ok (.invokevirtual 75, 3) := by decide +kernel
theorem dX5_plan_29 : decode cX5_plan 29 = .ok (.aload_n 0, 1) := by decide +kernel
theorem dX5_plan_30 : decode cX5_plan 30 = .ok (.getfield 22, 3) := by decide +kernel
theorem dX5_plan_33 : decode cX5_plan 33 = .ok (.iconst 0, 1) := by decide +kernel
theorem dX5_plan_34 : decode cX5_plan 34 = .ok (.putfield 63, 3) := by decide +kernel
theorem dX5_plan_37 : decode cX5_plan 37 = .ok (.aload_n 0, 1) := by decide +kernel
theorem dX5_plan_38 : decode cX5_plan 38 = .ok (.getfield 29, 3) := by decide +kernel
theorem dX5_plan_41 : decode cX5_plan 41 = .ok (.iconst 0, 1) := by decide +kernel
theorem dX5_plan_42 : decode cX5_plan 42 = .ok (.putfield 79, 3) := by decide +kernel
theorem dX5_plan_45 : decode cX5_plan 45 = .ok (.aload_n 0, 1) := by decide +kernel
theorem dX5_plan_46 : decode cX5_plan 46 = .ok (.iconst 0, 1) := by decide +kernel
theorem dX5_plan_47 : decode cX5_plan 47 = .ok (.putfield 82, 3) := by decide +kernel
theorem dX5_plan_50 : decode cX5_plan 50 = .ok (.iconst 0, 1) := by decide +kernel
theorem dX5_plan_51 : decode cX5_plan 51 = .ok (.istore_n 2, 1) := by decide +kernel
theorem dX5_plan_52 : decode cX5_plan 52 = .ok (.iload_n 2, 1) := by decide +kernel
theorem dX5_plan_53 : decode cX5_plan 53 = .ok (.iconst 2, 1) := by decide +kernel
theorem dX5_plan_54 : decode cX5_plan 54 = .ok (.if_icmp .ge 16, 3) := by decide +kernel
theorem dX5_plan_57 : decode cX5_plan 57 = .ok (.aload_n 0, 1) := by decide +kernel
theorem dX5_plan_58 : decode cX5_plan 58 = .ok (.getfield 51, 3) := by decide +kernel
theorem dX5_plan_61 : decode cX5_plan 61 = .ok (.iload_n 2, 1) := by decide +kernel
theorem dX5_plan_62 : decode cX5_plan 62 = .ok (.iconst 0, 1) := by decide +kernel
theorem dX5_plan_63 : decode cX5_plan 63 = .ok (.bastore, 1) := by decide +kernel
theorem dX5_plan_64 : decode cX5_plan 64 = .ok (.iinc 2 1, 3) := by decide +kernel
theorem dX5_plan_67 : decode cX5_plan 67 = .ok (.goto (-15), 3) := by decide +kernel
theorem dX5_plan_70 : decode cX5_plan 70 = .ok (.iload_n 1, 1) := by decide +kernel
theorem dX5_plan_71 : decode cX5_plan 71 = .ok (.ireturn, 1) := by decide +kernel
theorem dX5_wall_0 : decode cX5_wall 0 = .ok (.aload_n 0, 1) := by decide +kernel
theorem dX5_wall_1 : decode cX5_wall 1 = .ok (.getfield 12, 3) := by decide +kernel
theorem dX5_wall_4 : decode cX5_wall 4 = .ok (.iload_n 1, 1) := by decide +kernel
theorem dX5_wall_5 : decode cX5_wall 5 = .ok (.invokevirtual 85, 3) := by decide +kernel
theorem dX5_wall_8 : decode cX5_wall 8 = .ok (.ifCond .eq 12, 3) := by decide +kernel
theorem dX5_wall_11 : decode cX5_wall 11 = .ok (.iload_n 2, 1) := by decide +kernel
theorem dX5_wall_12 : decode cX5_wall 12 = .ok (.ifCond .lt 8, 3) := by decide +kernel
theorem dX5_wall_15 : decode cX5_wall 15 = .ok (.iload_n 2, 1) := by decide +kernel
theorem dX5_wall_16 : decode cX5_wall 16 = .ok (.iconst 4, 1) := by decide +kernel
theorem dX5_wall_17 : decode cX5_wall 17 = .ok (.if_icmp .lt 5, 3) := by decide +kernel
theorem dX5_wall_20 : decode cX5_wall 20 = .ok (.iconst (-1), 1) := by decide +kernel
theorem dX5_wall_21 : decode cX5_wall 21 = .ok (.ireturn, 1) := by decide +kernel
theorem dX5_wall_22 : decode cX5_wall 22 = .ok (.aload_n 0, 1) := by decide +kernel
theorem dX5_wall_23 : decode cX5_wall 23 = .ok (.getfield 12, 3) := by decide +kernel
theorem dX5_wall_26 : decode cX5_wall 26 = .ok (.iload_n 1, 1) := by decide +kernel
theorem dX5_wall_27 : decode cX5_wall 27 = .ok (.iload_n 2, 1) := by decide +kernel
theorem dX5_wall_28 : decode cX5_wall 28 = .ok (.invokevirtual 89, 3) := by decide +kernel
theorem dX5_wall_31 : decode cX5_wall 31 = .ok (.ireturn, 1) := by decide +kernel
theorem dX5_lamp_0 : decode cX5_lamp 0 = .ok (.aload_n 0, 1) := by decide +kernel
theorem dX5_lamp_1 : decode cX5_lamp 1 = .ok (.getfield 12, 3) := by decide +kernel
theorem dX5_lamp_4 : decode cX5_lamp 4 = .ok (.iload_n 1, 1) := by decide +kernel
theorem dX5_lamp_5 : decode cX5_lamp 5 = .ok (.invokevirtual 93, 3) := by decide +kernel
theorem dX5_lamp_8 : decode cX5_lamp 8 = .ok (.ifCond .eq 12, 3) := by decide +kernel
theorem dX5_lamp_11 : decode cX5_lamp 11 = .ok (.iload_n 2, 1) := by decide +kernel
theorem dX5_lamp_12 : decode cX5_lamp 12 = .ok (.ifCond .lt 8, 3) := by decide +kernel
theorem dX5_lamp_15 : decode cX5_lamp 15 = .ok (.iload_n 2, 1) := by decide +kernel
theorem dX5_lamp_16 : decode cX5_lamp 16 = .ok (.iconst 3, 1) := by decide +kernel
theorem dX5_lamp_17 : decode cX5_lamp 17 = .ok (.if_icmp .lt 5, 3) := by decide +kernel
theorem dX5_lamp_20 : decode cX5_lamp 20 = .ok (.iconst (-1), 1) := by decide +kernel
theorem dX5_lamp_21 : decode cX5_lamp 21 = .ok (.ireturn, 1) := by decide +kernel
theorem dX5_lamp_22 : decode cX5_lamp 22 = .ok (.aload_n 0, 1) := by decide +kernel
theorem dX5_lamp_23 : decode cX5_lamp 23 = .ok (.getfield 12, 3) := by decide +kernel
theorem dX5_lamp_26 : decode cX5_lamp 26 = .ok (.iload_n 1, 1) := by decide +kernel
theorem dX5_lamp_27 : decode cX5_lamp 27 = .ok (.iload_n 2, 1) := by decide +kernel
theorem dX5_lamp_28 : decode cX5_lamp 28 = .ok (.invokevirtual 96, 3) := by decide +kernel
theorem dX5_lamp_31 : decode cX5_lamp 31 = .ok (.ireturn, 1) := by decide +kernel
theorem dX5_puts_0 : decode cX5_puts 0 = .ok (.aload_n 0, 1) := by decide +kernel
theorem dX5_puts_1 : decode cX5_puts 1 = .ok (.getfield 12, 3) := by decide +kernel
theorem dX5_puts_4 : decode cX5_puts 4 = .ok (.iload_n 1, 1) := by decide +kernel
theorem dX5_puts_5 : decode cX5_puts 5 = .ok (.iload_n 2, 1) := by decide +kernel
theorem dX5_puts_6 : decode cX5_puts 6 = .ok (.invokevirtual 99, 3) := by decide +kernel
theorem dX5_puts_9 : decode cX5_puts 9 = .ok (.ifCond .ne 5, 3) := by decide +kernel
theorem dX5_puts_12 : decode cX5_puts 12 = .ok (.iconst (-1), 1) := by decide +kernel
theorem dX5_puts_13 : decode cX5_puts 13 = .ok (.ireturn, 1) := by decide +kernel
theorem dX5_puts_14 : decode cX5_puts 14 = .ok (.aload_n 0, 1) := by decide +kernel
theorem dX5_puts_15 : decode cX5_puts 15 = .ok (.getfield 12, 3) := by decide +kernel
theorem dX5_puts_18 : decode cX5_puts 18 = .ok (.iload_n 1, 1) := by decide +kernel
theorem dX5_puts_19 : decode cX5_puts 19 = .ok (.iload_n 2, 1) := by decide +kernel
theorem dX5_puts_20 : decode cX5_puts 20 = .ok (.invokevirtual 103, 3) := by decide +kernel
theorem dX5_puts_23 : decode cX5_puts 23 = .ok (.ifCond .eq 6, 3) := by decide +kernel
theorem dX5_puts_26 : decode cX5_puts 26 = .ok (.bipush (-2), 2) := by decide +kernel
theorem dX5_puts_28 : decode cX5_puts 28 = .ok (.ireturn, 1) := by decide +kernel
theorem dX5_puts_29 : decode cX5_puts 29 = .ok (.aload_n 0, 1) := by decide +kernel
theorem dX5_puts_30 : decode cX5_puts 30 = .ok (.getfield 12, 3) := by decide +kernel
theorem dX5_puts_33 : decode cX5_puts 33 = .ok (.getfield 106, 3) := by decide +kernel
theorem dX5_puts_36 : decode cX5_puts 36 = .ok (.bipush 8, 2) := by decide +kernel
theorem dX5_puts_38 : decode cX5_puts 38 = .ok (.if_icmp .lt 6, 3) := by decide +kernel
theorem dX5_puts_41 : decode cX5_puts 41 = .ok (.bipush (-3), 2) := by decide +kernel
theorem dX5_puts_43 : decode cX5_puts 43 = .ok (.ireturn, 1) := by decide +kernel
theorem dX5_puts_44 : decode cX5_puts 44 = .ok (.aload_n 0, 1) := by decide +kernel
theorem dX5_puts_45 : decode cX5_puts 45 = .ok (.getfield 29, 3) := by decide +kernel
theorem dX5_puts_48 : decode cX5_puts 48 = .ok (.aload_n 0, 1) := by decide +kernel
theorem dX5_puts_49 : decode cX5_puts 49 = .ok (.getfield 12, 3) := by decide +kernel
theorem dX5_puts_52 : decode cX5_puts 52 = .ok (.invokevirtual 109, 3) := by decide +kernel
theorem dX5_puts_55 : decode cX5_puts 55 = .ok (.aload_n 0, 1) := by decide +kernel
theorem dX5_puts_56 : decode cX5_puts 56 = .ok (.getfield 12, 3) := by decide +kernel
theorem dX5_puts_59 : decode cX5_puts 59 = .ok (.iload_n 1, 1) := by decide +kernel
theorem dX5_puts_60 : decode cX5_puts 60 = .ok (.iload_n 2, 1) := by decide +kernel
theorem dX5_puts_61 : decode cX5_puts 61 = .ok (.invokevirtual 112, 3) := by decide +kernel
theorem dX5_puts_64 : decode cX5_puts 64 = .ok (.aload_n 0, 1) := by decide +kernel
theorem dX5_puts_65 : decode cX5_puts 65 = .ok (.getfield 12, 3) := by decide +kernel
theorem dX5_puts_68 : decode cX5_puts 68 = .ok (.getfield 106, 3) := by decide +kernel
theorem dX5_puts_71 : decode cX5_puts 71 = .ok (.ireturn, 1) := by decide +kernel
theorem dX5_takes_0 : decode cX5_takes 0 = .ok (.aload_n 0, 1) := by decide +kernel
theorem dX5_takes_1 : decode cX5_takes 1 = .ok (.getfield 12, 3) := by decide +kernel
theorem dX5_takes_4 : decode cX5_takes 4 = .ok (.iload_n 1, 1) := by decide +kernel
theorem dX5_takes_5 : decode cX5_takes 5 = .ok (.invokevirtual 93, 3) := by decide +kernel
theorem dX5_takes_8 : decode cX5_takes 8 = .ok (.ifCond .ne 5, 3) := by decide +kernel
theorem dX5_takes_11 : decode cX5_takes 11 = .ok (.iconst (-1), 1) := by decide +kernel
theorem dX5_takes_12 : decode cX5_takes 12 = .ok (.ireturn, 1) := by decide +kernel
theorem dX5_takes_13 : decode cX5_takes 13 = .ok (.aload_n 0, 1) := by decide +kernel
theorem dX5_takes_14 : decode cX5_takes 14 = .ok (.getfield 29, 3) := by decide +kernel
theorem dX5_takes_17 : decode cX5_takes 17 = .ok (.aload_n 0, 1) := by decide +kernel
theorem dX5_takes_18 : decode cX5_takes 18 = .ok (.getfield 12, 3) := by decide +kernel
theorem dX5_takes_21 : decode cX5_takes 21 = .ok (.invokevirtual 109, 3) := by decide +kernel
theorem dX5_takes_24 : decode cX5_takes 24 = .ok (.aload_n 0, 1) := by decide +kernel
theorem dX5_takes_25 : decode cX5_takes 25 = .ok (.getfield 12, 3) := by decide +kernel
theorem dX5_takes_28 : decode cX5_takes 28 = .ok (.iload_n 1, 1) := by decide +kernel
theorem dX5_takes_29 : decode cX5_takes 29 = .ok (.invokevirtual 115, 3) := by decide +kernel
theorem dX5_takes_32 : decode cX5_takes 32 = .ok (.aload_n 0, 1) := by decide +kernel
theorem dX5_takes_33 : decode cX5_takes 33 = .ok (.getfield 12, 3) := by decide +kernel
theorem dX5_takes_36 : decode cX5_takes 36 = .ok (.getfield 106, 3) := by decide +kernel
theorem dX5_takes_39 : decode cX5_takes 39 = .ok (.ireturn, 1) := by decide +kernel
theorem dX5_switches_0 : decode cX5_switches 0 = .ok (.aload_n 0, 1) := by decide +kernel
theorem dX5_switches_1 : decode cX5_switches 1 = .ok (.getfield 12, 3) := by decide +kernel
theorem dX5_switches_4 : decode cX5_switches 4 = .ok (.iload_n 1, 1) := by decide +kernel
theorem dX5_switches_5 : decode cX5_switches 5 = .ok (.invokevirtual 93, 3) := by decide +kernel
theorem dX5_switches_8 : decode cX5_switches 8 = .ok (.ifCond .ne 5, 3) := by decide +kernel
theorem dX5_switches_11 : decode cX5_switches 11 = .ok (.iconst (-1), 1) := by decide +kernel
theorem dX5_switches_12 : decode cX5_switches 12 = .ok (.ireturn, 1) := by decide +kernel
theorem dX5_switches_13 : decode cX5_switches 13 = .ok (.aload_n 0, 1) := by decide +kernel
theorem dX5_switches_14 : decode cX5_switches 14 = .ok (.getfield 29, 3) := by decide +kernel
theorem dX5_switches_17 : decode cX5_switches 17 = .ok (.aload_n 0, 1) := by decide +kernel
theorem dX5_switches_18 : decode cX5_switches 18 = .ok (.getfield 12, 3) := by decide +kernel
theorem dX5_switches_21 : decode cX5_switches 21 = .ok (.invokevirtual 109, 3) := by decide +kernel
theorem dX5_switches_24 : decode cX5_switches 24 = .ok (.aload_n 0, 1) := by decide +kernel
theorem dX5_switches_25 : decode cX5_switches 25 = .ok (.getfield 12, 3) := by decide +kernel
theorem dX5_switches_28 : decode cX5_switches 28 = .ok (.iload_n 1, 1) := by decide +kernel
theorem dX5_switches_29 : decode cX5_switches 29 = .ok (.invokevirtual 119, 3) := by decide +kernel
theorem dX5_switches_32 : decode cX5_switches 32 = .ok (.ireturn, 1) := by decide +kernel
theorem dX5_builds_0 : decode cX5_builds 0 = .ok (.aload_n 0, 1) := by decide +kernel
theorem dX5_builds_1 : decode cX5_builds 1 = .ok (.getfield 12, 3) := by decide +kernel
theorem dX5_builds_4 : decode cX5_builds 4 = .ok (.iload_n 1, 1) := by decide +kernel
theorem dX5_builds_5 : decode cX5_builds 5 = .ok (.iload_n 2, 1) := by decide +kernel
theorem dX5_builds_6 : decode cX5_builds 6 = .ok (.iload_n 3, 1) := by decide +kernel
theorem dX5_builds_7 : decode cX5_builds 7 = .ok (.iload 4, 2) := by decide +kernel
theorem dX5_builds_9 : decode cX5_builds 9 = .ok (.invokevirtual 123, 3) := by decide +kernel
theorem dX5_builds_12 : decode cX5_builds 12 = .ok (.ifCond .ne 5, 3) := by decide +kernel
theorem dX5_builds_15 : decode cX5_builds 15 = .ok (.iconst (-1), 1) := by decide +kernel
theorem dX5_builds_16 : decode cX5_builds 16 = .ok (.ireturn, 1) := by decide +kernel
theorem dX5_builds_17 : decode cX5_builds 17 = .ok (.aload_n 0, 1) := by decide +kernel
theorem dX5_builds_18 : decode cX5_builds 18 = .ok (.getfield 12, 3) := by decide +kernel
theorem dX5_builds_21 : decode cX5_builds 21 = .ok (.getfield 127, 3) := by decide +kernel
theorem dX5_builds_24 : decode cX5_builds 24 = .ok (.bipush 14, 2) := by decide +kernel
theorem dX5_builds_26 : decode cX5_builds 26 = .ok (.if_icmp .lt 6, 3) := by decide +kernel
theorem dX5_builds_29 : decode cX5_builds 29 = .ok (.bipush (-3), 2) := by decide +kernel
theorem dX5_builds_31 : decode cX5_builds 31 = .ok (.ireturn, 1) := by decide +kernel
theorem dX5_builds_32 : decode cX5_builds 32 = .ok (.aload_n 0, 1) := by decide +kernel
theorem dX5_builds_33 : decode cX5_builds 33 = .ok (.getfield 29, 3) := by decide +kernel
theorem dX5_builds_36 : decode cX5_builds 36 = .ok (.aload_n 0, 1) := by decide +kernel
theorem dX5_builds_37 : decode cX5_builds 37 = .ok (.getfield 12, 3) := by decide +kernel
theorem dX5_builds_40 : decode cX5_builds 40 = .ok (.invokevirtual 109, 3) := by decide +kernel
theorem dX5_builds_43 : decode cX5_builds 43 = .ok (.aload_n 0, 1) := by decide +kernel
theorem dX5_builds_44 : decode cX5_builds 44 = .ok (.getfield 12, 3) := by decide +kernel
theorem dX5_builds_47 : decode cX5_builds 47 = .ok (.iload_n 1, 1) := by decide +kernel
theorem dX5_builds_48 : decode cX5_builds 48 = .ok (.iload_n 2, 1) := by decide +kernel
theorem dX5_builds_49 : decode cX5_builds 49 = .ok (.iload_n 3, 1) := by decide +kernel
theorem dX5_builds_50 : decode cX5_builds 50 = .ok (.iload 4, 2) := by decide +kernel
theorem dX5_builds_52 : decode cX5_builds 52 = .ok (.invokevirtual 130, 3) := by decide +kernel
theorem dX5_builds_55 : decode cX5_builds 55 = .ok (.aload_n 0, 1) := by decide +kernel
theorem dX5_builds_56 : decode cX5_builds 56 = .ok (.getfield 12, 3) := by decide +kernel
theorem dX5_builds_59 : decode cX5_builds 59 = .ok (.getfield 127, 3) := by decide +kernel
theorem dX5_builds_62 : decode cX5_builds 62 = .ok (.ireturn, 1) := by decide +kernel
theorem dX5_breaks_0 : decode cX5_breaks 0 = .ok (.aload_n 0, 1) := by decide +kernel
theorem dX5_breaks_1 : decode cX5_breaks 1 = .ok (.getfield 12, 3) := by decide +kernel
theorem dX5_breaks_4 : decode cX5_breaks 4 = .ok (.iload_n 1, 1) := by decide +kernel
theorem dX5_breaks_5 : decode cX5_breaks 5 = .ok (.invokevirtual 134, 3) := by decide +kernel
theorem dX5_breaks_8 : decode cX5_breaks 8 = .ok (.ifCond .ne 5, 3) := by decide +kernel
theorem dX5_breaks_11 : decode cX5_breaks 11 = .ok (.iconst (-1), 1) := by decide +kernel
theorem dX5_breaks_12 : decode cX5_breaks 12 = .ok (.ireturn, 1) := by decide +kernel
theorem dX5_breaks_13 : decode cX5_breaks 13 = .ok (.aload_n 0, 1) := by decide +kernel
theorem dX5_breaks_14 : decode cX5_breaks 14 = .ok (.getfield 29, 3) := by decide +kernel
theorem dX5_breaks_17 : decode cX5_breaks 17 = .ok (.aload_n 0, 1) := by decide +kernel
theorem dX5_breaks_18 : decode cX5_breaks 18 = .ok (.getfield 12, 3) := by decide +kernel
theorem dX5_breaks_21 : decode cX5_breaks 21 = .ok (.invokevirtual 109, 3) := by decide +kernel
theorem dX5_breaks_24 : decode cX5_breaks 24 = .ok (.aload_n 0, 1) := by decide +kernel
theorem dX5_breaks_25 : decode cX5_breaks 25 = .ok (.getfield 12, 3) := by decide +kernel
theorem dX5_breaks_28 : decode cX5_breaks 28 = .ok (.iload_n 1, 1) := by decide +kernel
theorem dX5_breaks_29 : decode cX5_breaks 29 = .ok (.invokevirtual 137, 3) := by decide +kernel
theorem dX5_breaks_32 : decode cX5_breaks 32 = .ok (.aload_n 0, 1) := by decide +kernel
theorem dX5_breaks_33 : decode cX5_breaks 33 = .ok (.getfield 12, 3) := by decide +kernel
theorem dX5_breaks_36 : decode cX5_breaks 36 = .ok (.getfield 127, 3) := by decide +kernel
theorem dX5_breaks_39 : decode cX5_breaks 39 = .ok (.ireturn, 1) := by decide +kernel
theorem dX5_undo_0 : decode cX5_undo 0 = .ok (.aload_n 0, 1) := by decide +kernel
theorem dX5_undo_1 : decode cX5_undo 1 = .ok (.getfield 29, 3) := by decide +kernel
theorem dX5_undo_4 : decode cX5_undo 4 = .ok (.getfield 79, 3) := by decide +kernel
theorem dX5_undo_7 : decode cX5_undo 7 = .ok (.ifCond .gt 6, 3) := by decide +kernel
theorem dX5_undo_10 : decode cX5_undo 10 = .ok (.bipush (-2), 2) := by decide +kernel
theorem dX5_undo_12 : decode cX5_undo 12 = .ok (.ireturn, 1) := by decide +kernel
theorem dX5_undo_13 : decode cX5_undo 13 = .ok (.aload_n 0, 1) := by decide +kernel
theorem dX5_undo_14 : decode cX5_undo 14 = .ok (.getfield 29, 3) := by decide +kernel
theorem dX5_undo_17 : decode cX5_undo 17 = .ok (.aload_n 0, 1) := by decide +kernel
theorem dX5_undo_18 : decode cX5_undo 18 = .ok (.getfield 12, 3) := by decide +kernel
theorem dX5_undo_21 : decode cX5_undo 21 = .ok (.invokevirtual 140, 3) := by decide +kernel
theorem dX5_undo_24 : decode cX5_undo 24 = .ok (.aload_n 0, 1) := by decide +kernel
theorem dX5_undo_25 : decode cX5_undo 25 = .ok (.getfield 29, 3) := by decide +kernel
theorem dX5_undo_28 : decode cX5_undo 28 = .ok (.getfield 79, 3) := by decide +kernel
theorem dX5_undo_31 : decode cX5_undo 31 = .ok (.ireturn, 1) := by decide +kernel
theorem dX5_lit_0 : decode cX5_lit 0 = .ok (.aload_n 0, 1) := by decide +kernel
theorem dX5_lit_1 : decode cX5_lit 1 = .ok (.getfield 12, 3) := by decide +kernel
theorem dX5_lit_4 : decode cX5_lit 4 = .ok (.iload_n 1, 1) := by decide +kernel
theorem dX5_lit_5 : decode cX5_lit 5 = .ok (.invokevirtual 93, 3) := by decide +kernel
theorem dX5_lit_8 : decode cX5_lit 8 = .ok (.ifCond .eq 15, 3) := by decide +kernel
theorem dX5_lit_11 : decode cX5_lit 11 = .ok (.aload_n 0, 1) := by decide +kernel
theorem dX5_lit_12 : decode cX5_lit 12 = .ok (.getfield 12, 3) := by decide +kernel
theorem dX5_lit_15 : decode cX5_lit 15 = .ok (.iload_n 2, 1) := by decide +kernel
theorem dX5_lit_16 : decode cX5_lit 16 = .ok (.iload_n 3, 1) := by decide +kernel
theorem dX5_lit_17 : decode cX5_lit 17 = .ok (.invokevirtual 99, 3) := by decide +kernel
theorem dX5_lit_20 : decode cX5_lit 20 = .ok (.ifCond .ne 5, 3) := by decide +kernel
theorem dX5_lit_23 : decode cX5_lit 23 = .ok (.iconst (-1), 1) := by decide +kernel
theorem dX5_lit_24 : decode cX5_lit 24 = .ok (.ireturn, 1) := by decide +kernel
theorem dX5_lit_25 : decode cX5_lit 25 = .ok (.aload_n 0, 1) := by decide +kernel
theorem dX5_lit_26 : decode cX5_lit 26 = .ok (.getfield 12, 3) := by decide +kernel
theorem dX5_lit_29 : decode cX5_lit 29 = .ok (.aload_n 0, 1) := by decide +kernel
theorem dX5_lit_30 : decode cX5_lit 30 = .ok (.getfield 12, 3) := by decide +kernel
theorem dX5_lit_33 : decode cX5_lit 33 = .ok (.iload_n 1, 1) := by decide +kernel
theorem dX5_lit_34 : decode cX5_lit 34 = .ok (.iconst 0, 1) := by decide +kernel
theorem dX5_lit_35 : decode cX5_lit 35 = .ok (.invokevirtual 96, 3) := by decide +kernel
theorem dX5_lit_38 : decode cX5_lit 38 = .ok (.aload_n 0, 1) := by decide +kernel
theorem dX5_lit_39 : decode cX5_lit 39 = .ok (.getfield 12, 3) := by decide +kernel
theorem dX5_lit_42 : decode cX5_lit 42 = .ok (.iload_n 1, 1) := by decide +kernel
theorem dX5_lit_43 : decode cX5_lit 43 = .ok (.iconst 1, 1) := by decide +kernel
theorem dX5_lit_44 : decode cX5_lit 44 = .ok (.invokevirtual 96, 3) := by decide +kernel
theorem dX5_lit_47 : decode cX5_lit 47 = .ok (.iload_n 2, 1) := by decide +kernel
theorem dX5_lit_48 : decode cX5_lit 48 = .ok (.iload_n 3, 1) := by decide +kernel
theorem dX5_lit_49 : decode cX5_lit 49 = .ok (.bipush (-9), 2) := by decide +kernel
theorem dX5_lit_51 : decode cX5_lit 51 = .ok (.invokestatic 143, 3) := by decide +kernel
theorem dX5_lit_54 : decode cX5_lit 54 = .ok (.ifCond .eq 7, 3) := by decide +kernel
theorem dX5_lit_57 : decode cX5_lit 57 = .ok (.iconst 1, 1) := by decide +kernel
theorem dX5_lit_58 : decode cX5_lit 58 = .ok (.goto 4, 3) := by decide +kernel
theorem dX5_lit_61 : decode cX5_lit 61 = .ok (.iconst 0, 1) := by decide +kernel
theorem dX5_lit_62 : decode cX5_lit 62 = .ok (.ireturn, 1) := by decide +kernel
theorem dX5_by_0 : decode cX5_by 0 = .ok (.aload_n 0, 1) := by decide +kernel
theorem dX5_by_1 : decode cX5_by 1 = .ok (.getfield 12, 3) := by decide +kernel
theorem dX5_by_4 : decode cX5_by 4 = .ok (.iload_n 1, 1) := by decide +kernel
theorem dX5_by_5 : decode cX5_by 5 = .ok (.iload_n 2, 1) := by decide +kernel
theorem dX5_by_6 : decode cX5_by 6 = .ok (.invokevirtual 99, 3) := by decide +kernel
theorem dX5_by_9 : decode cX5_by 9 = .ok (.ifCond .ne 5, 3) := by decide +kernel
theorem dX5_by_12 : decode cX5_by 12 = .ok (.iconst (-1), 1) := by decide +kernel
theorem dX5_by_13 : decode cX5_by 13 = .ok (.ireturn, 1) := by decide +kernel
theorem dX5_by_14 : decode cX5_by 14 = .ok (.aload_n 0, 1) := by decide +kernel
theorem dX5_by_15 : decode cX5_by 15 = .ok (.getfield 12, 3) := by decide +kernel
theorem dX5_by_18 : decode cX5_by 18 = .ok (.iload_n 1, 1) := by decide +kernel
theorem dX5_by_19 : decode cX5_by 19 = .ok (.iload_n 2, 1) := by decide +kernel
theorem dX5_by_20 : decode cX5_by 20 = .ok (.invokestatic 147, 3) := by decide +kernel
theorem dX5_by_23 : decode cX5_by 23 = .ok (.ireturn, 1) := by decide +kernel
theorem dX5_lights_0 : decode cX5_lights 0 = .ok (.aload_n 0, 1) := by decide +kernel
theorem dX5_lights_1 : decode cX5_lights 1 = .ok (.getfield 12, 3) := by decide +kernel
theorem dX5_lights_4 : decode cX5_lights 4 = .ok (.iload_n 1, 1) := by decide +kernel
theorem dX5_lights_5 : decode cX5_lights 5 = .ok (.invokevirtual 93, 3) := by decide +kernel
theorem dX5_lights_8 : decode cX5_lights 8 = .ok (.ifCond .ne 5, 3) := by decide +kernel
theorem dX5_lights_11 : decode cX5_lights 11 = .ok (.iconst (-1), 1) := by decide +kernel
theorem dX5_lights_12 : decode cX5_lights 12 = .ok (.ireturn, 1) := by decide +kernel
theorem dX5_lights_13 : decode cX5_lights 13 = .ok (.aload_n 0, 1) := by decide +kernel
theorem dX5_lights_14 : decode cX5_lights 14 = .ok (.getfield 36, 3) := by decide +kernel
theorem dX5_lights_17 : decode cX5_lights 17 = .ok (.aload_n 0, 1) := by decide +kernel
theorem dX5_lights_18 : decode cX5_lights 18 = .ok (.getfield 12, 3) := by decide +kernel
theorem dX5_lights_21 : decode cX5_lights 21 = .ok (.iconst 1, 1) := by decide +kernel
theorem dX5_lights_22 : decode cX5_lights 22 = .ok (.iload_n 1, 1) := by decide +kernel
theorem dX5_lights_23 : decode cX5_lights 23 = .ok (.ishl, 1) := by decide +kernel
theorem dX5_lights_24 : decode cX5_lights 24 = .ok (.bipush (-9), 2) := by decide +kernel
theorem dX5_lights_26 : decode cX5_lights 26 = .ok (.invokevirtual 151, 3) := by decide +kernel
theorem dX5_lights_29 : decode cX5_lights 29 = .ok (.ireturn, 1) := by decide +kernel
theorem dX5_all_0 : decode cX5_all 0 = .ok (.aload_n 0, 1) := by decide +kernel
theorem dX5_all_1 : decode cX5_all 1 = .ok (.getfield 36, 3) := by decide +kernel
theorem dX5_all_4 : decode cX5_all 4 = .ok (.aload_n 0, 1) := by decide +kernel
theorem dX5_all_5 : decode cX5_all 5 = .ok (.getfield 12, 3) := by decide +kernel
theorem dX5_all_8 : decode cX5_all 8 = .ok (.aload_n 0, 1) := by decide +kernel
theorem dX5_all_9 : decode cX5_all 9 = .ok (.getfield 12, 3) := by decide +kernel
theorem dX5_all_12 : decode cX5_all 12 = .ok (.invokevirtual 154, 3) := by decide +kernel
theorem dX5_all_15 : decode cX5_all 15 = .ok (.bipush (-9), 2) := by decide +kernel
theorem dX5_all_17 : decode cX5_all 17 = .ok (.invokevirtual 151, 3) := by decide +kernel
theorem dX5_all_20 : decode cX5_all 20 = .ok (.ireturn, 1) := by decide +kernel
theorem dX5_events_0 : decode cX5_events 0 = .ok (.aload_n 0, 1) := by decide +kernel
theorem dX5_events_1 : decode cX5_events 1 = .ok (.getfield 12, 3) := by decide +kernel
theorem dX5_events_4 : decode cX5_events 4 = .ok (.iload_n 1, 1) := by decide +kernel
theorem dX5_events_5 : decode cX5_events 5 = .ok (.invokevirtual 93, 3) := by decide +kernel
theorem dX5_events_8 : decode cX5_events 8 = .ok (.ifCond .ne 5, 3) := by decide +kernel
theorem dX5_events_11 : decode cX5_events 11 = .ok (.iconst (-1), 1) := by decide +kernel
theorem dX5_events_12 : decode cX5_events 12 = .ok (.ireturn, 1) := by decide +kernel
theorem dX5_events_13 : decode cX5_events 13 = .ok (.aload_n 0, 1) := by decide +kernel
theorem dX5_events_14 : decode cX5_events 14 = .ok (.getfield 43, 3) := by decide +kernel
theorem dX5_events_17 : decode cX5_events 17 = .ok (.aload_n 0, 1) := by decide +kernel
theorem dX5_events_18 : decode cX5_events 18 = .ok (.getfield 12, 3) := by decide +kernel
theorem dX5_events_21 : decode cX5_events 21 = .ok (.iload_n 1, 1) := by decide +kernel
theorem dX5_events_22 : decode cX5_events 22 = .ok (.invokevirtual 158, 3) := by decide +kernel
theorem dX5_events_25 : decode cX5_events 25 = .ok (.aload_n 0, 1) := by decide +kernel
theorem dX5_events_26 : decode cX5_events 26 = .ok (.getfield 43, 3) := by decide +kernel
theorem dX5_events_29 : decode cX5_events 29 = .ok (.getfield 162, 3) := by decide +kernel
theorem dX5_events_32 : decode cX5_events 32 = .ok (.ireturn, 1) := by decide +kernel
theorem dX5_event_0 : decode cX5_event 0 = .ok (.aload_n 0, 1) := by decide +kernel
theorem dX5_event_1 : decode cX5_event 1 = .ok (.getfield 12, 3) := by decide +kernel
theorem dX5_event_4 : decode cX5_event 4 = .ok (.iload_n 1, 1) := by decide +kernel
theorem dX5_event_5 : decode cX5_event 5 = .ok (.invokevirtual 93, 3) := by decide +kernel
theorem dX5_event_8 : decode cX5_event 8 = .ok (.ifCond .eq 16, 3) := by decide +kernel
theorem dX5_event_11 : decode cX5_event 11 = .ok (.iload_n 2, 1) := by decide +kernel
theorem dX5_event_12 : decode cX5_event 12 = .ok (.ifCond .lt 12, 3) := by decide +kernel
theorem dX5_event_15 : decode cX5_event 15 = .ok (.iload_n 3, 1) := by decide +kernel
theorem dX5_event_16 : decode cX5_event 16 = .ok (.ifCond .lt 8, 3) := by decide +kernel
theorem dX5_event_19 : decode cX5_event 19 = .ok (.iload_n 3, 1) := by decide +kernel
theorem dX5_event_20 : decode cX5_event 20 = .ok (.iconst 1, 1) := by decide +kernel
theorem dX5_event_21 : decode cX5_event 21 = .ok (.if_icmp .le 7, 3) := by decide +kernel
theorem dX5_event_24 : decode cX5_event 24 = .ok (.sipush (-1000), 3) := by decide +kernel
theorem dX5_event_27 : decode cX5_event 27 = .ok (.ireturn, 1) := by decide +kernel
theorem dX5_event_28 : decode cX5_event 28 = .ok (.aload_n 0, 1) := by decide +kernel
theorem dX5_event_29 : decode cX5_event 29 = .ok (.getfield 43, 3) := by decide +kernel
theorem dX5_event_32 : decode cX5_event 32 = .ok (.aload_n 0, 1) := by decide +kernel
theorem dX5_event_33 : decode cX5_event 33 = .ok (.getfield 12, 3) := by decide +kernel
theorem dX5_event_36 : decode cX5_event 36 = .ok (.iload_n 1, 1) := by decide +kernel
theorem dX5_event_37 : decode cX5_event 37 = .ok (.invokevirtual 158, 3) := by decide +kernel
theorem dX5_event_40 : decode cX5_event 40 = .ok (.iload_n 2, 1) := by decide +kernel
theorem dX5_event_41 : decode cX5_event 41 = .ok (.aload_n 0, 1) := by decide +kernel
theorem dX5_event_42 : decode cX5_event 42 = .ok (.getfield 43, 3) := by decide +kernel
theorem dX5_event_45 : decode cX5_event 45 = .ok (.getfield 162, 3) := by decide +kernel
theorem dX5_event_48 : decode cX5_event 48 = .ok (.if_icmp .lt 7, 3) := by decide +kernel
theorem dX5_event_51 : decode cX5_event 51 = .ok (.sipush (-1000), 3) := by decide +kernel
theorem dX5_event_54 : decode cX5_event 54 = .ok (.ireturn, 1) := by decide +kernel
theorem dX5_event_55 : decode cX5_event 55 = .ok (.iload_n 3, 1) := by decide +kernel
theorem dX5_event_56 : decode cX5_event 56 = .ok (.ifCond .ne 15, 3) := by decide +kernel
theorem dX5_event_59 : decode cX5_event 59 = .ok (.aload_n 0, 1) := by decide +kernel
theorem dX5_event_60 : decode cX5_event 60 = .ok (.getfield 43, 3) := by decide +kernel
theorem dX5_event_63 : decode cX5_event 63 = .ok (.getfield 163, 3) := by decide +kernel
theorem dX5_event_66 : decode cX5_event 66 = .ok (.iload_n 2, 1) := by decide +kernel
theorem dX5_event_67 : decode cX5_event 67 = .ok (.iaload, 1) := by decide +kernel
theorem dX5_event_68 : decode cX5_event 68 = .ok (.goto 12, 3) := by decide +kernel
theorem dX5_event_71 : decode cX5_event 71 = .ok (.aload_n 0, 1) := by decide +kernel
theorem dX5_event_72 : decode cX5_event 72 = .ok (.getfield 43, 3) := by decide +kernel
theorem dX5_event_75 : decode cX5_event 75 = .ok (.getfield 166, 3) := by decide +kernel
theorem dX5_event_78 : decode cX5_event 78 = .ok (.iload_n 2, 1) := by decide +kernel
theorem dX5_event_79 : decode cX5_event 79 = .ok (.iaload, 1) := by decide +kernel
theorem dX5_event_80 : decode cX5_event 80 = .ok (.ireturn, 1) := by decide +kernel
theorem dX5_sector_0 : decode cX5_sector 0 = .ok (.aload_n 0, 1) := by decide +kernel
theorem dX5_sector_1 : decode cX5_sector 1 = .ok (.getfield 12, 3) := by decide +kernel
theorem dX5_sector_4 : decode cX5_sector 4 = .ok (.iload_n 1, 1) := by decide +kernel
theorem dX5_sector_5 : decode cX5_sector 5 = .ok (.invokevirtual 93, 3) := by decide +kernel
theorem dX5_sector_8 : decode cX5_sector 8 = .ok (.ifCond .eq 16, 3) := by decide +kernel
theorem dX5_sector_11 : decode cX5_sector 11 = .ok (.iload_n 2, 1) := by decide +kernel
theorem dX5_sector_12 : decode cX5_sector 12 = .ok (.ifCond .lt 12, 3) := by decide +kernel
theorem dX5_sector_15 : decode cX5_sector 15 = .ok (.iload_n 3, 1) := by decide +kernel
theorem dX5_sector_16 : decode cX5_sector 16 = .ok (.ifCond .lt 8, 3) := by decide +kernel
theorem dX5_sector_19 : decode cX5_sector 19 = .ok (.iload_n 3, 1) := by decide +kernel
theorem dX5_sector_20 : decode cX5_sector 20 = .ok (.iconst 2, 1) := by decide +kernel
theorem dX5_sector_21 : decode cX5_sector 21 = .ok (.if_icmp .le 5, 3) := by decide +kernel
theorem dX5_sector_24 : decode cX5_sector 24 = .ok (.iconst (-1), 1) := by decide +kernel
theorem dX5_sector_25 : decode cX5_sector 25 = .ok (.ireturn, 1) := by decide +kernel
theorem dX5_sector_26 : decode cX5_sector 26 = .ok (.aload_n 0, 1) := by decide +kernel
theorem dX5_sector_27 : decode cX5_sector 27 = .ok (.getfield 43, 3) := by decide +kernel
theorem dX5_sector_30 : decode cX5_sector 30 = .ok (.aload_n 0, 1) := by decide +kernel
theorem dX5_sector_31 : decode cX5_sector 31 = .ok (.getfield 12, 3) := by decide +kernel
theorem dX5_sector_34 : decode cX5_sector 34 = .ok (.iload_n 1, 1) := by decide +kernel
theorem dX5_sector_35 : decode cX5_sector 35 = .ok (.invokevirtual 158, 3) := by decide +kernel
theorem dX5_sector_38 : decode cX5_sector 38 = .ok (.iload_n 2, 1) := by decide +kernel
theorem dX5_sector_39 : decode cX5_sector 39 = .ok (.aload_n 0, 1) := by decide +kernel
theorem dX5_sector_40 : decode cX5_sector 40 = .ok (.getfield 43, 3) := by decide +kernel
theorem dX5_sector_43 : decode cX5_sector 43 = .ok (.getfield 162, 3) := by decide +kernel
theorem dX5_sector_46 : decode cX5_sector 46 = .ok (.if_icmp .lt 6, 3) := by decide +kernel
theorem dX5_sector_49 : decode cX5_sector 49 = .ok (.bipush (-9), 2) := by decide +kernel
theorem dX5_sector_51 : decode cX5_sector 51 = .ok (.ireturn, 1) := by decide +kernel
theorem dX5_sector_52 : decode cX5_sector 52 = .ok (.aload_n 0, 1) := by decide +kernel
theorem dX5_sector_53 : decode cX5_sector 53 = .ok (.getfield 43, 3) := by decide +kernel
theorem dX5_sector_56 : decode cX5_sector 56 = .ok (.aload_n 0, 1) := by decide +kernel
theorem dX5_sector_57 : decode cX5_sector 57 = .ok (.getfield 12, 3) := by decide +kernel
theorem dX5_sector_60 : decode cX5_sector 60 = .ok (.iload_n 2, 1) := by decide +kernel
theorem dX5_sector_61 : decode cX5_sector 61 = .ok (.invokevirtual 169, 3) := by decide +kernel
theorem dX5_sector_64 : decode cX5_sector 64 = .ok (.istore 4, 2) := by decide +kernel
theorem dX5_sector_66 : decode cX5_sector 66 = .ok (.iload_n 3, 1) := by decide +kernel
theorem dX5_sector_67 : decode cX5_sector 67 = .ok (.ifCond .eq 8, 3) := by decide +kernel
theorem dX5_sector_70 : decode cX5_sector 70 = .ok (.iload 4, 2) := by decide +kernel
theorem dX5_sector_72 : decode cX5_sector 72 = .ok (.ifCond .ge 6, 3) := by decide +kernel
theorem dX5_sector_75 : decode cX5_sector 75 = .ok (.iload 4, 2) := by decide +kernel
theorem dX5_sector_77 : decode cX5_sector 77 = .ok (.ireturn, 1) := by decide +kernel
theorem dX5_sector_78 : decode cX5_sector 78 = .ok (.aload_n 0, 1) := by decide +kernel
theorem dX5_sector_79 : decode cX5_sector 79 = .ok (.getfield 43, 3) := by decide +kernel
theorem dX5_sector_82 : decode cX5_sector 82 = .ok (.aload_n 0, 1) := by decide +kernel
theorem dX5_sector_83 : decode cX5_sector 83 = .ok (.getfield 12, 3) := by decide +kernel
theorem dX5_sector_86 : decode cX5_sector 86 = .ok (.iload_n 2, 1) := by decide +kernel
theorem dX5_sector_87 : decode cX5_sector 87 = .ok (.iload 4, 2) := by decide +kernel
theorem dX5_sector_89 : decode cX5_sector 89 = .ok (.invokevirtual 173, 3) := by decide +kernel
theorem dX5_sector_92 : decode cX5_sector 92 = .ok (.iload_n 3, 1) := by decide +kernel
theorem dX5_sector_93 : decode cX5_sector 93 = .ok (.iconst 1, 1) := by decide +kernel
theorem dX5_sector_94 : decode cX5_sector 94 = .ok (.if_icmp .ne 13, 3) := by decide +kernel
theorem dX5_sector_97 : decode cX5_sector 97 = .ok (.aload_n 0, 1) := by decide +kernel
theorem dX5_sector_98 : decode cX5_sector 98 = .ok (.getfield 43, 3) := by decide +kernel
theorem dX5_sector_101 : decode cX5_sector 101 = .ok (.getfield 177, 3) := by decide +kernel
theorem dX5_sector_104 : decode cX5_sector 104 = .ok (.goto 10, 3) := by decide +kernel
theorem dX5_sector_107 : decode cX5_sector 107 = .ok (.aload_n 0, 1) := by decide +kernel
theorem dX5_sector_108 : decode cX5_sector 108 = .ok (.getfield 43, 3) := by decide +kernel
theorem dX5_sector_111 : decode cX5_sector 111 = .ok (.getfield 180, 3) := by decide +kernel
theorem dX5_sector_114 : decode cX5_sector 114 = .ok (.ireturn, 1) := by decide +kernel
theorem dX5_walls_0 : decode cX5_walls 0 = .ok (.aload_n 0, 1) := by decide +kernel
theorem dX5_walls_1 : decode cX5_walls 1 = .ok (.getfield 12, 3) := by decide +kernel
theorem dX5_walls_4 : decode cX5_walls 4 = .ok (.iload_n 1, 1) := by decide +kernel
theorem dX5_walls_5 : decode cX5_walls 5 = .ok (.invokevirtual 93, 3) := by decide +kernel
theorem dX5_walls_8 : decode cX5_walls 8 = .ok (.ifCond .ne 5, 3) := by decide +kernel
theorem dX5_walls_11 : decode cX5_walls 11 = .ok (.iconst (-1), 1) := by decide +kernel
theorem dX5_walls_12 : decode cX5_walls 12 = .ok (.ireturn, 1) := by decide +kernel
theorem dX5_walls_13 : decode cX5_walls 13 = .ok (.aload_n 0, 1) := by decide +kernel
theorem dX5_walls_14 : decode cX5_walls 14 = .ok (.getfield 43, 3) := by decide +kernel
theorem dX5_walls_17 : decode cX5_walls 17 = .ok (.aload_n 0, 1) := by decide +kernel
theorem dX5_walls_18 : decode cX5_walls 18 = .ok (.getfield 12, 3) := by decide +kernel
theorem dX5_walls_21 : decode cX5_walls 21 = .ok (.iload_n 1, 1) := by decide +kernel
theorem dX5_walls_22 : decode cX5_walls 22 = .ok (.invokevirtual 158, 3) := by decide +kernel
theorem dX5_walls_25 : decode cX5_walls 25 = .ok (.iconst 0, 1) := by decide +kernel
theorem dX5_walls_26 : decode cX5_walls 26 = .ok (.istore_n 2, 1) := by decide +kernel
theorem dX5_walls_27 : decode cX5_walls 27 = .ok (.iconst 0, 1) := by decide +kernel
theorem dX5_walls_28 : decode cX5_walls 28 = .ok (.istore_n 3, 1) := by decide +kernel
theorem dX5_walls_29 : decode cX5_walls 29 = .ok (.iload_n 3, 1) := by decide +kernel
theorem dX5_walls_30 : decode cX5_walls 30 = .ok (.aload_n 0, 1) := by decide +kernel
theorem dX5_walls_31 : decode cX5_walls 31 = .ok (.getfield 43, 3) := by decide +kernel
theorem dX5_walls_34 : decode cX5_walls 34 = .ok (.getfield 162, 3) := by decide +kernel
theorem dX5_walls_37 : decode cX5_walls 37 = .ok (.if_icmp .ge 35, 3) := by decide +kernel
theorem dX5_walls_40 : decode cX5_walls 40 = .ok (.aload_n 0, 1) := by decide +kernel
theorem dX5_walls_41 : decode cX5_walls 41 = .ok (.getfield 43, 3) := by decide +kernel
theorem dX5_walls_44 : decode cX5_walls 44 = .ok (.aload_n 0, 1) := by decide +kernel
theorem dX5_walls_45 : decode cX5_walls 45 = .ok (.getfield 12, 3) := by decide +kernel
theorem dX5_walls_48 : decode cX5_walls 48 = .ok (.iload_n 3, 1) := by decide +kernel
theorem dX5_walls_49 : decode cX5_walls 49 = .ok (.invokevirtual 169, 3) := by decide +kernel
theorem dX5_walls_52 : decode cX5_walls 52 = .ok (.istore 4, 2) := by decide +kernel
theorem dX5_walls_54 : decode cX5_walls 54 = .ok (.iload 4, 2) := by decide +kernel
theorem dX5_walls_56 : decode cX5_walls 56 = .ok (.ifCond .lt 10, 3) := by decide +kernel
theorem dX5_walls_59 : decode cX5_walls 59 = .ok (.iload_n 2, 1) := by decide +kernel
theorem dX5_walls_60 : decode cX5_walls 60 = .ok (.iconst 1, 1) := by decide +kernel
theorem dX5_walls_61 : decode cX5_walls 61 = .ok (.iload 4, 2) := by decide +kernel
theorem dX5_walls_63 : decode cX5_walls 63 = .ok (.ishl, 1) := by decide +kernel
theorem dX5_walls_64 : decode cX5_walls 64 = .ok (.ior, 1) := by decide +kernel
theorem dX5_walls_65 : decode cX5_walls 65 = .ok (.istore_n 2, 1) := by decide +kernel
theorem dX5_walls_66 : decode cX5_walls 66 = .ok (.iinc 3 1, 3) := by decide +kernel
theorem dX5_walls_69 : decode cX5_walls 69 = .ok (.goto (-40), 3) := by decide +kernel
theorem dX5_walls_72 : decode cX5_walls 72 = .ok (.iload_n 2, 1) := by decide +kernel
theorem dX5_walls_73 : decode cX5_walls 73 = .ok (.ireturn, 1) := by decide +kernel
theorem dX5_fewest_0 : decode cX5_fewest 0 = .ok (.iconst 1, 1) := by decide +kernel
theorem dX5_fewest_1 : decode cX5_fewest 1 = .ok (.aload_n 0, 1) := by decide +kernel
theorem dX5_fewest_2 : decode cX5_fewest 2 = .ok (.getfield 12, 3) := by decide +kernel
theorem dX5_fewest_5 : decode cX5_fewest 5 = .ok (.getfield 106, 3) := by decide +kernel
theorem dX5_fewest_8 : decode cX5_fewest 8 = .ok (.ishl, 1) := by decide +kernel
theorem dX5_fewest_9 : decode cX5_fewest 9 = .ok (.iconst 1, 1) := by decide +kernel
theorem dX5_fewest_10 : decode cX5_fewest 10 = .ok (.isub, 1) := by decide +kernel
theorem dX5_fewest_11 : decode cX5_fewest 11 = .ok (.istore_n 1, 1) := by decide +kernel
theorem dX5_fewest_12 : decode cX5_fewest 12 = .ok (.aload_n 0, 1) := by decide +kernel
theorem dX5_fewest_13 : decode cX5_fewest 13 = .ok (.getfield 36, 3) := by decide +kernel
theorem dX5_fewest_16 : decode cX5_fewest 16 = .ok (.aload_n 0, 1) := by decide +kernel
theorem dX5_fewest_17 : decode cX5_fewest 17 = .ok (.getfield 12, 3) := by decide +kernel
theorem dX5_fewest_20 : decode cX5_fewest 20 = .ok (.iload_n 1, 1) := by decide +kernel
theorem dX5_fewest_21 : decode cX5_fewest 21 = .ok (.bipush (-9), 2) := by decide +kernel
theorem dX5_fewest_23 : decode cX5_fewest 23 = .ok (.invokevirtual 183, 3) := by decide +kernel
theorem dX5_fewest_26 : decode cX5_fewest 26 = .ok (.iload_n 1, 1) := by decide +kernel
theorem dX5_fewest_27 : decode cX5_fewest 27 = .ok (.istore_n 2, 1) := by decide +kernel
theorem dX5_fewest_28 : decode cX5_fewest 28 = .ok (.iconst 0, 1) := by decide +kernel
theorem dX5_fewest_29 : decode cX5_fewest 29 = .ok (.istore_n 3, 1) := by decide +kernel
theorem dX5_fewest_30 : decode cX5_fewest 30 = .ok (.iload_n 3, 1) := by decide +kernel
theorem dX5_fewest_31 : decode cX5_fewest 31 = .ok (.iload_n 1, 1) := by decide +kernel
theorem dX5_fewest_32 : decode cX5_fewest 32 = .ok (.if_icmp .ge 37, 3) := by decide +kernel
theorem dX5_fewest_35 : decode cX5_fewest 35 = .ok (.iload_n 3, 1) := by decide +kernel
theorem dX5_fewest_36 : decode cX5_fewest 36 = .ok (.invokestatic 186, 3) := by decide +kernel
theorem dX5_fewest_39 : decode cX5_fewest 39 = .ok (.iload_n 2, 1) := by decide +kernel
theorem dX5_fewest_40 : decode cX5_fewest 40 = .ok (.invokestatic 186, 3) := by decide +kernel
theorem dX5_fewest_43 : decode cX5_fewest 43 = .ok (.if_icmp .ge 20, 3) := by decide +kernel
theorem dX5_fewest_46 : decode cX5_fewest 46 = .ok (.aload_n 0, 1) := by decide +kernel
theorem dX5_fewest_47 : decode cX5_fewest 47 = .ok (.getfield 36, 3) := by decide +kernel
theorem dX5_fewest_50 : decode cX5_fewest 50 = .ok (.aload_n 0, 1) := by decide +kernel
theorem dX5_fewest_51 : decode cX5_fewest 51 = .ok (.getfield 12, 3) := by decide +kernel
theorem dX5_fewest_54 : decode cX5_fewest 54 = .ok (.iload_n 3, 1) := by decide +kernel
theorem dX5_fewest_55 : decode cX5_fewest 55 = .ok (.invokevirtual 191, 3) := by decide +kernel
theorem dX5_fewest_58 : decode cX5_fewest 58 = .ok (.ifCond .eq 5, 3) := by decide +kernel
theorem dX5_fewest_61 : decode cX5_fewest 61 = .ok (.iload_n 3, 1) := by decide +kernel
theorem dX5_fewest_62 : decode cX5_fewest 62 = .ok (.istore_n 2, 1) := by decide +kernel
theorem dX5_fewest_63 : decode cX5_fewest 63 = .ok (.iinc 3 1, 3) := by decide +kernel
theorem dX5_fewest_66 : decode cX5_fewest 66 = .ok (.goto (-36), 3) := by decide +kernel
theorem dX5_fewest_69 : decode cX5_fewest 69 = .ok (.iload_n 2, 1) := by decide +kernel
theorem dX5_fewest_70 : decode cX5_fewest 70 = .ok (.ireturn, 1) := by decide +kernel
theorem dX5_best_0 : decode cX5_best 0 = .ok (.iload_n 1, 1) := by decide +kernel
theorem dX5_best_1 : decode cX5_best 1 = .ok (.ifCond .lt 8, 3) := by decide +kernel
theorem dX5_best_4 : decode cX5_best 4 = .ok (.iload_n 1, 1) := by decide +kernel
theorem dX5_best_5 : decode cX5_best 5 = .ok (.iconst 2, 1) := by decide +kernel
theorem dX5_best_6 : decode cX5_best 6 = .ok (.if_icmp .le 5, 3) := by decide +kernel
theorem dX5_best_9 : decode cX5_best 9 = .ok (.iconst (-1), 1) := by decide +kernel
theorem dX5_best_10 : decode cX5_best 10 = .ok (.ireturn, 1) := by decide +kernel
theorem dX5_best_11 : decode cX5_best 11 = .ok (.aload_n 0, 1) := by decide +kernel
theorem dX5_best_12 : decode cX5_best 12 = .ok (.getfield 36, 3) := by decide +kernel
theorem dX5_best_15 : decode cX5_best 15 = .ok (.aload_n 0, 1) := by decide +kernel
theorem dX5_best_16 : decode cX5_best 16 = .ok (.getfield 12, 3) := by decide +kernel
theorem dX5_best_19 : decode cX5_best 19 = .ok (.aload_n 0, 1) := by decide +kernel
theorem dX5_best_20 : decode cX5_best 20 = .ok (.getfield 12, 3) := by decide +kernel
theorem dX5_best_23 : decode cX5_best 23 = .ok (.invokevirtual 154, 3) := by decide +kernel
theorem dX5_best_26 : decode cX5_best 26 = .ok (.bipush (-9), 2) := by decide +kernel
theorem dX5_best_28 : decode cX5_best 28 = .ok (.invokevirtual 183, 3) := by decide +kernel
theorem dX5_best_31 : decode cX5_best 31 = .ok (.bipush (-9), 2) := by decide +kernel
theorem dX5_best_33 : decode cX5_best 33 = .ok (.istore_n 2, 1) := by decide +kernel
theorem dX5_best_34 : decode cX5_best 34 = .ok (.bipush (-9), 2) := by decide +kernel
theorem dX5_best_36 : decode cX5_best 36 = .ok (.istore_n 3, 1) := by decide +kernel
theorem dX5_best_37 : decode cX5_best 37 = .ok (.bipush (-9), 2) := by decide +kernel
theorem dX5_best_39 : decode cX5_best 39 = .ok (.istore 4, 2) := by decide +kernel
theorem dX5_best_41 : decode cX5_best 41 = .ok (.iconst 0, 1) := by decide +kernel
theorem dX5_best_42 : decode cX5_best 42 = .ok (.istore 5, 2) := by decide +kernel
theorem dX5_best_44 : decode cX5_best 44 = .ok (.iload 5, 2) := by decide +kernel
theorem dX5_best_46 : decode cX5_best 46 = .ok (.aload_n 0, 1) := by decide +kernel
theorem dX5_best_47 : decode cX5_best 47 = .ok (.getfield 12, 3) := by decide +kernel
theorem dX5_best_50 : decode cX5_best 50 = .ok (.getfield 195, 3) := by decide +kernel
theorem dX5_best_53 : decode cX5_best 53 = .ok (.if_icmp .ge 83, 3) := by decide +kernel
theorem dX5_best_56 : decode cX5_best 56 = .ok (.iconst 0, 1) := by decide +kernel
theorem dX5_best_57 : decode cX5_best 57 = .ok (.istore 6, 2) := by decide +kernel
theorem dX5_best_59 : decode cX5_best 59 = .ok (.iload 6, 2) := by decide +kernel
theorem dX5_best_61 : decode cX5_best 61 = .ok (.aload_n 0, 1) := by decide +kernel
theorem dX5_best_62 : decode cX5_best 62 = .ok (.getfield 12, 3) := by decide +kernel
theorem dX5_best_65 : decode cX5_best 65 = .ok (.getfield 198, 3) := by decide +kernel
theorem dX5_best_68 : decode cX5_best 68 = .ok (.if_icmp .ge 62, 3) := by decide +kernel
theorem dX5_best_71 : decode cX5_best 71 = .ok (.aload_n 0, 1) := by decide +kernel
theorem dX5_best_72 : decode cX5_best 72 = .ok (.getfield 12, 3) := by decide +kernel
theorem dX5_best_75 : decode cX5_best 75 = .ok (.iload 6, 2) := by decide +kernel
theorem dX5_best_77 : decode cX5_best 77 = .ok (.iload 5, 2) := by decide +kernel
theorem dX5_best_79 : decode cX5_best 79 = .ok (.invokevirtual 103, 3) := by decide +kernel
theorem dX5_best_82 : decode cX5_best 82 = .ok (.ifCond .eq 8, 3) := by decide +kernel
theorem dX5_best_85 : decode cX5_best 85 = .ok (.bipush (-9), 2) := by decide +kernel
theorem dX5_best_87 : decode cX5_best 87 = .ok (.goto 18, 3) := by decide +kernel
theorem dX5_best_90 : decode cX5_best 90 = .ok (.aload_n 0, 1) := by decide +kernel
theorem dX5_best_91 : decode cX5_best 91 = .ok (.getfield 36, 3) := by decide +kernel
theorem dX5_best_94 : decode cX5_best 94 = .ok (.aload_n 0, 1) := by decide +kernel
theorem dX5_best_95 : decode cX5_best 95 = .ok (.getfield 12, 3) := by decide +kernel
theorem dX5_best_98 : decode cX5_best 98 = .ok (.iload 6, 2) := by decide +kernel
theorem dX5_best_100 : decode cX5_best 100 = .ok (.iload 5, 2) := by decide +kernel
theorem dX5_best_102 : decode cX5_best 102 = .ok (.invokevirtual 201, 3) := by decide +kernel
theorem dX5_best_105 : decode cX5_best 105 = .ok (.istore 7, 2) := by decide +kernel
theorem dX5_best_107 : decode cX5_best 107 = .ok (.iload 7, 2) := by decide +kernel
theorem dX5_best_109 : decode cX5_best 109 = .ok (.iload 4, 2) := by decide +kernel
theorem dX5_best_111 : decode cX5_best 111 = .ok (.if_icmp .le 13, 3) := by decide +kernel
theorem dX5_best_114 : decode cX5_best 114 = .ok (.iload 6, 2) := by decide +kernel
theorem dX5_best_116 : decode cX5_best 116 = .ok (.istore_n 2, 1) := by decide +kernel
theorem dX5_best_117 : decode cX5_best 117 = .ok (.iload 5, 2) := by decide +kernel
theorem dX5_best_119 : decode cX5_best 119 = .ok (.istore_n 3, 1) := by decide +kernel
theorem dX5_best_120 : decode cX5_best 120 = .ok (.iload 7, 2) := by decide +kernel
theorem dX5_best_122 : decode cX5_best 122 = .ok (.istore 4, 2) := by decide +kernel
theorem dX5_best_124 : decode cX5_best 124 = .ok (.iinc 6 1, 3) := by decide +kernel
theorem dX5_best_127 : decode cX5_best 127 = .ok (.goto (-68), 3) := by decide +kernel
theorem dX5_best_130 : decode cX5_best 130 = .ok (.iinc 5 1, 3) := by decide +kernel
theorem dX5_best_133 : decode cX5_best 133 = .ok (.goto (-89), 3) := by decide +kernel
theorem dX5_best_136 : decode cX5_best 136 = .ok (.iload_n 1, 1) := by decide +kernel
theorem dX5_best_137 : decode cX5_best 137 = .ok (.ifCond .ne 7, 3) := by decide +kernel
theorem dX5_best_140 : decode cX5_best 140 = .ok (.iload_n 2, 1) := by decide +kernel
theorem dX5_best_141 : decode cX5_best 141 = .ok (.goto 14, 3) := by decide +kernel
theorem dX5_best_144 : decode cX5_best 144 = .ok (.iload_n 1, 1) := by decide +kernel
theorem dX5_best_145 : decode cX5_best 145 = .ok (.iconst 1, 1) := by decide +kernel
theorem dX5_best_146 : decode cX5_best 146 = .ok (.if_icmp .ne 7, 3) := by decide +kernel
theorem dX5_best_149 : decode cX5_best 149 = .ok (.iload_n 3, 1) := by decide +kernel
theorem dX5_best_150 : decode cX5_best 150 = .ok (.goto 5, 3) := by decide +kernel
theorem dX5_best_153 : decode cX5_best 153 = .ok (.iload 4, 2) := by decide +kernel
theorem dX5_best_155 : decode cX5_best 155 = .ok (.ireturn, 1) := by decide +kernel
theorem dX5_gain_0 : decode cX5_gain 0 = .ok (.aload_n 0, 1) := by decide +kernel
theorem dX5_gain_1 : decode cX5_gain 1 = .ok (.getfield 12, 3) := by decide +kernel
theorem dX5_gain_4 : decode cX5_gain 4 = .ok (.iload_n 1, 1) := by decide +kernel
theorem dX5_gain_5 : decode cX5_gain 5 = .ok (.invokevirtual 134, 3) := by decide +kernel
theorem dX5_gain_8 : decode cX5_gain 8 = .ok (.ifCond .ne 5, 3) := by decide +kernel
theorem dX5_gain_11 : decode cX5_gain 11 = .ok (.iconst (-1), 1) := by decide +kernel
theorem dX5_gain_12 : decode cX5_gain 12 = .ok (.ireturn, 1) := by decide +kernel
theorem dX5_gain_13 : decode cX5_gain 13 = .ok (.aload_n 0, 1) := by decide +kernel
theorem dX5_gain_14 : decode cX5_gain 14 = .ok (.getfield 12, 3) := by decide +kernel
theorem dX5_gain_17 : decode cX5_gain 17 = .ok (.invokevirtual 154, 3) := by decide +kernel
theorem dX5_gain_20 : decode cX5_gain 20 = .ok (.istore_n 2, 1) := by decide +kernel
theorem dX5_gain_21 : decode cX5_gain 21 = .ok (.aload_n 0, 1) := by decide +kernel
theorem dX5_gain_22 : decode cX5_gain 22 = .ok (.getfield 36, 3) := by decide +kernel
theorem dX5_gain_25 : decode cX5_gain 25 = .ok (.aload_n 0, 1) := by decide +kernel
theorem dX5_gain_26 : decode cX5_gain 26 = .ok (.getfield 12, 3) := by decide +kernel
theorem dX5_gain_29 : decode cX5_gain 29 = .ok (.iload_n 2, 1) := by decide +kernel
theorem dX5_gain_30 : decode cX5_gain 30 = .ok (.iload_n 1, 1) := by decide +kernel
theorem dX5_gain_31 : decode cX5_gain 31 = .ok (.invokevirtual 151, 3) := by decide +kernel
theorem dX5_gain_34 : decode cX5_gain 34 = .ok (.aload_n 0, 1) := by decide +kernel
theorem dX5_gain_35 : decode cX5_gain 35 = .ok (.getfield 36, 3) := by decide +kernel
theorem dX5_gain_38 : decode cX5_gain 38 = .ok (.aload_n 0, 1) := by decide +kernel
theorem dX5_gain_39 : decode cX5_gain 39 = .ok (.getfield 12, 3) := by decide +kernel
theorem dX5_gain_42 : decode cX5_gain 42 = .ok (.iload_n 2, 1) := by decide +kernel
theorem dX5_gain_43 : decode cX5_gain 43 = .ok (.bipush (-9), 2) := by decide +kernel
theorem dX5_gain_45 : decode cX5_gain 45 = .ok (.invokevirtual 151, 3) := by decide +kernel
theorem dX5_gain_48 : decode cX5_gain 48 = .ok (.isub, 1) := by decide +kernel
theorem dX5_gain_49 : decode cX5_gain 49 = .ok (.ireturn, 1) := by decide +kernel
theorem dX5_worst_0 : decode cX5_worst 0 = .ok (.bipush (-9), 2) := by decide +kernel
theorem dX5_worst_2 : decode cX5_worst 2 = .ok (.istore_n 1, 1) := by decide +kernel
theorem dX5_worst_3 : decode cX5_worst 3 = .ok (.iconst 0, 1) := by decide +kernel
theorem dX5_worst_4 : decode cX5_worst 4 = .ok (.istore_n 2, 1) := by decide +kernel
theorem dX5_worst_5 : decode cX5_worst 5 = .ok (.iconst 4, 1) := by decide +kernel
theorem dX5_worst_6 : decode cX5_worst 6 = .ok (.istore_n 3, 1) := by decide +kernel
theorem dX5_worst_7 : decode cX5_worst 7 = .ok (.iload_n 3, 1) := by decide +kernel
theorem dX5_worst_8 : decode cX5_worst 8 = .ok (.aload_n 0, 1) := by decide +kernel
theorem dX5_worst_9 : decode cX5_worst 9 = .ok (.getfield 12, 3) := by decide +kernel
theorem dX5_worst_12 : decode cX5_worst 12 = .ok (.getfield 127, 3) := by decide +kernel
theorem dX5_worst_15 : decode cX5_worst 15 = .ok (.if_icmp .ge 47, 3) := by decide +kernel
theorem dX5_worst_18 : decode cX5_worst 18 = .ok (.aload_n 0, 1) := by decide +kernel
theorem dX5_worst_19 : decode cX5_worst 19 = .ok (.getfield 36, 3) := by decide +kernel
theorem dX5_worst_22 : decode cX5_worst 22 = .ok (.aload_n 0, 1) := by decide +kernel
theorem dX5_worst_23 : decode cX5_worst 23 = .ok (.getfield 12, 3) := by decide +kernel
theorem dX5_worst_26 : decode cX5_worst 26 = .ok (.aload_n 0, 1) := by decide +kernel
theorem dX5_worst_27 : decode cX5_worst 27 = .ok (.getfield 12, 3) := by decide +kernel
theorem dX5_worst_30 : decode cX5_worst 30 = .ok (.invokevirtual 154, 3) := by decide +kernel
theorem dX5_worst_33 : decode cX5_worst 33 = .ok (.iload_n 3, 1) := by decide +kernel
theorem dX5_worst_34 : decode cX5_worst 34 = .ok (.invokevirtual 151, 3) := by decide +kernel
theorem dX5_worst_37 : decode cX5_worst 37 = .ok (.istore 4, 2) := by decide +kernel
theorem dX5_worst_39 : decode cX5_worst 39 = .ok (.iload_n 1, 1) := by decide +kernel
theorem dX5_worst_40 : decode cX5_worst 40 = .ok (.bipush (-9), 2) := by decide +kernel
theorem dX5_worst_42 : decode cX5_worst 42 = .ok (.if_icmp .eq 9, 3) := by decide +kernel
theorem dX5_worst_45 : decode cX5_worst 45 = .ok (.iload 4, 2) := by decide +kernel
theorem dX5_worst_47 : decode cX5_worst 47 = .ok (.iload_n 2, 1) := by decide +kernel
theorem dX5_worst_48 : decode cX5_worst 48 = .ok (.if_icmp .le 8, 3) := by decide +kernel
theorem dX5_worst_51 : decode cX5_worst 51 = .ok (.iload_n 3, 1) := by decide +kernel
theorem dX5_worst_52 : decode cX5_worst 52 = .ok (.istore_n 1, 1) := by decide +kernel
theorem dX5_worst_53 : decode cX5_worst 53 = .ok (.iload 4, 2) := by decide +kernel
theorem dX5_worst_55 : decode cX5_worst 55 = .ok (.istore_n 2, 1) := by decide +kernel
theorem dX5_worst_56 : decode cX5_worst 56 = .ok (.iinc 3 1, 3) := by decide +kernel
theorem dX5_worst_59 : decode cX5_worst 59 = .ok (.goto (-52), 3) := by decide +kernel
theorem dX5_worst_62 : decode cX5_worst 62 = .ok (.iload_n 1, 1) := by decide +kernel
theorem dX5_worst_63 : decode cX5_worst 63 = .ok (.ireturn, 1) := by decide +kernel
theorem dX5_sees_0 : decode cX5_sees 0 = .ok (.aload_n 0, 1) := by decide +kernel
theorem dX5_sees_1 : decode cX5_sees 1 = .ok (.getfield 12, 3) := by decide +kernel
theorem dX5_sees_4 : decode cX5_sees 4 = .ok (.iload_n 1, 1) := by decide +kernel
theorem dX5_sees_5 : decode cX5_sees 5 = .ok (.iload_n 2, 1) := by decide +kernel
theorem dX5_sees_6 : decode cX5_sees 6 = .ok (.invokevirtual 99, 3) := by decide +kernel
theorem dX5_sees_9 : decode cX5_sees 9 = .ok (.ifCond .eq 12, 3) := by decide +kernel
theorem dX5_sees_12 : decode cX5_sees 12 = .ok (.iload_n 3, 1) := by decide +kernel
theorem dX5_sees_13 : decode cX5_sees 13 = .ok (.ifCond .lt 8, 3) := by decide +kernel
theorem dX5_sees_16 : decode cX5_sees 16 = .ok (.iload_n 3, 1) := by decide +kernel
theorem dX5_sees_17 : decode cX5_sees 17 = .ok (.iconst 1, 1) := by decide +kernel
theorem dX5_sees_18 : decode cX5_sees 18 = .ok (.if_icmp .le 5, 3) := by decide +kernel
theorem dX5_sees_21 : decode cX5_sees 21 = .ok (.iconst (-1), 1) := by decide +kernel
theorem dX5_sees_22 : decode cX5_sees 22 = .ok (.ireturn, 1) := by decide +kernel
theorem dX5_sees_23 : decode cX5_sees 23 = .ok (.aload_n 0, 1) := by decide +kernel
theorem dX5_sees_24 : decode cX5_sees 24 = .ok (.getfield 82, 3) := by decide +kernel
theorem dX5_sees_27 : decode cX5_sees 27 = .ok (.bipush 6, 2) := by decide +kernel
theorem dX5_sees_29 : decode cX5_sees 29 = .ok (.if_icmp .lt 6, 3) := by decide +kernel
theorem dX5_sees_32 : decode cX5_sees 32 = .ok (.bipush (-3), 2) := by decide +kernel
theorem dX5_sees_34 : decode cX5_sees 34 = .ok (.ireturn, 1) := by decide +kernel
theorem dX5_sees_35 : decode cX5_sees 35 = .ok (.aload_n 0, 1) := by decide +kernel
theorem dX5_sees_36 : decode cX5_sees 36 = .ok (.getfield 82, 3) := by decide +kernel
theorem dX5_sees_39 : decode cX5_sees 39 = .ok (.iconst 3, 1) := by decide +kernel
theorem dX5_sees_40 : decode cX5_sees 40 = .ok (.imul, 1) := by decide +kernel
theorem dX5_sees_41 : decode cX5_sees 41 = .ok (.istore 4, 2) := by decide +kernel
theorem dX5_sees_43 : decode cX5_sees 43 = .ok (.aload_n 0, 1) := by decide +kernel
theorem dX5_sees_44 : decode cX5_sees 44 = .ok (.getfield 55, 3) := by decide +kernel
theorem dX5_sees_47 : decode cX5_sees 47 = .ok (.iload 4, 2) := by decide +kernel
theorem dX5_sees_49 : decode cX5_sees 49 = .ok (.iconst 0, 1) := by decide +kernel
theorem dX5_sees_50 : decode cX5_sees 50 = .ok (.iadd, 1) := by decide +kernel
theorem dX5_sees_51 : decode cX5_sees 51 = .ok (.iload_n 1, 1) := by decide +kernel
theorem dX5_sees_52 : decode cX5_sees 52 = .ok (.iastore, 1) := by decide +kernel
theorem dX5_sees_53 : decode cX5_sees 53 = .ok (.aload_n 0, 1) := by decide +kernel
theorem dX5_sees_54 : decode cX5_sees 54 = .ok (.getfield 55, 3) := by decide +kernel
theorem dX5_sees_57 : decode cX5_sees 57 = .ok (.iload 4, 2) := by decide +kernel
theorem dX5_sees_59 : decode cX5_sees 59 = .ok (.iconst 1, 1) := by decide +kernel
theorem dX5_sees_60 : decode cX5_sees 60 = .ok (.iadd, 1) := by decide +kernel
theorem dX5_sees_61 : decode cX5_sees 61 = .ok (.iload_n 2, 1) := by decide +kernel
theorem dX5_sees_62 : decode cX5_sees 62 = .ok (.iastore, 1) := by decide +kernel
theorem dX5_sees_63 : decode cX5_sees 63 = .ok (.aload_n 0, 1) := by decide +kernel
theorem dX5_sees_64 : decode cX5_sees 64 = .ok (.getfield 55, 3) := by decide +kernel
theorem dX5_sees_67 : decode cX5_sees 67 = .ok (.iload 4, 2) := by decide +kernel
theorem dX5_sees_69 : decode cX5_sees 69 = .ok (.iconst 2, 1) := by decide +kernel
theorem dX5_sees_70 : decode cX5_sees 70 = .ok (.iadd, 1) := by decide +kernel
theorem dX5_sees_71 : decode cX5_sees 71 = .ok (.iload_n 3, 1) := by decide +kernel
theorem dX5_sees_72 : decode cX5_sees 72 = .ok (.iastore, 1) := by decide +kernel
theorem dX5_sees_73 : decode cX5_sees 73 = .ok (.aload_n 0, 1) := by decide +kernel
theorem dX5_sees_74 : decode cX5_sees 74 = .ok (.dup, 1) := by decide +kernel
theorem dX5_sees_75 : decode cX5_sees 75 = .ok (.getfield 82, 3) := by decide +kernel
theorem dX5_sees_78 : decode cX5_sees 78 = .ok (.iconst 1, 1) := by decide +kernel
theorem dX5_sees_79 : decode cX5_sees 79 = .ok (.iadd, 1) := by decide +kernel
theorem dX5_sees_80 : decode cX5_sees 80 = .ok (.putfield 82, 3) := by decide +kernel
theorem dX5_sees_83 : decode cX5_sees 83 = .ok (.aload_n 0, 1) := by decide +kernel
theorem dX5_sees_84 : decode cX5_sees 84 = .ok (.getfield 82, 3) := by decide +kernel
theorem dX5_sees_87 : decode cX5_sees 87 = .ok (.ireturn, 1) := by decide +kernel
theorem dX5_forget_0 : decode cX5_forget 0 = .ok (.aload_n 0, 1) := by decide +kernel
theorem dX5_forget_1 : decode cX5_forget 1 = .ok (.getfield 82, 3) := by decide +kernel
theorem dX5_forget_4 : decode cX5_forget 4 = .ok (.istore_n 1, 1) := by decide +kernel
theorem dX5_forget_5 : decode cX5_forget 5 = .ok (.aload_n 0, 1) := by decide +kernel
theorem dX5_forget_6 : decode cX5_forget 6 = .ok (.iconst 0, 1) := by decide +kernel
theorem dX5_forget_7 : decode cX5_forget 7 = .ok (.putfield 82, 3) := by decide +kernel
theorem dX5_forget_10 : decode cX5_forget 10 = .ok (.iload_n 1, 1) := by decide +kernel
theorem dX5_forget_11 : decode cX5_forget 11 = .ok (.ireturn, 1) := by decide +kernel
theorem dX5_unseen_0 : decode cX5_unseen 0 = .ok (.aload_n 0, 1) := by decide +kernel
theorem dX5_unseen_1 : decode cX5_unseen 1 = .ok (.getfield 12, 3) := by decide +kernel
theorem dX5_unseen_4 : decode cX5_unseen 4 = .ok (.invokevirtual 154, 3) := by decide +kernel
theorem dX5_unseen_7 : decode cX5_unseen 7 = .ok (.istore_n 1, 1) := by decide +kernel
theorem dX5_unseen_8 : decode cX5_unseen 8 = .ok (.iconst 0, 1) := by decide +kernel
theorem dX5_unseen_9 : decode cX5_unseen 9 = .ok (.istore_n 2, 1) := by decide +kernel
theorem dX5_unseen_10 : decode cX5_unseen 10 = .ok (.iload_n 2, 1) := by decide +kernel
theorem dX5_unseen_11 : decode cX5_unseen 11 = .ok (.aload_n 0, 1) := by decide +kernel
theorem dX5_unseen_12 : decode cX5_unseen 12 = .ok (.getfield 82, 3) := by decide +kernel
theorem dX5_unseen_15 : decode cX5_unseen 15 = .ok (.if_icmp .ge 19, 3) := by decide +kernel
theorem dX5_unseen_18 : decode cX5_unseen 18 = .ok (.iload_n 1, 1) := by decide +kernel
theorem dX5_unseen_19 : decode cX5_unseen 19 = .ok (.aload_n 0, 1) := by decide +kernel
theorem dX5_unseen_20 : decode cX5_unseen 20 = .ok (.iload_n 2, 1) := by decide +kernel
theorem dX5_unseen_21 : decode cX5_unseen 21 = .ok (.iconst 3, 1) := by decide +kernel
theorem dX5_unseen_22 : decode cX5_unseen 22 = .ok (.imul, 1) := by decide +kernel
theorem dX5_unseen_23 : decode cX5_unseen 23 = .ok (.invokevirtual 204, 3) := by decide +kernel
theorem dX5_unseen_26 : decode cX5_unseen 26 = .ok (.iand, 1) := by decide +kernel
theorem dX5_unseen_27 : decode cX5_unseen 27 = .ok (.istore_n 1, 1) := by decide +kernel
theorem dX5_unseen_28 : decode cX5_unseen 28 = .ok (.iinc 2 1, 3) := by decide +kernel
theorem dX5_unseen_31 : decode cX5_unseen 31 = .ok (.goto (-21), 3) := by decide +kernel
theorem dX5_unseen_34 : decode cX5_unseen 34 = .ok (.iload_n 1, 1) := by decide +kernel
theorem dX5_unseen_35 : decode cX5_unseen 35 = .ok (.ireturn, 1) := by decide +kernel
theorem dX5_lampsThatMayBeOut_0 : decode cX5_lampsThatMayBeOut 0 = .ok (.aload_n 0, 1) := by decide +kernel
theorem dX5_lampsThatMayBeOut_1 : decode cX5_lampsThatMayBeOut 1 = .ok (.getfield 12, 3) := by decide +kernel
theorem dX5_lampsThatMayBeOut_4 : decode cX5_lampsThatMayBeOut 4 = .ok (.aload_n 0, 1) := by decide +kernel
theorem dX5_lampsThatMayBeOut_5 : decode cX5_lampsThatMayBeOut 5 = .ok (.getfield 55, 3) := by decide +kernel
theorem dX5_lampsThatMayBeOut_8 : decode cX5_lampsThatMayBeOut 8 = .ok (.iload_n 1, 1) := by decide +kernel
theorem dX5_lampsThatMayBeOut_9 : decode cX5_lampsThatMayBeOut 9 = .ok (.iconst 0, 1) := by decide +kernel
theorem dX5_lampsThatMayBeOut_10 : decode cX5_lampsThatMayBeOut 10 = .ok (.iadd, 1) := by decide +kernel
theorem dX5_lampsThatMayBeOut_11 : decode cX5_lampsThatMayBeOut 11 = .ok (.iaload, 1) := by decide +kernel
theorem dX5_lampsThatMayBeOut_12 : decode cX5_lampsThatMayBeOut 12 = .ok (.aload_n 0, 1) := by decide +kernel
theorem dX5_lampsThatMayBeOut_13 : decode cX5_lampsThatMayBeOut 13 = .ok (.getfield 55, 3) := by decide +kernel
theorem dX5_lampsThatMayBeOut_16 : decode cX5_lampsThatMayBeOut 16 = .ok (.iload_n 1, 1) := by decide +kernel
theorem dX5_lampsThatMayBeOut_17 : decode cX5_lampsThatMayBeOut 17 = .ok (.iconst 1, 1) := by decide +kernel
theorem dX5_lampsThatMayBeOut_18 : decode cX5_lampsThatMayBeOut 18 = .ok (.iadd, 1) := by decide +kernel
theorem dX5_lampsThatMayBeOut_19 : decode cX5_lampsThatMayBeOut 19 = .ok (.iaload, 1) := by decide +kernel
theorem dX5_lampsThatMayBeOut_20 : decode cX5_lampsThatMayBeOut 20 = .ok (.invokestatic 147, 3) := by decide +kernel
theorem dX5_lampsThatMayBeOut_23 : decode cX5_lampsThatMayBeOut 23 = .ok (.istore_n 2, 1) := by decide +kernel
theorem dX5_lampsThatMayBeOut_24 : decode cX5_lampsThatMayBeOut 24 = .ok (.iconst 0, 1) := by decide +kernel
theorem dX5_lampsThatMayBeOut_25 : decode cX5_lampsThatMayBeOut 25 = .ok (.istore_n 3, 1) := by decide +kernel
theorem dX5_lampsThatMayBeOut_26 : decode cX5_lampsThatMayBeOut 26 = .ok (.iconst 0, 1) := by decide +kernel
theorem dX5_lampsThatMayBeOut_27 : decode cX5_lampsThatMayBeOut 27 = .ok (.istore 4, 2) := by decide +kernel
theorem dX5_lampsThatMayBeOut_29 : decode cX5_lampsThatMayBeOut 29 = .ok (.iload 4, 2) := by decide +kernel
theorem dX5_lampsThatMayBeOut_31 : decode cX5_lampsThatMayBeOut 31 = .ok (.aload_n 0, 1) := by decide +kernel
theorem dX5_lampsThatMayBeOut_32 : decode cX5_lampsThatMayBeOut 32 = .ok (.getfield 12, 3) := by decide +kernel
theorem dX5_lampsThatMayBeOut_35 : decode cX5_lampsThatMayBeOut 35 = .ok (.getfield 106, 3) := by decide +kernel
theorem dX5_lampsThatMayBeOut_38 : decode cX5_lampsThatMayBeOut 38 = .ok (.if_icmp .ge 47, 3) := by decide +kernel
theorem dX5_lampsThatMayBeOut_41 : decode cX5_lampsThatMayBeOut 41 = .ok (.iload_n 2, 1) := by decide +kernel
theorem dX5_lampsThatMayBeOut_42 : decode cX5_lampsThatMayBeOut 42 = .ok (.iconst 1, 1) := by decide +kernel
theorem dX5_lampsThatMayBeOut_43 : decode cX5_lampsThatMayBeOut 43 = .ok (.iload 4, 2) := by decide +kernel
theorem dX5_lampsThatMayBeOut_45 : decode cX5_lampsThatMayBeOut 45 = .ok (.ishl, 1) := by decide +kernel
theorem dX5_lampsThatMayBeOut_46 : decode cX5_lampsThatMayBeOut 46 = .ok (.iconst (-1), 1) := by decide +kernel
theorem dX5_lampsThatMayBeOut_47 : decode cX5_lampsThatMayBeOut 47 = .ok (.ixor, 1) := by decide +kernel
theorem dX5_lampsThatMayBeOut_48 : decode cX5_lampsThatMayBeOut 48 = .ok (.iand, 1) := by decide +kernel
theorem dX5_lampsThatMayBeOut_49 : decode cX5_lampsThatMayBeOut 49 = .ok (.ifCond .eq 7, 3) := by decide +kernel
theorem dX5_lampsThatMayBeOut_52 : decode cX5_lampsThatMayBeOut 52 = .ok (.iconst 1, 1) := by decide +kernel
theorem dX5_lampsThatMayBeOut_53 : decode cX5_lampsThatMayBeOut 53 = .ok (.goto 4, 3) := by decide +kernel
theorem dX5_lampsThatMayBeOut_56 : decode cX5_lampsThatMayBeOut 56 = .ok (.iconst 0, 1) := by decide +kernel
theorem dX5_lampsThatMayBeOut_57 : decode cX5_lampsThatMayBeOut 57 = .ok (.istore 5, 2) := by decide +kernel
theorem dX5_lampsThatMayBeOut_59 : decode cX5_lampsThatMayBeOut 59 = .ok (.iload 5, 2) := by decide +kernel
theorem dX5_lampsThatMayBeOut_61 : decode cX5_lampsThatMayBeOut 61 = .ok (.aload_n 0, 1) := by decide +kernel
theorem dX5_lampsThatMayBeOut_62 : decode cX5_lampsThatMayBeOut 62 = .ok (.getfield 55, 3) := by decide +kernel
theorem dX5_lampsThatMayBeOut_65 : decode cX5_lampsThatMayBeOut 65 = .ok (.iload_n 1, 1) := by decide +kernel
theorem dX5_lampsThatMayBeOut_66 : decode cX5_lampsThatMayBeOut 66 = .ok (.iconst 2, 1) := by decide +kernel
theorem dX5_lampsThatMayBeOut_67 : decode cX5_lampsThatMayBeOut 67 = .ok (.iadd, 1) := by decide +kernel
theorem dX5_lampsThatMayBeOut_68 : decode cX5_lampsThatMayBeOut 68 = .ok (.iaload, 1) := by decide +kernel
theorem dX5_lampsThatMayBeOut_69 : decode cX5_lampsThatMayBeOut 69 = .ok (.if_icmp .ne 10, 3) := by decide +kernel
theorem dX5_lampsThatMayBeOut_72 : decode cX5_lampsThatMayBeOut 72 = .ok (.iload_n 3, 1) := by decide +kernel
theorem dX5_lampsThatMayBeOut_73 : decode cX5_lampsThatMayBeOut 73 = .ok (.iconst 1, 1) := by decide +kernel
theorem dX5_lampsThatMayBeOut_74 : decode cX5_lampsThatMayBeOut 74 = .ok (.iload 4, 2) := by decide +kernel
theorem dX5_lampsThatMayBeOut_76 : decode cX5_lampsThatMayBeOut 76 = .ok (.ishl, 1) := by decide +kernel
theorem dX5_lampsThatMayBeOut_77 : decode cX5_lampsThatMayBeOut 77 = .ok (.ior, 1) := by decide +kernel
theorem dX5_lampsThatMayBeOut_78 : decode cX5_lampsThatMayBeOut 78 = .ok (.istore_n 3, 1) := by decide +kernel
theorem dX5_lampsThatMayBeOut_79 : decode cX5_lampsThatMayBeOut 79 = .ok (.iinc 4 1, 3) := by decide +kernel
theorem dX5_lampsThatMayBeOut_82 : decode cX5_lampsThatMayBeOut 82 = .ok (.goto (-53), 3) := by decide +kernel
theorem dX5_lampsThatMayBeOut_85 : decode cX5_lampsThatMayBeOut 85 = .ok (.iload_n 3, 1) := by decide +kernel
theorem dX5_lampsThatMayBeOut_86 : decode cX5_lampsThatMayBeOut 86 = .ok (.ireturn, 1) := by decide +kernel
theorem dX5_keep_0 : decode cX5_keep 0 = .ok (.iload_n 1, 1) := by decide +kernel
theorem dX5_keep_1 : decode cX5_keep 1 = .ok (.ifCond .lt 8, 3) := by decide +kernel
theorem dX5_keep_4 : decode cX5_keep 4 = .ok (.iload_n 1, 1) := by decide +kernel
theorem dX5_keep_5 : decode cX5_keep 5 = .ok (.iconst 2, 1) := by decide +kernel
theorem dX5_keep_6 : decode cX5_keep 6 = .ok (.if_icmp .lt 5, 3) := by decide +kernel
theorem dX5_keep_9 : decode cX5_keep 9 = .ok (.iconst (-1), 1) := by decide +kernel
theorem dX5_keep_10 : decode cX5_keep 10 = .ok (.ireturn, 1) := by decide +kernel
theorem dX5_keep_11 : decode cX5_keep 11 = .ok (.aload_n 0, 1) := by decide +kernel
theorem dX5_keep_12 : decode cX5_keep 12 = .ok (.getfield 47, 3) := by decide +kernel
theorem dX5_keep_15 : decode cX5_keep 15 = .ok (.iload_n 1, 1) := by decide +kernel
theorem dX5_keep_16 : decode cX5_keep 16 = .ok (.aaload, 1) := by decide +kernel
theorem dX5_keep_17 : decode cX5_keep 17 = .ok (.aload_n 0, 1) := by decide +kernel
theorem dX5_keep_18 : decode cX5_keep 18 = .ok (.getfield 12, 3) := by decide +kernel
theorem dX5_keep_21 : decode cX5_keep 21 = .ok (.invokevirtual 75, 3) := by decide +kernel
theorem dX5_keep_24 : decode cX5_keep 24 = .ok (.aload_n 0, 1) := by decide +kernel
theorem dX5_keep_25 : decode cX5_keep 25 = .ok (.getfield 51, 3) := by decide +kernel
theorem dX5_keep_28 : decode cX5_keep 28 = .ok (.iload_n 1, 1) := by decide +kernel
theorem dX5_keep_29 : decode cX5_keep 29 = .ok (.iconst 1, 1) := by decide +kernel
theorem dX5_keep_30 : decode cX5_keep 30 = .ok (.bastore, 1) := by decide +kernel
theorem dX5_keep_31 : decode cX5_keep 31 = .ok (.aload_n 0, 1) := by decide +kernel
theorem dX5_keep_32 : decode cX5_keep 32 = .ok (.getfield 12, 3) := by decide +kernel
theorem dX5_keep_35 : decode cX5_keep 35 = .ok (.getfield 106, 3) := by decide +kernel
theorem dX5_keep_38 : decode cX5_keep 38 = .ok (.ireturn, 1) := by decide +kernel
theorem dX5_back_0 : decode cX5_back 0 = .ok (.iload_n 1, 1) := by decide +kernel
theorem dX5_back_1 : decode cX5_back 1 = .ok (.ifCond .lt 8, 3) := by decide +kernel
theorem dX5_back_4 : decode cX5_back 4 = .ok (.iload_n 1, 1) := by decide +kernel
theorem dX5_back_5 : decode cX5_back 5 = .ok (.iconst 2, 1) := by decide +kernel
theorem dX5_back_6 : decode cX5_back 6 = .ok (.if_icmp .lt 5, 3) := by decide +kernel
theorem dX5_back_9 : decode cX5_back 9 = .ok (.iconst (-1), 1) := by decide +kernel
theorem dX5_back_10 : decode cX5_back 10 = .ok (.ireturn, 1) := by decide +kernel
theorem dX5_back_11 : decode cX5_back 11 = .ok (.aload_n 0, 1) := by decide +kernel
theorem dX5_back_12 : decode cX5_back 12 = .ok (.getfield 51, 3) := by decide +kernel
theorem dX5_back_15 : decode cX5_back 15 = .ok (.iload_n 1, 1) := by decide +kernel
theorem dX5_back_16 : decode cX5_back 16 = .ok (.baload, 1) := by decide +kernel
theorem dX5_back_17 : decode cX5_back 17 = .ok (.ifCond .ne 6, 3) := by decide +kernel
theorem dX5_back_20 : decode cX5_back 20 = .ok (.bipush (-2), 2) := by decide +kernel
theorem dX5_back_22 : decode cX5_back 22 = .ok (.ireturn, 1) := by decide +kernel
theorem dX5_back_23 : decode cX5_back 23 = .ok (.aload_n 0, 1) := by decide +kernel
theorem dX5_back_24 : decode cX5_back 24 = .ok (.getfield 12, 3) := by decide +kernel
theorem dX5_back_27 : decode cX5_back 27 = .ok (.aload_n 0, 1) := by decide +kernel
theorem dX5_back_28 : decode cX5_back 28 = .ok (.getfield 47, 3) := by decide +kernel
theorem dX5_back_31 : decode cX5_back 31 = .ok (.iload_n 1, 1) := by decide +kernel
theorem dX5_back_32 : decode cX5_back 32 = .ok (.aaload, 1) := by decide +kernel
theorem dX5_back_33 : decode cX5_back 33 = .ok (.invokevirtual 75, 3) := by decide +kernel
theorem dX5_back_36 : decode cX5_back 36 = .ok (.aload_n 0, 1) := by decide +kernel
theorem dX5_back_37 : decode cX5_back 37 = .ok (.getfield 29, 3) := by decide +kernel
theorem dX5_back_40 : decode cX5_back 40 = .ok (.iconst 0, 1) := by decide +kernel
theorem dX5_back_41 : decode cX5_back 41 = .ok (.putfield 79, 3) := by decide +kernel
theorem dX5_back_44 : decode cX5_back 44 = .ok (.aload_n 0, 1) := by decide +kernel
theorem dX5_back_45 : decode cX5_back 45 = .ok (.getfield 12, 3) := by decide +kernel
theorem dX5_back_48 : decode cX5_back 48 = .ok (.getfield 106, 3) := by decide +kernel
theorem dX5_back_51 : decode cX5_back 51 = .ok (.ireturn, 1) := by decide +kernel
theorem dX5_count_0 : decode cX5_count 0 = .ok (.iload_n 1, 1) := by decide +kernel
theorem dX5_count_1 : decode cX5_count 1 = .ok (.tableswitch 96 0 6 #[43, 51, 59, 67, 75, 80, 88], 43) := by decide +kernel
theorem dX5_count_44 : decode cX5_count 44 = .ok (.aload_n 0, 1) := by decide +kernel
theorem dX5_count_45 : decode cX5_count 45 = .ok (.getfield 12, 3) := by decide +kernel
theorem dX5_count_48 : decode cX5_count 48 = .ok (.getfield 198, 3) := by decide +kernel
theorem dX5_count_51 : decode cX5_count 51 = .ok (.ireturn, 1) := by decide +kernel
theorem dX5_count_52 : decode cX5_count 52 = .ok (.aload_n 0, 1) := by decide +kernel
theorem dX5_count_53 : decode cX5_count 53 = .ok (.getfield 12, 3) := by decide +kernel
theorem dX5_count_56 : decode cX5_count 56 = .ok (.getfield 195, 3) := by decide +kernel
theorem dX5_count_59 : decode cX5_count 59 = .ok (.ireturn, 1) := by decide +kernel
theorem dX5_count_60 : decode cX5_count 60 = .ok (.aload_n 0, 1) := by decide +kernel
theorem dX5_count_61 : decode cX5_count 61 = .ok (.getfield 12, 3) := by decide +kernel
theorem dX5_count_64 : decode cX5_count 64 = .ok (.getfield 127, 3) := by decide +kernel
theorem dX5_count_67 : decode cX5_count 67 = .ok (.ireturn, 1) := by decide +kernel
theorem dX5_count_68 : decode cX5_count 68 = .ok (.aload_n 0, 1) := by decide +kernel
theorem dX5_count_69 : decode cX5_count 69 = .ok (.getfield 12, 3) := by decide +kernel
theorem dX5_count_72 : decode cX5_count 72 = .ok (.getfield 106, 3) := by decide +kernel
theorem dX5_count_75 : decode cX5_count 75 = .ok (.ireturn, 1) := by decide +kernel
theorem dX5_count_76 : decode cX5_count 76 = .ok (.aload_n 0, 1) := by decide +kernel
theorem dX5_count_77 : decode cX5_count 77 = .ok (.getfield 82, 3) := by decide +kernel
theorem dX5_count_80 : decode cX5_count 80 = .ok (.ireturn, 1) := by decide +kernel
theorem dX5_count_81 : decode cX5_count 81 = .ok (.aload_n 0, 1) := by decide +kernel
theorem dX5_count_82 : decode cX5_count 82 = .ok (.getfield 22, 3) := by decide +kernel
theorem dX5_count_85 : decode cX5_count 85 = .ok (.getfield 63, 3) := by decide +kernel
theorem dX5_count_88 : decode cX5_count 88 = .ok (.ireturn, 1) := by decide +kernel
theorem dX5_count_89 : decode cX5_count 89 = .ok (.aload_n 0, 1) := by decide +kernel
theorem dX5_count_90 : decode cX5_count 90 = .ok (.getfield 29, 3) := by decide +kernel
theorem dX5_count_93 : decode cX5_count 93 = .ok (.getfield 79, 3) := by decide +kernel
theorem dX5_count_96 : decode cX5_count 96 = .ok (.ireturn, 1) := by decide +kernel
theorem dX5_count_97 : decode cX5_count 97 = .ok (.iconst (-1), 1) := by decide +kernel
theorem dX5_count_98 : decode cX5_count 98 = .ok (.ireturn, 1) := by decide +kernel
theorem dX6_init_0 : decode cX6_init 0 = .ok (.aload_n 0, 1) := by decide +kernel
theorem dX6_init_1 : decode cX6_init 1 = .ok (.invokespecial 1, 3) := by decide +kernel
theorem dX6_init_4 : decode cX6_init 4 = .ok (.aload_n 0, 1) := by decide +kernel
theorem dX6_init_5 : decode cX6_init 5 = .ok (.bipush 82, 2) := by decide +kernel
theorem dX6_init_7 : decode cX6_init 7 = .ok (.newarray .int, 2) := by decide +kernel
theorem dX6_init_9 : decode cX6_init 9 = .ok (.putfield 7, 3) := by decide +kernel
theorem dX6_init_12 : decode cX6_init 12 = .ok (.aload_n 0, 1) := by decide +kernel
theorem dX6_init_13 : decode cX6_init 13 = .ok (.sipush 820, 3) := by decide +kernel
theorem dX6_init_16 : decode cX6_init 16 = .ok (.newarray .int, 2) := by decide +kernel
theorem dX6_init_18 : decode cX6_init 18 = .ok (.putfield 13, 3) := by decide +kernel
theorem dX6_init_21 : decode cX6_init 21 = .ok (.aload_n 0, 1) := by decide +kernel
theorem dX6_init_22 : decode cX6_init 22 = .ok (.sipush 164, 3) := by decide +kernel
theorem dX6_init_25 : decode cX6_init 25 = .ok (.newarray .int, 2) := by decide +kernel
theorem dX6_init_27 : decode cX6_init 27 = .ok (.putfield 16, 3) := by decide +kernel
theorem dX6_init_30 : decode cX6_init 30 = .ok (.aload_n 0, 1) := by decide +kernel
theorem dX6_init_31 : decode cX6_init 31 = .ok (.iconst 2, 1) := by decide +kernel
theorem dX6_init_32 : decode cX6_init 32 = .ok (.newarray .boolean, 2) := by decide +kernel
theorem dX6_init_34 : decode cX6_init 34 = .ok (.putfield 19, 3) := by decide +kernel
theorem dX6_init_37 : decode cX6_init 37 = .ok (.aload_n 0, 1) := by decide +kernel
theorem dX6_init_38 : decode cX6_init 38 = .ok (.bipush 6, 2) := by decide +kernel
theorem dX6_init_40 : decode cX6_init 40 = .ok (.newarray .int, 2) := by decide +kernel
theorem dX6_init_42 : decode cX6_init 42 = .ok (.putfield 23, 3) := by decide +kernel
theorem dX6_init_45 : decode cX6_init 45 = .ok (.aload_n 0, 1) := by decide +kernel
theorem dX6_init_46 : decode cX6_init 46 = .ok (.bipush 6, 2) := by decide +kernel
theorem dX6_init_48 : decode cX6_init 48 = .ok (.newarray .int, 2) := by decide +kernel
theorem dX6_init_50 : decode cX6_init 50 = .ok (.putfield 26, 3) := by decide +kernel
theorem dX6_init_53 : decode cX6_init 53 = .ok (.aload_n 0, 1) := by decide +kernel
theorem dX6_init_54 : decode cX6_init 54 = .ok (.bipush 6, 2) := by decide +kernel
theorem dX6_init_56 : decode cX6_init 56 = .ok (.newarray .int, 2) := by decide +kernel
theorem dX6_init_58 : decode cX6_init 58 = .ok (.putfield 29, 3) := by decide +kernel
theorem dX6_init_61 : decode cX6_init 61 = .ok (.aload_n 0, 1) := by decide +kernel
theorem dX6_init_62 : decode cX6_init 62 = .ok (.bipush 120, 2) := by decide +kernel
theorem dX6_init_64 : decode cX6_init 64 = .ok (.newarray .int, 2) := by decide +kernel
theorem dX6_init_66 : decode cX6_init 66 = .ok (.putfield 32, 3) := by decide +kernel
theorem dX6_init_69 : decode cX6_init 69 = .ok (.aload_n 0, 1) := by decide +kernel
theorem dX6_init_70 : decode cX6_init 70 = .ok (.bipush 56, 2) := by decide +kernel
theorem dX6_init_72 : decode cX6_init 72 = .ok (.newarray .int, 2) := by decide +kernel
theorem dX6_init_74 : decode cX6_init 74 = .ok (.putfield 35, 3) := by decide +kernel
theorem dX6_init_77 : decode cX6_init 77 = .ok (.aload_n 0, 1) := by decide +kernel
theorem dX6_init_78 : decode cX6_init 78 = .ok (.bipush 16, 2) := by decide +kernel
theorem dX6_init_80 : decode cX6_init 80 = .ok (.newarray .int, 2) := by decide +kernel
theorem dX6_init_82 : decode cX6_init 82 = .ok (.putfield 38, 3) := by decide +kernel
theorem dX6_init_85 : decode cX6_init 85 = .ok (.aload_n 0, 1) := by decide +kernel
theorem dX6_init_86 : decode cX6_init 86 = .ok (.sipush 128, 3) := by decide +kernel
theorem dX6_init_89 : decode cX6_init 89 = .ok (.newarray .int, 2) := by decide +kernel
theorem dX6_init_91 : decode cX6_init 91 = .ok (.putfield 41, 3) := by decide +kernel
theorem dX6_init_94 : decode cX6_init 94 = .ok (.aload_n 0, 1) := by decide +kernel
theorem dX6_init_95 : decode cX6_init 95 = .ok (.sipush 128, 3) := by decide +kernel
theorem dX6_init_98 : decode cX6_init 98 = .ok (.newarray .int, 2) := by decide +kernel
theorem dX6_init_100 : decode cX6_init 100 = .ok (.putfield 44, 3) := by decide +kernel
theorem dX6_init_103 : decode cX6_init 103 = .ok (.aload_n 0, 1) := by decide +kernel
theorem dX6_init_104 : decode cX6_init 104 = .ok (.bipush 81, 2) := by decide +kernel
theorem dX6_init_106 : decode cX6_init 106 = .ok (.newarray .int, 2) := by decide +kernel
theorem dX6_init_108 : decode cX6_init 108 = .ok (.putfield 47, 3) := by decide +kernel
theorem dX6_init_111 : decode cX6_init 111 = .ok (.aload_n 0, 1) := by decide +kernel
theorem dX6_init_112 : decode cX6_init 112 = .ok (.invokevirtual 50, 3) := by decide +kernel
theorem dX6_init_115 : decode cX6_init 115 = .ok (.aload_n 0, 1) := by decide +kernel
theorem dX6_init_116 : decode cX6_init 116 = .ok (.invokevirtual 53, 3) := by decide +kernel
theorem dX6_init_119 : decode cX6_init 119 = .ok (.return_, 1) := by decide +kernel
theorem dX6_in_0 : decode cX6_in 0 = .ok (.iload_n 0, 1) := by decide +kernel
theorem dX6_in_1 : decode cX6_in 1 = .ok (.iload_n 1, 1) := by decide +kernel
theorem dX6_in_2 : decode cX6_in 2 = .ok (.if_icmp .lt 12, 3) := by decide +kernel
theorem dX6_in_5 : decode cX6_in 5 = .ok (.iload_n 0, 1) := by decide +kernel
theorem dX6_in_6 : decode cX6_in 6 = .ok (.iload_n 2, 1) := by decide +kernel
theorem dX6_in_7 : decode cX6_in 7 = .ok (.if_icmp .gt 7, 3) := by decide +kernel
theorem dX6_in_10 : decode cX6_in 10 = .ok (.iconst 1, 1) := by decide +kernel
theorem dX6_in_11 : decode cX6_in 11 = .ok (.goto 4, 3) := by decide +kernel
theorem dX6_in_14 : decode cX6_in 14 = .ok (.iconst 0, 1) := by decide +kernel
theorem dX6_in_15 : decode cX6_in 15 = .ok (.ireturn, 1) := by decide +kernel
theorem dX6_size_0 : decode cX6_size 0 = .ok (.iload_n 0, 1) := by decide +kernel
theorem dX6_size_1 : decode cX6_size 1 = .ok (.ifCond .ge 8, 3) := by decide +kernel
theorem dX6_size_4 : decode cX6_size 4 = .ok (.iload_n 0, 1) := by decide +kernel
theorem dX6_size_5 : decode cX6_size 5 = .ok (.ineg, 1) := by decide +kernel
theorem dX6_size_6 : decode cX6_size 6 = .ok (.goto 4, 3) := by decide +kernel
theorem dX6_size_9 : decode cX6_size 9 = .ok (.iload_n 0, 1) := by decide +kernel
theorem dX6_size_10 : decode cX6_size 10 = .ok (.ireturn, 1) := by decide +kernel
theorem dX6_isSpot_0 : decode cX6_isSpot 0 = .ok (.iload_n 1, 1) := by decide +kernel
theorem dX6_isSpot_1 : decode cX6_isSpot 1 = .ok (.iconst 0, 1) := by decide +kernel
theorem dX6_isSpot_2 : decode cX6_isSpot 2 = .ok (.aload_n 0, 1) := by decide +kernel
theorem dX6_isSpot_3 : decode cX6_isSpot 3 = .ok (.getfield 60, 3) := by decide +kernel
theorem dX6_isSpot_6 : decode cX6_isSpot 6 = .ok (.iconst 1, 1) := by decide +kernel
theorem dX6_isSpot_7 : decode cX6_isSpot 7 = .ok (.isub, 1) := by decide +kernel
theorem dX6_isSpot_8 : decode cX6_isSpot 8 = .ok (.invokestatic 63, 3) := by decide +kernel
theorem dX6_isSpot_11 : decode cX6_isSpot 11 = .ok (.ifCond .eq 21, 3) := by decide +kernel
theorem dX6_isSpot_14 : decode cX6_isSpot 14 = .ok (.iload_n 2, 1) := by decide +kernel
theorem dX6_isSpot_15 : decode cX6_isSpot 15 = .ok (.iconst 0, 1) := by decide +kernel
theorem dX6_isSpot_16 : decode cX6_isSpot 16 = .ok (.aload_n 0, 1) := by decide +kernel
theorem dX6_isSpot_17 : decode cX6_isSpot 17 = .ok (.getfield 67, 3) := by decide +kernel
theorem dX6_isSpot_20 : decode cX6_isSpot 20 = .ok (.iconst 1, 1) := by decide +kernel
theorem dX6_isSpot_21 : decode cX6_isSpot 21 = .ok (.isub, 1) := by decide +kernel
theorem dX6_isSpot_22 : decode cX6_isSpot 22 = .ok (.invokestatic 63, 3) := by decide +kernel
theorem dX6_isSpot_25 : decode cX6_isSpot 25 = .ok (.ifCond .eq 7, 3) := by decide +kernel
theorem dX6_isSpot_28 : decode cX6_isSpot 28 = .ok (.iconst 1, 1) := by decide +kernel
theorem dX6_isSpot_29 : decode cX6_isSpot 29 = .ok (.goto 4, 3) := by decide +kernel
theorem dX6_isSpot_32 : decode cX6_isSpot 32 = .ok (.iconst 0, 1) := by decide +kernel
theorem dX6_isSpot_33 : decode cX6_isSpot 33 = .ok (.ireturn, 1) := by decide +kernel
theorem dX6_isLamp_0 : decode cX6_isLamp 0 = .ok (.iload_n 1, 1) := by decide +kernel
theorem dX6_isLamp_1 : decode cX6_isLamp 1 = .ok (.iconst 0, 1) := by decide +kernel
theorem dX6_isLamp_2 : decode cX6_isLamp 2 = .ok (.aload_n 0, 1) := by decide +kernel
theorem dX6_isLamp_3 : decode cX6_isLamp 3 = .ok (.getfield 7, 3) := by decide +kernel
theorem dX6_isLamp_6 : decode cX6_isLamp 6 = .ok (.iconst 0, 1) := by decide +kernel
theorem dX6_isLamp_7 : decode cX6_isLamp 7 = .ok (.iaload, 1) := by decide +kernel
theorem dX6_isLamp_8 : decode cX6_isLamp 8 = .ok (.iconst 1, 1) := by decide +kernel
theorem dX6_isLamp_9 : decode cX6_isLamp 9 = .ok (.isub, 1) := by decide +kernel
theorem dX6_isLamp_10 : decode cX6_isLamp 10 = .ok (.invokestatic 63, 3) := by decide +kernel
theorem dX6_isLamp_13 : decode cX6_isLamp 13 = .ok (.ireturn, 1) := by decide +kernel
theorem dX6_isWall_0 : decode cX6_isWall 0 = .ok (.iload_n 1, 1) := by decide +kernel
theorem dX6_isWall_1 : decode cX6_isWall 1 = .ok (.iconst 0, 1) := by decide +kernel
theorem dX6_isWall_2 : decode cX6_isWall 2 = .ok (.aload_n 0, 1) := by decide +kernel
theorem dX6_isWall_3 : decode cX6_isWall 3 = .ok (.getfield 7, 3) := by decide +kernel
theorem dX6_isWall_6 : decode cX6_isWall 6 = .ok (.iconst 1, 1) := by decide +kernel
theorem dX6_isWall_7 : decode cX6_isWall 7 = .ok (.iaload, 1) := by decide +kernel
theorem dX6_isWall_8 : decode cX6_isWall 8 = .ok (.iconst 1, 1) := by decide +kernel
theorem dX6_isWall_9 : decode cX6_isWall 9 = .ok (.isub, 1) := by decide +kernel
theorem dX6_isWall_10 : decode cX6_isWall 10 = .ok (.invokestatic 63, 3) := by decide +kernel
theorem dX6_isWall_13 : decode cX6_isWall 13 = .ok (.ireturn, 1) := by decide +kernel
theorem dX6_ofLamp_0 : decode cX6_ofLamp 0 = .ok (.aload_n 0, 1) := by decide +kernel
theorem dX6_ofLamp_1 : decode cX6_ofLamp 1 = .ok (.getfield 7, 3) := by decide +kernel
theorem dX6_ofLamp_4 : decode cX6_ofLamp 4 = .ok (.iconst 2, 1) := by decide +kernel
theorem dX6_ofLamp_5 : decode cX6_ofLamp 5 = .ok (.iconst 3, 1) := by decide +kernel
theorem dX6_ofLamp_6 : decode cX6_ofLamp 6 = .ok (.iload_n 1, 1) := by decide +kernel
theorem dX6_ofLamp_7 : decode cX6_ofLamp 7 = .ok (.imul, 1) := by decide +kernel
theorem dX6_ofLamp_8 : decode cX6_ofLamp 8 = .ok (.iadd, 1) := by decide +kernel
theorem dX6_ofLamp_9 : decode cX6_ofLamp 9 = .ok (.iload_n 2, 1) := by decide +kernel
theorem dX6_ofLamp_10 : decode cX6_ofLamp 10 = .ok (.iadd, 1) := by decide +kernel
theorem dX6_ofLamp_11 : decode cX6_ofLamp 11 = .ok (.iaload, 1) := by decide +kernel
theorem dX6_ofLamp_12 : decode cX6_ofLamp 12 = .ok (.ireturn, 1) := by decide +kernel
theorem dX6_ofWall_0 : decode cX6_ofWall 0 = .ok (.aload_n 0, 1) := by decide +kernel
theorem dX6_ofWall_1 : decode cX6_ofWall 1 = .ok (.getfield 7, 3) := by decide +kernel
theorem dX6_ofWall_4 : decode cX6_ofWall 4 = .ok (.bipush 26, 2) := by decide +kernel
theorem dX6_ofWall_6 : decode cX6_ofWall 6 = .ok (.iconst 4, 1) := by decide +kernel
theorem dX6_ofWall_7 : decode cX6_ofWall 7 = .ok (.iload_n 1, 1) := by decide +kernel
theorem dX6_ofWall_8 : decode cX6_ofWall 8 = .ok (.imul, 1) := by decide +kernel
theorem dX6_ofWall_9 : decode cX6_ofWall 9 = .ok (.iadd, 1) := by decide +kernel
theorem dX6_ofWall_10 : decode cX6_ofWall 10 = .ok (.iload_n 2, 1) := by decide +kernel
theorem dX6_ofWall_11 : decode cX6_ofWall 11 = .ok (.iadd, 1) := by decide +kernel
theorem dX6_ofWall_12 : decode cX6_ofWall 12 = .ok (.iaload, 1) := by decide +kernel
theorem dX6_ofWall_13 : decode cX6_ofWall 13 = .ok (.ireturn, 1) := by decide +kernel
theorem dX6_lampAt_0 : decode cX6_lampAt 0 = .ok (.iconst 0, 1) := by decide +kernel
theorem dX6_lampAt_1 : decode cX6_lampAt 1 = .ok (.istore_n 3, 1) := by decide +kernel
theorem dX6_lampAt_2 : decode cX6_lampAt 2 = .ok (.iload_n 3, 1) := by decide +kernel
theorem dX6_lampAt_3 : decode cX6_lampAt 3 = .ok (.aload_n 0, 1) := by decide +kernel
theorem dX6_lampAt_4 : decode cX6_lampAt 4 = .ok (.getfield 7, 3) := by decide +kernel
theorem dX6_lampAt_7 : decode cX6_lampAt 7 = .ok (.iconst 0, 1) := by decide +kernel
theorem dX6_lampAt_8 : decode cX6_lampAt 8 = .ok (.iaload, 1) := by decide +kernel
theorem dX6_lampAt_9 : decode cX6_lampAt 9 = .ok (.if_icmp .ge 31, 3) := by decide +kernel
theorem dX6_lampAt_12 : decode cX6_lampAt 12 = .ok (.aload_n 0, 1) := by decide +kernel
theorem dX6_lampAt_13 : decode cX6_lampAt 13 = .ok (.iload_n 3, 1) := by decide +kernel
theorem dX6_lampAt_14 : decode cX6_lampAt 14 = .ok (.iconst 0, 1) := by decide +kernel
theorem dX6_lampAt_15 : decode cX6_lampAt 15 = .ok (.invokevirtual 70, 3) := by decide +kernel
theorem dX6_lampAt_18 : decode cX6_lampAt 18 = .ok (.iload_n 1, 1) := by decide +kernel
theorem dX6_lampAt_19 : decode cX6_lampAt 19 = .ok (.if_icmp .ne 15, 3) := by decide +kernel
theorem dX6_lampAt_22 : decode cX6_lampAt 22 = .ok (.aload_n 0, 1) := by decide +kernel
theorem dX6_lampAt_23 : decode cX6_lampAt 23 = .ok (.iload_n 3, 1) := by decide +kernel
theorem dX6_lampAt_24 : decode cX6_lampAt 24 = .ok (.iconst 1, 1) := by decide +kernel
theorem dX6_lampAt_25 : decode cX6_lampAt 25 = .ok (.invokevirtual 70, 3) := by decide +kernel
theorem dX6_lampAt_28 : decode cX6_lampAt 28 = .ok (.iload_n 2, 1) := by decide +kernel
theorem dX6_lampAt_29 : decode cX6_lampAt 29 = .ok (.if_icmp .ne 5, 3) := by decide +kernel
theorem dX6_lampAt_32 : decode cX6_lampAt 32 = .ok (.iload_n 3, 1) := by decide +kernel
theorem dX6_lampAt_33 : decode cX6_lampAt 33 = .ok (.ireturn, 1) := by decide +kernel
theorem dX6_lampAt_34 : decode cX6_lampAt 34 = .ok (.iinc 3 1, 3) := by decide +kernel
theorem dX6_lampAt_37 : decode cX6_lampAt 37 = .ok (.goto (-35), 3) := by decide +kernel
theorem dX6_lampAt_40 : decode cX6_lampAt 40 = .ok (.bipush (-9), 2) := by decide +kernel
theorem dX6_lampAt_42 : decode cX6_lampAt 42 = .ok (.ireturn, 1) := by decide +kernel
theorem dX6_type_0 : decode cX6_type 0 = .ok (.aload_n 0, 1) := by decide +kernel
theorem dX6_type_1 : decode cX6_type 1 = .ok (.iconst 0, 1) := by decide +kernel
theorem dX6_type_2 : decode cX6_type 2 = .ok (.putfield 56, 3) := by decide +kernel
theorem dX6_type_5 : decode cX6_type 5 = .ok (.iload_n 1, 1) := by decide +kernel
theorem dX6_type_6 : decode cX6_type 6 = .ok (.iconst 0, 1) := by decide +kernel
theorem dX6_type_7 : decode cX6_type 7 = .ok (.sipush 255, 3) := by decide +kernel
theorem dX6_type_10 : decode cX6_type 10 = .ok (.invokestatic 63, 3) := by decide +kernel
theorem dX6_type_13 : decode cX6_type 13 = .ok (.ifCond .ne 5, 3) := by decide +kernel
theorem dX6_type_16 : decode cX6_type 16 = .ok (.iconst (-1), 1) := by decide +kernel
theorem dX6_type_17 : decode cX6_type 17 = .ok (.ireturn, 1) := by decide +kernel
theorem dX6_type_18 : decode cX6_type 18 = .ok (.aload_n 0, 1) := by decide +kernel
theorem dX6_type_19 : decode cX6_type 19 = .ok (.getfield 74, 3) := by decide +kernel
theorem dX6_type_22 : decode cX6_type 22 = .ok (.bipush 120, 2) := by decide +kernel
theorem dX6_type_24 : decode cX6_type 24 = .ok (.if_icmp .ne 6, 3) := by decide +kernel
theorem dX6_type_27 : decode cX6_type 27 = .ok (.bipush (-3), 2) := by decide +kernel
theorem dX6_type_29 : decode cX6_type 29 = .ok (.ireturn, 1) := by decide +kernel
theorem dX6_type_30 : decode cX6_type 30 = .ok (.aload_n 0, 1) := by decide +kernel
theorem dX6_type_31 : decode cX6_type 31 = .ok (.getfield 32, 3) := by decide +kernel
theorem dX6_type_34 : decode cX6_type 34 = .ok (.aload_n 0, 1) := by decide +kernel
theorem dX6_type_35 : decode cX6_type 35 = .ok (.getfield 74, 3) := by decide +kernel
theorem dX6_type_38 : decode cX6_type 38 = .ok (.iload_n 1, 1) := by decide +kernel
theorem dX6_type_39 : decode cX6_type 39 = .ok (.iastore, 1) := by decide +kernel
theorem dX6_type_40 : decode cX6_type 40 = .ok (.aload_n 0, 1) := by decide +kernel
theorem dX6_type_41 : decode cX6_type 41 = .ok (.dup, 1) := by decide +kernel
theorem dX6_type_42 : decode cX6_type 42 = .ok (.getfield 74, 3) := by decide +kernel
theorem dX6_type_45 : decode cX6_type 45 = .ok (.iconst 1, 1) := by decide +kernel
theorem dX6_type_46 : decode cX6_type 46 = .ok (.iadd, 1) := by decide +kernel
theorem dX6_type_47 : decode cX6_type 47 = .ok (.putfield 74, 3) := by decide +kernel
theorem dX6_type_50 : decode cX6_type 50 = .ok (.aload_n 0, 1) := by decide +kernel
theorem dX6_type_51 : decode cX6_type 51 = .ok (.getfield 74, 3) := by decide +kernel
theorem dX6_type_54 : decode cX6_type 54 = .ok (.ireturn, 1) := by decide +kernel
theorem dX6_clear_0 : decode cX6_clear 0 = .ok (.aload_n 0, 1) := by decide +kernel
theorem dX6_clear_1 : decode cX6_clear 1 = .ok (.iconst 0, 1) := by decide +kernel
theorem dX6_clear_2 : decode cX6_clear 2 = .ok (.putfield 56, 3) := by decide +kernel
theorem dX6_clear_5 : decode cX6_clear 5 = .ok (.aload_n 0, 1) := by decide +kernel
theorem dX6_clear_6 : decode cX6_clear 6 = .ok (.getfield 74, 3) := by decide +kernel
theorem dX6_clear_9 : decode cX6_clear 9 = .ok (.istore_n 1, 1) := by decide +kernel
theorem dX6_clear_10 : decode cX6_clear 10 = .ok (.aload_n 0, 1) := by decide +kernel
theorem dX6_clear_11 : decode cX6_clear 11 = .ok (.iconst 0, 1) := by decide +kernel
theorem dX6_clear_12 : decode cX6_clear 12 = .ok (.putfield 74, 3) := by decide +kernel
theorem dX6_clear_15 : decode cX6_clear 15 = .ok (.iload_n 1, 1) := by decide +kernel
theorem dX6_clear_16 : decode cX6_clear 16 = .ok (.ireturn, 1) := by decide +kernel
theorem dX6_isFigure_0 : decode cX6_isFigure 0 = .ok (.iload_n 1, 1) := by decide +kernel
theorem dX6_isFigure_1 : decode cX6_isFigure 1 = .ok (.aload_n 0, 1) := by decide +kernel
theorem dX6_isFigure_2 : decode cX6_isFigure 2 = .ok (.getfield 74, 3) := by decide +kernel
theorem dX6_isFigure_5 : decode cX6_isFigure 5 = .ok (.if_icmp .ge 23, 3) := by decide +kernel
theorem dX6_isFigure_8 : decode cX6_isFigure 8 = .ok (.aload_n 0, 1) := by decide +kernel
theorem dX6_isFigure_9 : decode cX6_isFigure 9 = .ok (.getfield 32, 3) := by decide +kernel
theorem dX6_isFigure_12 : decode cX6_isFigure 12 = .ok (.iload_n 1, 1) := by decide +kernel
theorem dX6_isFigure_13 : decode cX6_isFigure 13 = .ok (.iaload, 1) := by decide +kernel
theorem dX6_isFigure_14 : decode cX6_isFigure 14 = .ok (.bipush 48, 2) := by decide +kernel
theorem dX6_isFigure_16 : decode cX6_isFigure 16 = .ok (.bipush 57, 2) := by decide +kernel
theorem dX6_isFigure_18 : decode cX6_isFigure 18 = .ok (.invokestatic 63, 3) := by decide +kernel
theorem dX6_isFigure_21 : decode cX6_isFigure 21 = .ok (.ifCond .eq 7, 3) := by decide +kernel
theorem dX6_isFigure_24 : decode cX6_isFigure 24 = .ok (.iconst 1, 1) := by decide +kernel
theorem dX6_isFigure_25 : decode cX6_isFigure 25 = .ok (.goto 4, 3) := by decide +kernel
theorem dX6_isFigure_28 : decode cX6_isFigure 28 = .ok (.iconst 0, 1) := by decide +kernel
theorem dX6_isFigure_29 : decode cX6_isFigure 29 = .ok (.ireturn, 1) := by decide +kernel
theorem dX6_steps_0 : decode cX6_steps 0 = .ok (.aload_n 0, 1) := by decide +kernel
theorem dX6_steps_1 : decode cX6_steps 1 = .ok (.getfield 77, 3) := by decide +kernel
theorem dX6_steps_4 : decode cX6_steps 4 = .ok (.aload_n 0, 1) := by decide +kernel
theorem dX6_steps_5 : decode cX6_steps 5 = .ok (.getfield 74, 3) := by decide +kernel
theorem dX6_steps_8 : decode cX6_steps 8 = .ok (.if_icmp .ge 30, 3) := by decide +kernel
theorem dX6_steps_11 : decode cX6_steps 11 = .ok (.aload_n 0, 1) := by decide +kernel
theorem dX6_steps_12 : decode cX6_steps 12 = .ok (.getfield 32, 3) := by decide +kernel
theorem dX6_steps_15 : decode cX6_steps 15 = .ok (.aload_n 0, 1) := by decide +kernel
theorem dX6_steps_16 : decode cX6_steps 16 = .ok (.getfield 77, 3) := by decide +kernel
theorem dX6_steps_19 : decode cX6_steps 19 = .ok (.iaload, 1) := by decide +kernel
theorem dX6_steps_20 : decode cX6_steps 20 = .ok (.bipush 32, 2) := by decide +kernel
theorem dX6_steps_22 : decode cX6_steps 22 = .ok (.if_icmp .ne 16, 3) := by decide +kernel
theorem dX6_steps_25 : decode cX6_steps 25 = .ok (.aload_n 0, 1) := by decide +kernel
theorem dX6_steps_26 : decode cX6_steps 26 = .ok (.dup, 1) := by decide +kernel
theorem dX6_steps_27 : decode cX6_steps 27 = .ok (.getfield 77, 3) := by decide +kernel
theorem dX6_steps_30 : decode cX6_steps 30 = .ok (.iconst 1, 1) := by decide +kernel
theorem dX6_steps_31 : decode cX6_steps 31 = .ok (.iadd, 1) := by decide +kernel
theorem dX6_steps_32 : decode cX6_steps 32 = .ok (.putfield 77, 3) := by decide +kernel
theorem dX6_steps_35 : decode cX6_steps 35 = .ok (.goto (-35), 3) := by decide +kernel
theorem dX6_steps_38 : decode cX6_steps 38 = .ok (.aload_n 0, 1) := by decide +kernel
theorem dX6_steps_39 : decode cX6_steps 39 = .ok (.aload_n 0, 1) := by decide +kernel
theorem dX6_steps_40 : decode cX6_steps 40 = .ok (.getfield 77, 3) := by decide +kernel
theorem dX6_steps_43 : decode cX6_steps 43 = .ok (.putfield 80, 3) := by decide +kernel
theorem dX6_steps_46 : decode cX6_steps 46 = .ok (.aload_n 0, 1) := by decide +kernel
theorem dX6_steps_47 : decode cX6_steps 47 = .ok (.aload_n 0, 1) := by decide +kernel
theorem dX6_steps_48 : decode cX6_steps 48 = .ok (.getfield 77, 3) := by decide +kernel
theorem dX6_steps_51 : decode cX6_steps 51 = .ok (.aload_n 0, 1) := by decide +kernel
theorem dX6_steps_52 : decode cX6_steps 52 = .ok (.getfield 74, 3) := by decide +kernel
theorem dX6_steps_55 : decode cX6_steps 55 = .ok (.if_icmp .ge 15, 3) := by decide +kernel
theorem dX6_steps_58 : decode cX6_steps 58 = .ok (.aload_n 0, 1) := by decide +kernel
theorem dX6_steps_59 : decode cX6_steps 59 = .ok (.getfield 32, 3) := by decide +kernel
theorem dX6_steps_62 : decode cX6_steps 62 = .ok (.aload_n 0, 1) := by decide +kernel
theorem dX6_steps_63 : decode cX6_steps 63 = .ok (.getfield 77, 3) := by decide +kernel
theorem dX6_steps_66 : decode cX6_steps 66 = .ok (.iaload, 1) := by decide +kernel
theorem dX6_steps_67 : decode cX6_steps 67 = .ok (.goto 4, 3) := by decide +kernel
theorem dX6_steps_70 : decode cX6_steps 70 = .ok (.iconst (-1), 1) := by decide +kernel
theorem dX6_steps_71 : decode cX6_steps 71 = .ok (.putfield 83, 3) := by decide +kernel
theorem dX6_steps_74 : decode cX6_steps 74 = .ok (.aload_n 0, 1) := by decide +kernel
theorem dX6_steps_75 : decode cX6_steps 75 = .ok (.aload_n 0, 1) := by decide +kernel
theorem dX6_steps_76 : decode cX6_steps 76 = .ok (.getfield 77, 3) := by decide +kernel
theorem dX6_steps_79 : decode cX6_steps 79 = .ok (.invokevirtual 86, 3) := by decide +kernel
theorem dX6_steps_82 : decode cX6_steps 82 = .ok (.ifCond .ne 29, 3) := by decide +kernel
theorem dX6_steps_85 : decode cX6_steps 85 = .ok (.aload_n 0, 1) := by decide +kernel
theorem dX6_steps_86 : decode cX6_steps 86 = .ok (.dup, 1) := by decide +kernel
theorem dX6_steps_87 : decode cX6_steps 87 = .ok (.getfield 77, 3) := by decide +kernel
theorem dX6_steps_90 : decode cX6_steps 90 = .ok (.aload_n 0, 1) := by decide +kernel
theorem dX6_steps_91 : decode cX6_steps 91 = .ok (.getfield 77, 3) := by decide +kernel
theorem dX6_steps_94 : decode cX6_steps 94 = .ok (.aload_n 0, 1) := by decide +kernel
theorem dX6_steps_95 : decode cX6_steps 95 = .ok (.getfield 74, 3) := by decide +kernel
theorem dX6_steps_98 : decode cX6_steps 98 = .ok (.if_icmp .ge 7, 3) := by decide +kernel
theorem dX6_steps_101 : decode cX6_steps 101 = .ok (.iconst 1, 1) := by decide +kernel
theorem dX6_steps_102 : decode cX6_steps 102 = .ok (.goto 4, 3) := by decide +kernel
theorem dX6_steps_105 : decode cX6_steps 105 = .ok (.iconst 0, 1) := by decide +kernel
theorem dX6_steps_106 : decode cX6_steps 106 = .ok (.iadd, 1) := by decide +kernel
theorem dX6_steps_107 : decode cX6_steps 107 = .ok (.putfield 77, 3) := by decide +kernel
theorem dX6_steps_110 : decode cX6_steps 110 = .ok (.return_, 1) := by decide +kernel
theorem dX6_steps_111 : decode cX6_steps 111 = .ok (.aload_n 0, 1) := by decide +kernel
theorem dX6_steps_112 : decode cX6_steps 112 = .ok (.aload_n 0, 1) := by decide +kernel
theorem dX6_steps_113 : decode cX6_steps 113 = .ok (.getfield 77, 3) := by decide +kernel
theorem dX6_steps_116 : decode cX6_steps 116 = .ok (.invokevirtual 86, 3) := by decide +kernel
theorem dX6_steps_119 : decode cX6_steps 119 = .ok (.ifCond .eq 16, 3) := by decide +kernel
theorem dX6_steps_122 : decode cX6_steps 122 = .ok (.aload_n 0, 1) := by decide +kernel
theorem dX6_steps_123 : decode cX6_steps 123 = .ok (.dup, 1) := by decide +kernel
theorem dX6_steps_124 : decode cX6_steps 124 = .ok (.getfield 77, 3) := by decide +kernel
theorem dX6_steps_127 : decode cX6_steps 127 = .ok (.iconst 1, 1) := by decide +kernel
theorem dX6_steps_128 : decode cX6_steps 128 = .ok (.iadd, 1) := by decide +kernel
theorem dX6_steps_129 : decode cX6_steps 129 = .ok (.putfield 77, 3) := by decide +kernel
theorem dX6_steps_132 : decode cX6_steps 132 = .ok (.goto (-21), 3) := by decide +kernel
theorem dX6_steps_135 : decode cX6_steps 135 = .ok (.aload_n 0, 1) := by decide +kernel
theorem dX6_steps_136 : decode cX6_steps 136 = .ok (.aload_n 0, 1) := by decide +kernel
theorem dX6_steps_137 : decode cX6_steps 137 = .ok (.getfield 77, 3) := by decide +kernel
theorem dX6_steps_140 : decode cX6_steps 140 = .ok (.aload_n 0, 1) := by decide +kernel
theorem dX6_steps_141 : decode cX6_steps 141 = .ok (.getfield 80, 3) := by decide +kernel
theorem dX6_steps_144 : decode cX6_steps 144 = .ok (.iconst 1, 1) := by decide +kernel
theorem dX6_steps_145 : decode cX6_steps 145 = .ok (.iadd, 1) := by decide +kernel
theorem dX6_steps_146 : decode cX6_steps 146 = .ok (.if_icmp .le 9, 3) := by decide +kernel
theorem dX6_steps_149 : decode cX6_steps 149 = .ok (.sipush 2000, 3) := by decide +kernel
theorem dX6_steps_152 : decode cX6_steps 152 = .ok (.goto 19, 3) := by decide +kernel
theorem dX6_steps_155 : decode cX6_steps 155 = .ok (.sipush 1000, 3) := by decide +kernel
theorem dX6_steps_158 : decode cX6_steps 158 = .ok (.aload_n 0, 1) := by decide +kernel
theorem dX6_steps_159 : decode cX6_steps 159 = .ok (.getfield 32, 3) := by decide +kernel
theorem dX6_steps_162 : decode cX6_steps 162 = .ok (.aload_n 0, 1) := by decide +kernel
theorem dX6_steps_163 : decode cX6_steps 163 = .ok (.getfield 80, 3) := by decide +kernel
theorem dX6_steps_166 : decode cX6_steps 166 = .ok (.iaload, 1) := by decide +kernel
theorem dX6_steps_167 : decode cX6_steps 167 = .ok (.iadd, 1) := by decide +kernel
theorem dX6_steps_168 : decode cX6_steps 168 = .ok (.bipush 48, 2) := by decide +kernel
theorem dX6_steps_170 : decode cX6_steps 170 = .ok (.isub, 1) := by decide +kernel
theorem dX6_steps_171 : decode cX6_steps 171 = .ok (.putfield 83, 3) := by decide +kernel
theorem dX6_steps_174 : decode cX6_steps 174 = .ok (.return_, 1) := by decide +kernel
theorem dX6_reads_0 : decode cX6_reads 0 = .ok (.aload_n 0, 1) := by decide +kernel
theorem dX6_reads_1 : decode cX6_reads 1 = .ok (.invokevirtual 90, 3) := by decide +kernel
theorem dX6_reads_4 : decode cX6_reads 4 = .ok (.aload_n 0, 1) := by decide +kernel
theorem dX6_reads_5 : decode cX6_reads 5 = .ok (.aload_n 0, 1) := by decide +kernel
theorem dX6_reads_6 : decode cX6_reads 6 = .ok (.getfield 83, 3) := by decide +kernel
theorem dX6_reads_9 : decode cX6_reads 9 = .ok (.sipush 1000, 3) := by decide +kernel
theorem dX6_reads_12 : decode cX6_reads 12 = .ok (.isub, 1) := by decide +kernel
theorem dX6_reads_13 : decode cX6_reads 13 = .ok (.putfield 93, 3) := by decide +kernel
theorem dX6_reads_16 : decode cX6_reads 16 = .ok (.aload_n 0, 1) := by decide +kernel
theorem dX6_reads_17 : decode cX6_reads 17 = .ok (.getfield 93, 3) := by decide +kernel
theorem dX6_reads_20 : decode cX6_reads 20 = .ok (.iload_n 1, 1) := by decide +kernel
theorem dX6_reads_21 : decode cX6_reads 21 = .ok (.iload_n 2, 1) := by decide +kernel
theorem dX6_reads_22 : decode cX6_reads 22 = .ok (.invokestatic 63, 3) := by decide +kernel
theorem dX6_reads_25 : decode cX6_reads 25 = .ok (.ireturn, 1) := by decide +kernel
theorem dX6_readsPlan_0 : decode cX6_readsPlan 0 = .ok (.iload_n 1, 1) := by decide +kernel
theorem dX6_readsPlan_1 : decode cX6_readsPlan 1 = .ok (.ifCond .gt 13, 3) := by decide +kernel
theorem dX6_readsPlan_4 : decode cX6_readsPlan 4 = .ok (.aload_n 0, 1) := by decide +kernel
theorem dX6_readsPlan_5 : decode cX6_readsPlan 5 = .ok (.iconst 2, 1) := by decide +kernel
theorem dX6_readsPlan_6 : decode cX6_readsPlan 6 = .ok (.bipush 9, 2) := by decide +kernel
theorem dX6_readsPlan_8 : decode cX6_readsPlan 8 = .ok (.invokevirtual 96, 3) := by decide +kernel
theorem dX6_readsPlan_11 : decode cX6_readsPlan 11 = .ok (.ifCond .ne 5, 3) := by decide +kernel
theorem dX6_readsPlan_14 : decode cX6_readsPlan 14 = .ok (.iconst 0, 1) := by decide +kernel
theorem dX6_readsPlan_15 : decode cX6_readsPlan 15 = .ok (.ireturn, 1) := by decide +kernel
theorem dX6_readsPlan_16 : decode cX6_readsPlan 16 = .ok (.aload_n 0, 1) := by decide +kernel
theorem dX6_readsPlan_17 : decode cX6_readsPlan 17 = .ok (.aload_n 0, 1) := by decide +kernel
theorem dX6_readsPlan_18 : decode cX6_readsPlan 18 = .ok (.getfield 93, 3) := by decide +kernel
theorem dX6_readsPlan_21 : decode cX6_readsPlan 21 = .ok (.putfield 100, 3) := by decide +kernel
theorem dX6_readsPlan_24 : decode cX6_readsPlan 24 = .ok (.aload_n 0, 1) := by decide +kernel
theorem dX6_readsPlan_25 : decode cX6_readsPlan 25 = .ok (.iconst 2, 1) := by decide +kernel
theorem dX6_readsPlan_26 : decode cX6_readsPlan 26 = .ok (.bipush 9, 2) := by decide +kernel
theorem dX6_readsPlan_28 : decode cX6_readsPlan 28 = .ok (.invokevirtual 96, 3) := by decide +kernel
theorem dX6_readsPlan_31 : decode cX6_readsPlan 31 = .ok (.istore_n 2, 1) := by decide +kernel
theorem dX6_readsPlan_32 : decode cX6_readsPlan 32 = .ok (.aload_n 0, 1) := by decide +kernel
theorem dX6_readsPlan_33 : decode cX6_readsPlan 33 = .ok (.aload_n 0, 1) := by decide +kernel
theorem dX6_readsPlan_34 : decode cX6_readsPlan 34 = .ok (.getfield 93, 3) := by decide +kernel
theorem dX6_readsPlan_37 : decode cX6_readsPlan 37 = .ok (.putfield 103, 3) := by decide +kernel
theorem dX6_readsPlan_40 : decode cX6_readsPlan 40 = .ok (.iload_n 2, 1) := by decide +kernel
theorem dX6_readsPlan_41 : decode cX6_readsPlan 41 = .ok (.ireturn, 1) := by decide +kernel
theorem dX6_readsWall_0 : decode cX6_readsWall 0 = .ok (.aload_n 0, 1) := by decide +kernel
theorem dX6_readsWall_1 : decode cX6_readsWall 1 = .ok (.getfield 106, 3) := by decide +kernel
theorem dX6_readsWall_4 : decode cX6_readsWall 4 = .ok (.bipush 10, 2) := by decide +kernel
theorem dX6_readsWall_6 : decode cX6_readsWall 6 = .ok (.if_icmp .eq 19, 3) := by decide +kernel
theorem dX6_readsWall_9 : decode cX6_readsWall 9 = .ok (.aload_n 0, 1) := by decide +kernel
theorem dX6_readsWall_10 : decode cX6_readsWall 10 = .ok (.iconst 0, 1) := by decide +kernel
theorem dX6_readsWall_11 : decode cX6_readsWall 11 = .ok (.aload_n 0, 1) := by decide +kernel
theorem dX6_readsWall_12 : decode cX6_readsWall 12 = .ok (.getfield 100, 3) := by decide +kernel
theorem dX6_readsWall_15 : decode cX6_readsWall 15 = .ok (.iconst 1, 1) := by decide +kernel
theorem dX6_readsWall_16 : decode cX6_readsWall 16 = .ok (.isub, 1) := by decide +kernel
theorem dX6_readsWall_17 : decode cX6_readsWall 17 = .ok (.iload_n 1, 1) := by decide +kernel
theorem dX6_readsWall_18 : decode cX6_readsWall 18 = .ok (.iadd, 1) := by decide +kernel
theorem dX6_readsWall_19 : decode cX6_readsWall 19 = .ok (.invokevirtual 96, 3) := by decide +kernel
theorem dX6_readsWall_22 : decode cX6_readsWall 22 = .ok (.ifCond .ne 5, 3) := by decide +kernel
theorem dX6_readsWall_25 : decode cX6_readsWall 25 = .ok (.iconst 0, 1) := by decide +kernel
theorem dX6_readsWall_26 : decode cX6_readsWall 26 = .ok (.ireturn, 1) := by decide +kernel
theorem dX6_readsWall_27 : decode cX6_readsWall 27 = .ok (.iconst 4, 1) := by decide +kernel
theorem dX6_readsWall_28 : decode cX6_readsWall 28 = .ok (.aload_n 0, 1) := by decide +kernel
theorem dX6_readsWall_29 : decode cX6_readsWall 29 = .ok (.getfield 106, 3) := by decide +kernel
theorem dX6_readsWall_32 : decode cX6_readsWall 32 = .ok (.imul, 1) := by decide +kernel
theorem dX6_readsWall_33 : decode cX6_readsWall 33 = .ok (.istore_n 2, 1) := by decide +kernel
theorem dX6_readsWall_34 : decode cX6_readsWall 34 = .ok (.aload_n 0, 1) := by decide +kernel
theorem dX6_readsWall_35 : decode cX6_readsWall 35 = .ok (.getfield 35, 3) := by decide +kernel
theorem dX6_readsWall_38 : decode cX6_readsWall 38 = .ok (.iload_n 2, 1) := by decide +kernel
theorem dX6_readsWall_39 : decode cX6_readsWall 39 = .ok (.aload_n 0, 1) := by decide +kernel
theorem dX6_readsWall_40 : decode cX6_readsWall 40 = .ok (.getfield 93, 3) := by decide +kernel
theorem dX6_readsWall_43 : decode cX6_readsWall 43 = .ok (.iastore, 1) := by decide +kernel
theorem dX6_readsWall_44 : decode cX6_readsWall 44 = .ok (.aload_n 0, 1) := by decide +kernel
theorem dX6_readsWall_45 : decode cX6_readsWall 45 = .ok (.iconst 0, 1) := by decide +kernel
theorem dX6_readsWall_46 : decode cX6_readsWall 46 = .ok (.aload_n 0, 1) := by decide +kernel
theorem dX6_readsWall_47 : decode cX6_readsWall 47 = .ok (.getfield 103, 3) := by decide +kernel
theorem dX6_readsWall_50 : decode cX6_readsWall 50 = .ok (.iload_n 1, 1) := by decide +kernel
theorem dX6_readsWall_51 : decode cX6_readsWall 51 = .ok (.isub, 1) := by decide +kernel
theorem dX6_readsWall_52 : decode cX6_readsWall 52 = .ok (.invokevirtual 96, 3) := by decide +kernel
theorem dX6_readsWall_55 : decode cX6_readsWall 55 = .ok (.ifCond .ne 5, 3) := by decide +kernel
theorem dX6_readsWall_58 : decode cX6_readsWall 58 = .ok (.iconst 0, 1) := by decide +kernel
theorem dX6_readsWall_59 : decode cX6_readsWall 59 = .ok (.ireturn, 1) := by decide +kernel
theorem dX6_readsWall_60 : decode cX6_readsWall 60 = .ok (.aload_n 0, 1) := by decide +kernel
theorem dX6_readsWall_61 : decode cX6_readsWall 61 = .ok (.getfield 35, 3) := by decide +kernel
theorem dX6_readsWall_64 : decode cX6_readsWall 64 = .ok (.iload_n 2, 1) := by decide +kernel
theorem dX6_readsWall_65 : decode cX6_readsWall 65 = .ok (.iconst 1, 1) := by decide +kernel
theorem dX6_readsWall_66 : decode cX6_readsWall 66 = .ok (.iadd, 1) := by decide +kernel
theorem dX6_readsWall_67 : decode cX6_readsWall 67 = .ok (.aload_n 0, 1) := by decide +kernel
theorem dX6_readsWall_68 : decode cX6_readsWall 68 = .ok (.getfield 93, 3) := by decide +kernel
theorem dX6_readsWall_71 : decode cX6_readsWall 71 = .ok (.iastore, 1) := by decide +kernel
theorem dX6_readsWall_72 : decode cX6_readsWall 72 = .ok (.aload_n 0, 1) := by decide +kernel
theorem dX6_readsWall_73 : decode cX6_readsWall 73 = .ok (.iconst 1, 1) := by decide +kernel
theorem dX6_readsWall_74 : decode cX6_readsWall 74 = .ok (.iload_n 1, 1) := by decide +kernel
theorem dX6_readsWall_75 : decode cX6_readsWall 75 = .ok (.ifCond .ne 17, 3) := by decide +kernel
theorem dX6_readsWall_78 : decode cX6_readsWall 78 = .ok (.aload_n 0, 1) := by decide +kernel
theorem dX6_readsWall_79 : decode cX6_readsWall 79 = .ok (.getfield 100, 3) := by decide +kernel
theorem dX6_readsWall_82 : decode cX6_readsWall 82 = .ok (.aload_n 0, 1) := by decide +kernel
theorem dX6_readsWall_83 : decode cX6_readsWall 83 = .ok (.getfield 35, 3) := by decide +kernel
theorem dX6_readsWall_86 : decode cX6_readsWall 86 = .ok (.iload_n 2, 1) := by decide +kernel
theorem dX6_readsWall_87 : decode cX6_readsWall 87 = .ok (.iaload, 1) := by decide +kernel
theorem dX6_readsWall_88 : decode cX6_readsWall 88 = .ok (.isub, 1) := by decide +kernel
theorem dX6_readsWall_89 : decode cX6_readsWall 89 = .ok (.goto 16, 3) := by decide +kernel
theorem dX6_readsWall_92 : decode cX6_readsWall 92 = .ok (.aload_n 0, 1) := by decide +kernel
theorem dX6_readsWall_93 : decode cX6_readsWall 93 = .ok (.getfield 103, 3) := by decide +kernel
theorem dX6_readsWall_96 : decode cX6_readsWall 96 = .ok (.aload_n 0, 1) := by decide +kernel
theorem dX6_readsWall_97 : decode cX6_readsWall 97 = .ok (.getfield 35, 3) := by decide +kernel
theorem dX6_readsWall_100 : decode cX6_readsWall 100 = .ok (.iload_n 2, 1) := by decide +kernel
theorem dX6_readsWall_101 : decode cX6_readsWall 101 = .ok (.iconst 1, 1) := by decide +kernel
theorem dX6_readsWall_102 : decode cX6_readsWall 102 = .ok (.iadd, 1) := by decide +kernel
theorem dX6_readsWall_103 : decode cX6_readsWall 103 = .ok (.iaload, 1) := by decide +kernel
theorem dX6_readsWall_104 : decode cX6_readsWall 104 = .ok (.isub, 1) := by decide +kernel
theorem dX6_readsWall_105 : decode cX6_readsWall 105 = .ok (.invokevirtual 96, 3) := by decide +kernel
theorem dX6_readsWall_108 : decode cX6_readsWall 108 = .ok (.ifCond .ne 5, 3) := by decide +kernel
theorem dX6_readsWall_111 : decode cX6_readsWall 111 = .ok (.iconst 0, 1) := by decide +kernel
theorem dX6_readsWall_112 : decode cX6_readsWall 112 = .ok (.ireturn, 1) := by decide +kernel
theorem dX6_readsWall_113 : decode cX6_readsWall 113 = .ok (.aload_n 0, 1) := by decide +kernel
theorem dX6_readsWall_114 : decode cX6_readsWall 114 = .ok (.getfield 35, 3) := by decide +kernel
theorem dX6_readsWall_117 : decode cX6_readsWall 117 = .ok (.iload_n 2, 1) := by decide +kernel
theorem dX6_readsWall_118 : decode cX6_readsWall 118 = .ok (.iconst 2, 1) := by decide +kernel
theorem dX6_readsWall_119 : decode cX6_readsWall 119 = .ok (.iadd, 1) := by decide +kernel
theorem dX6_readsWall_120 : decode cX6_readsWall 120 = .ok (.aload_n 0, 1) := by decide +kernel
theorem dX6_readsWall_121 : decode cX6_readsWall 121 = .ok (.getfield 93, 3) := by decide +kernel
theorem dX6_readsWall_124 : decode cX6_readsWall 124 = .ok (.iastore, 1) := by decide +kernel
theorem dX6_readsWall_125 : decode cX6_readsWall 125 = .ok (.aload_n 0, 1) := by decide +kernel
theorem dX6_readsWall_126 : decode cX6_readsWall 126 = .ok (.getfield 35, 3) := by decide +kernel
theorem dX6_readsWall_129 : decode cX6_readsWall 129 = .ok (.iload_n 2, 1) := by decide +kernel
theorem dX6_readsWall_130 : decode cX6_readsWall 130 = .ok (.iconst 3, 1) := by decide +kernel
theorem dX6_readsWall_131 : decode cX6_readsWall 131 = .ok (.iadd, 1) := by decide +kernel
theorem dX6_readsWall_132 : decode cX6_readsWall 132 = .ok (.iload_n 1, 1) := by decide +kernel
theorem dX6_readsWall_133 : decode cX6_readsWall 133 = .ok (.iastore, 1) := by decide +kernel
theorem dX6_readsWall_134 : decode cX6_readsWall 134 = .ok (.aload_n 0, 1) := by decide +kernel
theorem dX6_readsWall_135 : decode cX6_readsWall 135 = .ok (.dup, 1) := by decide +kernel
theorem dX6_readsWall_136 : decode cX6_readsWall 136 = .ok (.getfield 106, 3) := by decide +kernel
theorem dX6_readsWall_139 : decode cX6_readsWall 139 = .ok (.iconst 1, 1) := by decide +kernel
theorem dX6_readsWall_140 : decode cX6_readsWall 140 = .ok (.iadd, 1) := by decide +kernel
theorem dX6_readsWall_141 : decode cX6_readsWall 141 = .ok (.putfield 106, 3) := by decide +kernel
theorem dX6_readsWall_144 : decode cX6_readsWall 144 = .ok (.iconst 1, 1) := by decide +kernel
theorem dX6_readsWall_145 : decode cX6_readsWall 145 = .ok (.ireturn, 1) := by decide +kernel
theorem dX6_readsLamp_0 : decode cX6_readsLamp 0 = .ok (.aload_n 0, 1) := by decide +kernel
theorem dX6_readsLamp_1 : decode cX6_readsLamp 1 = .ok (.getfield 109, 3) := by decide +kernel
theorem dX6_readsLamp_4 : decode cX6_readsLamp 4 = .ok (.bipush 8, 2) := by decide +kernel
theorem dX6_readsLamp_6 : decode cX6_readsLamp 6 = .ok (.if_icmp .eq 17, 3) := by decide +kernel
theorem dX6_readsLamp_9 : decode cX6_readsLamp 9 = .ok (.aload_n 0, 1) := by decide +kernel
theorem dX6_readsLamp_10 : decode cX6_readsLamp 10 = .ok (.iconst 0, 1) := by decide +kernel
theorem dX6_readsLamp_11 : decode cX6_readsLamp 11 = .ok (.aload_n 0, 1) := by decide +kernel
theorem dX6_readsLamp_12 : decode cX6_readsLamp 12 = .ok (.getfield 100, 3) := by decide +kernel
theorem dX6_readsLamp_15 : decode cX6_readsLamp 15 = .ok (.iconst 1, 1) := by decide +kernel
theorem dX6_readsLamp_16 : decode cX6_readsLamp 16 = .ok (.isub, 1) := by decide +kernel
theorem dX6_readsLamp_17 : decode cX6_readsLamp 17 = .ok (.invokevirtual 96, 3) := by decide +kernel
theorem dX6_readsLamp_20 : decode cX6_readsLamp 20 = .ok (.ifCond .ne 5, 3) := by decide +kernel
theorem dX6_readsLamp_23 : decode cX6_readsLamp 23 = .ok (.iconst 0, 1) := by decide +kernel
theorem dX6_readsLamp_24 : decode cX6_readsLamp 24 = .ok (.ireturn, 1) := by decide +kernel
theorem dX6_readsLamp_25 : decode cX6_readsLamp 25 = .ok (.iconst 2, 1) := by decide +kernel
theorem dX6_readsLamp_26 : decode cX6_readsLamp 26 = .ok (.aload_n 0, 1) := by decide +kernel
