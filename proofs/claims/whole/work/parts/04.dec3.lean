theorem dX6_readsLamp_27 : decode cX6_readsLamp 27 = .ok (.getfield 109, 3) := by decide +kernel
theorem dX6_readsLamp_30 : decode cX6_readsLamp 30 = .ok (.imul, 1) := by decide +kernel
theorem dX6_readsLamp_31 : decode cX6_readsLamp 31 = .ok (.istore_n 1, 1) := by decide +kernel
theorem dX6_readsLamp_32 : decode cX6_readsLamp 32 = .ok (.aload_n 0, 1) := by decide +kernel
theorem dX6_readsLamp_33 : decode cX6_readsLamp 33 = .ok (.getfield 38, 3) := by decide +kernel
theorem dX6_readsLamp_36 : decode cX6_readsLamp 36 = .ok (.iload_n 1, 1) := by decide +kernel
theorem dX6_readsLamp_37 : decode cX6_readsLamp 37 = .ok (.aload_n 0, 1) := by decide +kernel
theorem dX6_readsLamp_38 : decode cX6_readsLamp 38 = .ok (.getfield 93, 3) := by decide +kernel
theorem dX6_readsLamp_41 : decode cX6_readsLamp 41 = .ok (.iastore, 1) := by decide +kernel
theorem dX6_readsLamp_42 : decode cX6_readsLamp 42 = .ok (.aload_n 0, 1) := by decide +kernel
theorem dX6_readsLamp_43 : decode cX6_readsLamp 43 = .ok (.iconst 0, 1) := by decide +kernel
theorem dX6_readsLamp_44 : decode cX6_readsLamp 44 = .ok (.aload_n 0, 1) := by decide +kernel
theorem dX6_readsLamp_45 : decode cX6_readsLamp 45 = .ok (.getfield 103, 3) := by decide +kernel
theorem dX6_readsLamp_48 : decode cX6_readsLamp 48 = .ok (.iconst 1, 1) := by decide +kernel
theorem dX6_readsLamp_49 : decode cX6_readsLamp 49 = .ok (.isub, 1) := by decide +kernel
theorem dX6_readsLamp_50 : decode cX6_readsLamp 50 = .ok (.invokevirtual 96, 3) := by decide +kernel
theorem dX6_readsLamp_53 : decode cX6_readsLamp 53 = .ok (.ifCond .ne 5, 3) := by decide +kernel
theorem dX6_readsLamp_56 : decode cX6_readsLamp 56 = .ok (.iconst 0, 1) := by decide +kernel
theorem dX6_readsLamp_57 : decode cX6_readsLamp 57 = .ok (.ireturn, 1) := by decide +kernel
theorem dX6_readsLamp_58 : decode cX6_readsLamp 58 = .ok (.aload_n 0, 1) := by decide +kernel
theorem dX6_readsLamp_59 : decode cX6_readsLamp 59 = .ok (.getfield 38, 3) := by decide +kernel
theorem dX6_readsLamp_62 : decode cX6_readsLamp 62 = .ok (.iload_n 1, 1) := by decide +kernel
theorem dX6_readsLamp_63 : decode cX6_readsLamp 63 = .ok (.iconst 1, 1) := by decide +kernel
theorem dX6_readsLamp_64 : decode cX6_readsLamp 64 = .ok (.iadd, 1) := by decide +kernel
theorem dX6_readsLamp_65 : decode cX6_readsLamp 65 = .ok (.aload_n 0, 1) := by decide +kernel
theorem dX6_readsLamp_66 : decode cX6_readsLamp 66 = .ok (.getfield 93, 3) := by decide +kernel
theorem dX6_readsLamp_69 : decode cX6_readsLamp 69 = .ok (.iastore, 1) := by decide +kernel
theorem dX6_readsLamp_70 : decode cX6_readsLamp 70 = .ok (.iconst 0, 1) := by decide +kernel
theorem dX6_readsLamp_71 : decode cX6_readsLamp 71 = .ok (.istore_n 2, 1) := by decide +kernel
theorem dX6_readsLamp_72 : decode cX6_readsLamp 72 = .ok (.iload_n 2, 1) := by decide +kernel
theorem dX6_readsLamp_73 : decode cX6_readsLamp 73 = .ok (.aload_n 0, 1) := by decide +kernel
theorem dX6_readsLamp_74 : decode cX6_readsLamp 74 = .ok (.getfield 109, 3) := by decide +kernel
theorem dX6_readsLamp_77 : decode cX6_readsLamp 77 = .ok (.if_icmp .ge 49, 3) := by decide +kernel
theorem dX6_readsLamp_80 : decode cX6_readsLamp 80 = .ok (.aload_n 0, 1) := by decide +kernel
theorem dX6_readsLamp_81 : decode cX6_readsLamp 81 = .ok (.getfield 38, 3) := by decide +kernel
theorem dX6_readsLamp_84 : decode cX6_readsLamp 84 = .ok (.iconst 2, 1) := by decide +kernel
theorem dX6_readsLamp_85 : decode cX6_readsLamp 85 = .ok (.iload_n 2, 1) := by decide +kernel
theorem dX6_readsLamp_86 : decode cX6_readsLamp 86 = .ok (.imul, 1) := by decide +kernel
theorem dX6_readsLamp_87 : decode cX6_readsLamp 87 = .ok (.iaload, 1) := by decide +kernel
theorem dX6_readsLamp_88 : decode cX6_readsLamp 88 = .ok (.aload_n 0, 1) := by decide +kernel
theorem dX6_readsLamp_89 : decode cX6_readsLamp 89 = .ok (.getfield 38, 3) := by decide +kernel
theorem dX6_readsLamp_92 : decode cX6_readsLamp 92 = .ok (.iload_n 1, 1) := by decide +kernel
theorem dX6_readsLamp_93 : decode cX6_readsLamp 93 = .ok (.iaload, 1) := by decide +kernel
theorem dX6_readsLamp_94 : decode cX6_readsLamp 94 = .ok (.if_icmp .ne 26, 3) := by decide +kernel
theorem dX6_readsLamp_97 : decode cX6_readsLamp 97 = .ok (.aload_n 0, 1) := by decide +kernel
theorem dX6_readsLamp_98 : decode cX6_readsLamp 98 = .ok (.getfield 38, 3) := by decide +kernel
theorem dX6_readsLamp_101 : decode cX6_readsLamp 101 = .ok (.iconst 2, 1) := by decide +kernel
theorem dX6_readsLamp_102 : decode cX6_readsLamp 102 = .ok (.iload_n 2, 1) := by decide +kernel
theorem dX6_readsLamp_103 : decode cX6_readsLamp 103 = .ok (.imul, 1) := by decide +kernel
theorem dX6_readsLamp_104 : decode cX6_readsLamp 104 = .ok (.iconst 1, 1) := by decide +kernel
theorem dX6_readsLamp_105 : decode cX6_readsLamp 105 = .ok (.iadd, 1) := by decide +kernel
theorem dX6_readsLamp_106 : decode cX6_readsLamp 106 = .ok (.iaload, 1) := by decide +kernel
theorem dX6_readsLamp_107 : decode cX6_readsLamp 107 = .ok (.aload_n 0, 1) := by decide +kernel
theorem dX6_readsLamp_108 : decode cX6_readsLamp 108 = .ok (.getfield 38, 3) := by decide +kernel
theorem dX6_readsLamp_111 : decode cX6_readsLamp 111 = .ok (.iload_n 1, 1) := by decide +kernel
theorem dX6_readsLamp_112 : decode cX6_readsLamp 112 = .ok (.iconst 1, 1) := by decide +kernel
theorem dX6_readsLamp_113 : decode cX6_readsLamp 113 = .ok (.iadd, 1) := by decide +kernel
theorem dX6_readsLamp_114 : decode cX6_readsLamp 114 = .ok (.iaload, 1) := by decide +kernel
theorem dX6_readsLamp_115 : decode cX6_readsLamp 115 = .ok (.if_icmp .ne 5, 3) := by decide +kernel
theorem dX6_readsLamp_118 : decode cX6_readsLamp 118 = .ok (.iconst 0, 1) := by decide +kernel
theorem dX6_readsLamp_119 : decode cX6_readsLamp 119 = .ok (.ireturn, 1) := by decide +kernel
theorem dX6_readsLamp_120 : decode cX6_readsLamp 120 = .ok (.iinc 2 1, 3) := by decide +kernel
theorem dX6_readsLamp_123 : decode cX6_readsLamp 123 = .ok (.goto (-51), 3) := by decide +kernel
theorem dX6_readsLamp_126 : decode cX6_readsLamp 126 = .ok (.aload_n 0, 1) := by decide +kernel
theorem dX6_readsLamp_127 : decode cX6_readsLamp 127 = .ok (.dup, 1) := by decide +kernel
theorem dX6_readsLamp_128 : decode cX6_readsLamp 128 = .ok (.getfield 109, 3) := by decide +kernel
theorem dX6_readsLamp_131 : decode cX6_readsLamp 131 = .ok (.iconst 1, 1) := by decide +kernel
theorem dX6_readsLamp_132 : decode cX6_readsLamp 132 = .ok (.iadd, 1) := by decide +kernel
theorem dX6_readsLamp_133 : decode cX6_readsLamp 133 = .ok (.putfield 109, 3) := by decide +kernel
theorem dX6_readsLamp_136 : decode cX6_readsLamp 136 = .ok (.iconst 1, 1) := by decide +kernel
theorem dX6_readsLamp_137 : decode cX6_readsLamp 137 = .ok (.ireturn, 1) := by decide +kernel
theorem dX6_item_0 : decode cX6_item 0 = .ok (.aload_n 0, 1) := by decide +kernel
theorem dX6_item_1 : decode cX6_item 1 = .ok (.getfield 83, 3) := by decide +kernel
theorem dX6_item_4 : decode cX6_item 4 = .ok (.lookupswitch 67 #[(98, 44), (108, 62), (114, 50), (117, 56)], 44) := by decide +kernel
theorem dX6_item_48 : decode cX6_item 48 = .ok (.aload_n 0, 1) := by decide +kernel
theorem dX6_item_49 : decode cX6_item 49 = .ok (.iload_n 1, 1) := by decide +kernel
theorem dX6_item_50 : decode cX6_item 50 = .ok (.invokevirtual 112, 3) := by decide +kernel
theorem dX6_item_53 : decode cX6_item 53 = .ok (.ireturn, 1) := by decide +kernel
theorem dX6_item_54 : decode cX6_item 54 = .ok (.aload_n 0, 1) := by decide +kernel
theorem dX6_item_55 : decode cX6_item 55 = .ok (.iconst 0, 1) := by decide +kernel
theorem dX6_item_56 : decode cX6_item 56 = .ok (.invokevirtual 115, 3) := by decide +kernel
theorem dX6_item_59 : decode cX6_item 59 = .ok (.ireturn, 1) := by decide +kernel
theorem dX6_item_60 : decode cX6_item 60 = .ok (.aload_n 0, 1) := by decide +kernel
theorem dX6_item_61 : decode cX6_item 61 = .ok (.iconst 1, 1) := by decide +kernel
theorem dX6_item_62 : decode cX6_item 62 = .ok (.invokevirtual 115, 3) := by decide +kernel
theorem dX6_item_65 : decode cX6_item 65 = .ok (.ireturn, 1) := by decide +kernel
theorem dX6_item_66 : decode cX6_item 66 = .ok (.aload_n 0, 1) := by decide +kernel
theorem dX6_item_67 : decode cX6_item 67 = .ok (.invokevirtual 118, 3) := by decide +kernel
theorem dX6_item_70 : decode cX6_item 70 = .ok (.ireturn, 1) := by decide +kernel
theorem dX6_item_71 : decode cX6_item 71 = .ok (.iconst 0, 1) := by decide +kernel
theorem dX6_item_72 : decode cX6_item 72 = .ok (.ireturn, 1) := by decide +kernel
theorem dX6_begins_0 : decode cX6_begins 0 = .ok (.aload_n 0, 1) := by decide +kernel
theorem dX6_begins_1 : decode cX6_begins 1 = .ok (.bipush 6, 2) := by decide +kernel
theorem dX6_begins_3 : decode cX6_begins 3 = .ok (.putfield 100, 3) := by decide +kernel
theorem dX6_begins_6 : decode cX6_begins 6 = .ok (.aload_n 0, 1) := by decide +kernel
theorem dX6_begins_7 : decode cX6_begins 7 = .ok (.bipush 6, 2) := by decide +kernel
theorem dX6_begins_9 : decode cX6_begins 9 = .ok (.putfield 103, 3) := by decide +kernel
theorem dX6_begins_12 : decode cX6_begins 12 = .ok (.aload_n 0, 1) := by decide +kernel
theorem dX6_begins_13 : decode cX6_begins 13 = .ok (.iconst 0, 1) := by decide +kernel
theorem dX6_begins_14 : decode cX6_begins 14 = .ok (.putfield 106, 3) := by decide +kernel
theorem dX6_begins_17 : decode cX6_begins 17 = .ok (.aload_n 0, 1) := by decide +kernel
theorem dX6_begins_18 : decode cX6_begins 18 = .ok (.iconst 0, 1) := by decide +kernel
theorem dX6_begins_19 : decode cX6_begins 19 = .ok (.putfield 109, 3) := by decide +kernel
theorem dX6_begins_22 : decode cX6_begins 22 = .ok (.return_, 1) := by decide +kernel
theorem dX6_setsWall_0 : decode cX6_setsWall 0 = .ok (.aload_n 0, 1) := by decide +kernel
theorem dX6_setsWall_1 : decode cX6_setsWall 1 = .ok (.getfield 7, 3) := by decide +kernel
theorem dX6_setsWall_4 : decode cX6_setsWall 4 = .ok (.bipush 26, 2) := by decide +kernel
theorem dX6_setsWall_6 : decode cX6_setsWall 6 = .ok (.iconst 4, 1) := by decide +kernel
theorem dX6_setsWall_7 : decode cX6_setsWall 7 = .ok (.iload_n 1, 1) := by decide +kernel
theorem dX6_setsWall_8 : decode cX6_setsWall 8 = .ok (.imul, 1) := by decide +kernel
theorem dX6_setsWall_9 : decode cX6_setsWall 9 = .ok (.iadd, 1) := by decide +kernel
theorem dX6_setsWall_10 : decode cX6_setsWall 10 = .ok (.iload_n 2, 1) := by decide +kernel
theorem dX6_setsWall_11 : decode cX6_setsWall 11 = .ok (.iastore, 1) := by decide +kernel
theorem dX6_setsWall_12 : decode cX6_setsWall 12 = .ok (.aload_n 0, 1) := by decide +kernel
theorem dX6_setsWall_13 : decode cX6_setsWall 13 = .ok (.getfield 7, 3) := by decide +kernel
theorem dX6_setsWall_16 : decode cX6_setsWall 16 = .ok (.bipush 26, 2) := by decide +kernel
theorem dX6_setsWall_18 : decode cX6_setsWall 18 = .ok (.iconst 4, 1) := by decide +kernel
theorem dX6_setsWall_19 : decode cX6_setsWall 19 = .ok (.iload_n 1, 1) := by decide +kernel
theorem dX6_setsWall_20 : decode cX6_setsWall 20 = .ok (.imul, 1) := by decide +kernel
theorem dX6_setsWall_21 : decode cX6_setsWall 21 = .ok (.iadd, 1) := by decide +kernel
theorem dX6_setsWall_22 : decode cX6_setsWall 22 = .ok (.iconst 1, 1) := by decide +kernel
theorem dX6_setsWall_23 : decode cX6_setsWall 23 = .ok (.iadd, 1) := by decide +kernel
theorem dX6_setsWall_24 : decode cX6_setsWall 24 = .ok (.iload_n 3, 1) := by decide +kernel
theorem dX6_setsWall_25 : decode cX6_setsWall 25 = .ok (.iastore, 1) := by decide +kernel
theorem dX6_setsWall_26 : decode cX6_setsWall 26 = .ok (.aload_n 0, 1) := by decide +kernel
theorem dX6_setsWall_27 : decode cX6_setsWall 27 = .ok (.getfield 7, 3) := by decide +kernel
theorem dX6_setsWall_30 : decode cX6_setsWall 30 = .ok (.bipush 26, 2) := by decide +kernel
theorem dX6_setsWall_32 : decode cX6_setsWall 32 = .ok (.iconst 4, 1) := by decide +kernel
theorem dX6_setsWall_33 : decode cX6_setsWall 33 = .ok (.iload_n 1, 1) := by decide +kernel
theorem dX6_setsWall_34 : decode cX6_setsWall 34 = .ok (.imul, 1) := by decide +kernel
theorem dX6_setsWall_35 : decode cX6_setsWall 35 = .ok (.iadd, 1) := by decide +kernel
theorem dX6_setsWall_36 : decode cX6_setsWall 36 = .ok (.iconst 2, 1) := by decide +kernel
theorem dX6_setsWall_37 : decode cX6_setsWall 37 = .ok (.iadd, 1) := by decide +kernel
theorem dX6_setsWall_38 : decode cX6_setsWall 38 = .ok (.iload 4, 2) := by decide +kernel
theorem dX6_setsWall_40 : decode cX6_setsWall 40 = .ok (.iastore, 1) := by decide +kernel
theorem dX6_setsWall_41 : decode cX6_setsWall 41 = .ok (.aload_n 0, 1) := by decide +kernel
theorem dX6_setsWall_42 : decode cX6_setsWall 42 = .ok (.getfield 7, 3) := by decide +kernel
theorem dX6_setsWall_45 : decode cX6_setsWall 45 = .ok (.bipush 26, 2) := by decide +kernel
theorem dX6_setsWall_47 : decode cX6_setsWall 47 = .ok (.iconst 4, 1) := by decide +kernel
theorem dX6_setsWall_48 : decode cX6_setsWall 48 = .ok (.iload_n 1, 1) := by decide +kernel
theorem dX6_setsWall_49 : decode cX6_setsWall 49 = .ok (.imul, 1) := by decide +kernel
theorem dX6_setsWall_50 : decode cX6_setsWall 50 = .ok (.iadd, 1) := by decide +kernel
theorem dX6_setsWall_51 : decode cX6_setsWall 51 = .ok (.iconst 3, 1) := by decide +kernel
theorem dX6_setsWall_52 : decode cX6_setsWall 52 = .ok (.iadd, 1) := by decide +kernel
theorem dX6_setsWall_53 : decode cX6_setsWall 53 = .ok (.iload 5, 2) := by decide +kernel
theorem dX6_setsWall_55 : decode cX6_setsWall 55 = .ok (.iastore, 1) := by decide +kernel
theorem dX6_setsWall_56 : decode cX6_setsWall 56 = .ok (.return_, 1) := by decide +kernel
theorem dX6_becomes_0 : decode cX6_becomes 0 = .ok (.aload_n 0, 1) := by decide +kernel
theorem dX6_becomes_1 : decode cX6_becomes 1 = .ok (.aload_n 0, 1) := by decide +kernel
theorem dX6_becomes_2 : decode cX6_becomes 2 = .ok (.getfield 100, 3) := by decide +kernel
theorem dX6_becomes_5 : decode cX6_becomes 5 = .ok (.putfield 60, 3) := by decide +kernel
theorem dX6_becomes_8 : decode cX6_becomes 8 = .ok (.aload_n 0, 1) := by decide +kernel
theorem dX6_becomes_9 : decode cX6_becomes 9 = .ok (.aload_n 0, 1) := by decide +kernel
theorem dX6_becomes_10 : decode cX6_becomes 10 = .ok (.getfield 103, 3) := by decide +kernel
theorem dX6_becomes_13 : decode cX6_becomes 13 = .ok (.putfield 67, 3) := by decide +kernel
theorem dX6_becomes_16 : decode cX6_becomes 16 = .ok (.aload_n 0, 1) := by decide +kernel
theorem dX6_becomes_17 : decode cX6_becomes 17 = .ok (.iconst 0, 1) := by decide +kernel
theorem dX6_becomes_18 : decode cX6_becomes 18 = .ok (.iconst 0, 1) := by decide +kernel
theorem dX6_becomes_19 : decode cX6_becomes 19 = .ok (.iconst 0, 1) := by decide +kernel
theorem dX6_becomes_20 : decode cX6_becomes 20 = .ok (.aload_n 0, 1) := by decide +kernel
theorem dX6_becomes_21 : decode cX6_becomes 21 = .ok (.getfield 60, 3) := by decide +kernel
theorem dX6_becomes_24 : decode cX6_becomes 24 = .ok (.iconst 0, 1) := by decide +kernel
theorem dX6_becomes_25 : decode cX6_becomes 25 = .ok (.invokevirtual 122, 3) := by decide +kernel
theorem dX6_becomes_28 : decode cX6_becomes 28 = .ok (.aload_n 0, 1) := by decide +kernel
theorem dX6_becomes_29 : decode cX6_becomes 29 = .ok (.iconst 1, 1) := by decide +kernel
theorem dX6_becomes_30 : decode cX6_becomes 30 = .ok (.aload_n 0, 1) := by decide +kernel
theorem dX6_becomes_31 : decode cX6_becomes 31 = .ok (.getfield 60, 3) := by decide +kernel
theorem dX6_becomes_34 : decode cX6_becomes 34 = .ok (.iconst 0, 1) := by decide +kernel
theorem dX6_becomes_35 : decode cX6_becomes 35 = .ok (.aload_n 0, 1) := by decide +kernel
theorem dX6_becomes_36 : decode cX6_becomes 36 = .ok (.getfield 67, 3) := by decide +kernel
theorem dX6_becomes_39 : decode cX6_becomes 39 = .ok (.iconst 1, 1) := by decide +kernel
theorem dX6_becomes_40 : decode cX6_becomes 40 = .ok (.invokevirtual 122, 3) := by decide +kernel
theorem dX6_becomes_43 : decode cX6_becomes 43 = .ok (.aload_n 0, 1) := by decide +kernel
theorem dX6_becomes_44 : decode cX6_becomes 44 = .ok (.iconst 2, 1) := by decide +kernel
theorem dX6_becomes_45 : decode cX6_becomes 45 = .ok (.iconst 0, 1) := by decide +kernel
theorem dX6_becomes_46 : decode cX6_becomes 46 = .ok (.aload_n 0, 1) := by decide +kernel
theorem dX6_becomes_47 : decode cX6_becomes 47 = .ok (.getfield 67, 3) := by decide +kernel
theorem dX6_becomes_50 : decode cX6_becomes 50 = .ok (.aload_n 0, 1) := by decide +kernel
theorem dX6_becomes_51 : decode cX6_becomes 51 = .ok (.getfield 60, 3) := by decide +kernel
theorem dX6_becomes_54 : decode cX6_becomes 54 = .ok (.iconst 0, 1) := by decide +kernel
theorem dX6_becomes_55 : decode cX6_becomes 55 = .ok (.invokevirtual 122, 3) := by decide +kernel
theorem dX6_becomes_58 : decode cX6_becomes 58 = .ok (.aload_n 0, 1) := by decide +kernel
theorem dX6_becomes_59 : decode cX6_becomes 59 = .ok (.iconst 3, 1) := by decide +kernel
theorem dX6_becomes_60 : decode cX6_becomes 60 = .ok (.iconst 0, 1) := by decide +kernel
theorem dX6_becomes_61 : decode cX6_becomes 61 = .ok (.iconst 0, 1) := by decide +kernel
theorem dX6_becomes_62 : decode cX6_becomes 62 = .ok (.aload_n 0, 1) := by decide +kernel
theorem dX6_becomes_63 : decode cX6_becomes 63 = .ok (.getfield 67, 3) := by decide +kernel
theorem dX6_becomes_66 : decode cX6_becomes 66 = .ok (.iconst 1, 1) := by decide +kernel
theorem dX6_becomes_67 : decode cX6_becomes 67 = .ok (.invokevirtual 122, 3) := by decide +kernel
theorem dX6_becomes_70 : decode cX6_becomes 70 = .ok (.iconst 0, 1) := by decide +kernel
theorem dX6_becomes_71 : decode cX6_becomes 71 = .ok (.istore_n 1, 1) := by decide +kernel
theorem dX6_becomes_72 : decode cX6_becomes 72 = .ok (.iload_n 1, 1) := by decide +kernel
theorem dX6_becomes_73 : decode cX6_becomes 73 = .ok (.aload_n 0, 1) := by decide +kernel
theorem dX6_becomes_74 : decode cX6_becomes 74 = .ok (.getfield 106, 3) := by decide +kernel
theorem dX6_becomes_77 : decode cX6_becomes 77 = .ok (.if_icmp .ge 54, 3) := by decide +kernel
theorem dX6_becomes_80 : decode cX6_becomes 80 = .ok (.aload_n 0, 1) := by decide +kernel
theorem dX6_becomes_81 : decode cX6_becomes 81 = .ok (.iload_n 1, 1) := by decide +kernel
theorem dX6_becomes_82 : decode cX6_becomes 82 = .ok (.iconst 4, 1) := by decide +kernel
theorem dX6_becomes_83 : decode cX6_becomes 83 = .ok (.iadd, 1) := by decide +kernel
theorem dX6_becomes_84 : decode cX6_becomes 84 = .ok (.aload_n 0, 1) := by decide +kernel
theorem dX6_becomes_85 : decode cX6_becomes 85 = .ok (.getfield 35, 3) := by decide +kernel
theorem dX6_becomes_88 : decode cX6_becomes 88 = .ok (.iconst 4, 1) := by decide +kernel
theorem dX6_becomes_89 : decode cX6_becomes 89 = .ok (.iload_n 1, 1) := by decide +kernel
theorem dX6_becomes_90 : decode cX6_becomes 90 = .ok (.imul, 1) := by decide +kernel
theorem dX6_becomes_91 : decode cX6_becomes 91 = .ok (.iaload, 1) := by decide +kernel
theorem dX6_becomes_92 : decode cX6_becomes 92 = .ok (.aload_n 0, 1) := by decide +kernel
theorem dX6_becomes_93 : decode cX6_becomes 93 = .ok (.getfield 35, 3) := by decide +kernel
theorem dX6_becomes_96 : decode cX6_becomes 96 = .ok (.iconst 4, 1) := by decide +kernel
theorem dX6_becomes_97 : decode cX6_becomes 97 = .ok (.iload_n 1, 1) := by decide +kernel
theorem dX6_becomes_98 : decode cX6_becomes 98 = .ok (.imul, 1) := by decide +kernel
theorem dX6_becomes_99 : decode cX6_becomes 99 = .ok (.iconst 1, 1) := by decide +kernel
theorem dX6_becomes_100 : decode cX6_becomes 100 = .ok (.iadd, 1) := by decide +kernel
theorem dX6_becomes_101 : decode cX6_becomes 101 = .ok (.iaload, 1) := by decide +kernel
theorem dX6_becomes_102 : decode cX6_becomes 102 = .ok (.aload_n 0, 1) := by decide +kernel
theorem dX6_becomes_103 : decode cX6_becomes 103 = .ok (.getfield 35, 3) := by decide +kernel
theorem dX6_becomes_106 : decode cX6_becomes 106 = .ok (.iconst 4, 1) := by decide +kernel
theorem dX6_becomes_107 : decode cX6_becomes 107 = .ok (.iload_n 1, 1) := by decide +kernel
theorem dX6_becomes_108 : decode cX6_becomes 108 = .ok (.imul, 1) := by decide +kernel
theorem dX6_becomes_109 : decode cX6_becomes 109 = .ok (.iconst 2, 1) := by decide +kernel
theorem dX6_becomes_110 : decode cX6_becomes 110 = .ok (.iadd, 1) := by decide +kernel
theorem dX6_becomes_111 : decode cX6_becomes 111 = .ok (.iaload, 1) := by decide +kernel
theorem dX6_becomes_112 : decode cX6_becomes 112 = .ok (.aload_n 0, 1) := by decide +kernel
theorem dX6_becomes_113 : decode cX6_becomes 113 = .ok (.getfield 35, 3) := by decide +kernel
theorem dX6_becomes_116 : decode cX6_becomes 116 = .ok (.iconst 4, 1) := by decide +kernel
theorem dX6_becomes_117 : decode cX6_becomes 117 = .ok (.iload_n 1, 1) := by decide +kernel
theorem dX6_becomes_118 : decode cX6_becomes 118 = .ok (.imul, 1) := by decide +kernel
theorem dX6_becomes_119 : decode cX6_becomes 119 = .ok (.iconst 3, 1) := by decide +kernel
theorem dX6_becomes_120 : decode cX6_becomes 120 = .ok (.iadd, 1) := by decide +kernel
theorem dX6_becomes_121 : decode cX6_becomes 121 = .ok (.iaload, 1) := by decide +kernel
theorem dX6_becomes_122 : decode cX6_becomes 122 = .ok (.invokevirtual 122, 3) := by decide +kernel
theorem dX6_becomes_125 : decode cX6_becomes 125 = .ok (.iinc 1 1, 3) := by decide +kernel
theorem dX6_becomes_128 : decode cX6_becomes 128 = .ok (.goto (-56), 3) := by decide +kernel
theorem dX6_becomes_131 : decode cX6_becomes 131 = .ok (.iconst 0, 1) := by decide +kernel
theorem dX6_becomes_132 : decode cX6_becomes 132 = .ok (.istore_n 1, 1) := by decide +kernel
theorem dX6_becomes_133 : decode cX6_becomes 133 = .ok (.iload_n 1, 1) := by decide +kernel
theorem dX6_becomes_134 : decode cX6_becomes 134 = .ok (.aload_n 0, 1) := by decide +kernel
theorem dX6_becomes_135 : decode cX6_becomes 135 = .ok (.getfield 109, 3) := by decide +kernel
theorem dX6_becomes_138 : decode cX6_becomes 138 = .ok (.if_icmp .ge 62, 3) := by decide +kernel
theorem dX6_becomes_141 : decode cX6_becomes 141 = .ok (.aload_n 0, 1) := by decide +kernel
theorem dX6_becomes_142 : decode cX6_becomes 142 = .ok (.getfield 7, 3) := by decide +kernel
theorem dX6_becomes_145 : decode cX6_becomes 145 = .ok (.iconst 2, 1) := by decide +kernel
theorem dX6_becomes_146 : decode cX6_becomes 146 = .ok (.iconst 3, 1) := by decide +kernel
theorem dX6_becomes_147 : decode cX6_becomes 147 = .ok (.iload_n 1, 1) := by decide +kernel
theorem dX6_becomes_148 : decode cX6_becomes 148 = .ok (.imul, 1) := by decide +kernel
theorem dX6_becomes_149 : decode cX6_becomes 149 = .ok (.iadd, 1) := by decide +kernel
theorem dX6_becomes_150 : decode cX6_becomes 150 = .ok (.aload_n 0, 1) := by decide +kernel
theorem dX6_becomes_151 : decode cX6_becomes 151 = .ok (.getfield 38, 3) := by decide +kernel
theorem dX6_becomes_154 : decode cX6_becomes 154 = .ok (.iconst 2, 1) := by decide +kernel
theorem dX6_becomes_155 : decode cX6_becomes 155 = .ok (.iload_n 1, 1) := by decide +kernel
theorem dX6_becomes_156 : decode cX6_becomes 156 = .ok (.imul, 1) := by decide +kernel
theorem dX6_becomes_157 : decode cX6_becomes 157 = .ok (.iaload, 1) := by decide +kernel
theorem dX6_becomes_158 : decode cX6_becomes 158 = .ok (.iastore, 1) := by decide +kernel
theorem dX6_becomes_159 : decode cX6_becomes 159 = .ok (.aload_n 0, 1) := by decide +kernel
theorem dX6_becomes_160 : decode cX6_becomes 160 = .ok (.getfield 7, 3) := by decide +kernel
theorem dX6_becomes_163 : decode cX6_becomes 163 = .ok (.iconst 2, 1) := by decide +kernel
theorem dX6_becomes_164 : decode cX6_becomes 164 = .ok (.iconst 3, 1) := by decide +kernel
theorem dX6_becomes_165 : decode cX6_becomes 165 = .ok (.iload_n 1, 1) := by decide +kernel
theorem dX6_becomes_166 : decode cX6_becomes 166 = .ok (.imul, 1) := by decide +kernel
theorem dX6_becomes_167 : decode cX6_becomes 167 = .ok (.iadd, 1) := by decide +kernel
theorem dX6_becomes_168 : decode cX6_becomes 168 = .ok (.iconst 1, 1) := by decide +kernel
theorem dX6_becomes_169 : decode cX6_becomes 169 = .ok (.iadd, 1) := by decide +kernel
theorem dX6_becomes_170 : decode cX6_becomes 170 = .ok (.aload_n 0, 1) := by decide +kernel
theorem dX6_becomes_171 : decode cX6_becomes 171 = .ok (.getfield 38, 3) := by decide +kernel
theorem dX6_becomes_174 : decode cX6_becomes 174 = .ok (.iconst 2, 1) := by decide +kernel
theorem dX6_becomes_175 : decode cX6_becomes 175 = .ok (.iload_n 1, 1) := by decide +kernel
theorem dX6_becomes_176 : decode cX6_becomes 176 = .ok (.imul, 1) := by decide +kernel
theorem dX6_becomes_177 : decode cX6_becomes 177 = .ok (.iconst 1, 1) := by decide +kernel
theorem dX6_becomes_178 : decode cX6_becomes 178 = .ok (.iadd, 1) := by decide +kernel
theorem dX6_becomes_179 : decode cX6_becomes 179 = .ok (.iaload, 1) := by decide +kernel
theorem dX6_becomes_180 : decode cX6_becomes 180 = .ok (.iastore, 1) := by decide +kernel
theorem dX6_becomes_181 : decode cX6_becomes 181 = .ok (.aload_n 0, 1) := by decide +kernel
theorem dX6_becomes_182 : decode cX6_becomes 182 = .ok (.getfield 7, 3) := by decide +kernel
theorem dX6_becomes_185 : decode cX6_becomes 185 = .ok (.iconst 2, 1) := by decide +kernel
theorem dX6_becomes_186 : decode cX6_becomes 186 = .ok (.iconst 3, 1) := by decide +kernel
theorem dX6_becomes_187 : decode cX6_becomes 187 = .ok (.iload_n 1, 1) := by decide +kernel
theorem dX6_becomes_188 : decode cX6_becomes 188 = .ok (.imul, 1) := by decide +kernel
theorem dX6_becomes_189 : decode cX6_becomes 189 = .ok (.iadd, 1) := by decide +kernel
theorem dX6_becomes_190 : decode cX6_becomes 190 = .ok (.iconst 2, 1) := by decide +kernel
theorem dX6_becomes_191 : decode cX6_becomes 191 = .ok (.iadd, 1) := by decide +kernel
theorem dX6_becomes_192 : decode cX6_becomes 192 = .ok (.iconst 1, 1) := by decide +kernel
theorem dX6_becomes_193 : decode cX6_becomes 193 = .ok (.iastore, 1) := by decide +kernel
theorem dX6_becomes_194 : decode cX6_becomes 194 = .ok (.iinc 1 1, 3) := by decide +kernel
theorem dX6_becomes_197 : decode cX6_becomes 197 = .ok (.goto (-64), 3) := by decide +kernel
theorem dX6_becomes_200 : decode cX6_becomes 200 = .ok (.aload_n 0, 1) := by decide +kernel
theorem dX6_becomes_201 : decode cX6_becomes 201 = .ok (.getfield 7, 3) := by decide +kernel
theorem dX6_becomes_204 : decode cX6_becomes 204 = .ok (.iconst 0, 1) := by decide +kernel
theorem dX6_becomes_205 : decode cX6_becomes 205 = .ok (.aload_n 0, 1) := by decide +kernel
theorem dX6_becomes_206 : decode cX6_becomes 206 = .ok (.getfield 109, 3) := by decide +kernel
theorem dX6_becomes_209 : decode cX6_becomes 209 = .ok (.iastore, 1) := by decide +kernel
theorem dX6_becomes_210 : decode cX6_becomes 210 = .ok (.aload_n 0, 1) := by decide +kernel
theorem dX6_becomes_211 : decode cX6_becomes 211 = .ok (.getfield 7, 3) := by decide +kernel
theorem dX6_becomes_214 : decode cX6_becomes 214 = .ok (.iconst 1, 1) := by decide +kernel
theorem dX6_becomes_215 : decode cX6_becomes 215 = .ok (.aload_n 0, 1) := by decide +kernel
theorem dX6_becomes_216 : decode cX6_becomes 216 = .ok (.getfield 106, 3) := by decide +kernel
theorem dX6_becomes_219 : decode cX6_becomes 219 = .ok (.iconst 4, 1) := by decide +kernel
theorem dX6_becomes_220 : decode cX6_becomes 220 = .ok (.iadd, 1) := by decide +kernel
theorem dX6_becomes_221 : decode cX6_becomes 221 = .ok (.iastore, 1) := by decide +kernel
theorem dX6_becomes_222 : decode cX6_becomes 222 = .ok (.aload_n 0, 1) := by decide +kernel
theorem dX6_becomes_223 : decode cX6_becomes 223 = .ok (.iconst 0, 1) := by decide +kernel
theorem dX6_becomes_224 : decode cX6_becomes 224 = .ok (.putfield 126, 3) := by decide +kernel
theorem dX6_becomes_227 : decode cX6_becomes 227 = .ok (.aload_n 0, 1) := by decide +kernel
theorem dX6_becomes_228 : decode cX6_becomes 228 = .ok (.iconst 0, 1) := by decide +kernel
theorem dX6_becomes_229 : decode cX6_becomes 229 = .ok (.putfield 129, 3) := by decide +kernel
theorem dX6_becomes_232 : decode cX6_becomes 232 = .ok (.aload_n 0, 1) := by decide +kernel
theorem dX6_becomes_233 : decode cX6_becomes 233 = .ok (.getfield 19, 3) := by decide +kernel
theorem dX6_becomes_236 : decode cX6_becomes 236 = .ok (.iconst 0, 1) := by decide +kernel
theorem dX6_becomes_237 : decode cX6_becomes 237 = .ok (.iconst 0, 1) := by decide +kernel
theorem dX6_becomes_238 : decode cX6_becomes 238 = .ok (.bastore, 1) := by decide +kernel
theorem dX6_becomes_239 : decode cX6_becomes 239 = .ok (.aload_n 0, 1) := by decide +kernel
theorem dX6_becomes_240 : decode cX6_becomes 240 = .ok (.getfield 19, 3) := by decide +kernel
theorem dX6_becomes_243 : decode cX6_becomes 243 = .ok (.iconst 1, 1) := by decide +kernel
theorem dX6_becomes_244 : decode cX6_becomes 244 = .ok (.iconst 0, 1) := by decide +kernel
theorem dX6_becomes_245 : decode cX6_becomes 245 = .ok (.bastore, 1) := by decide +kernel
theorem dX6_becomes_246 : decode cX6_becomes 246 = .ok (.return_, 1) := by decide +kernel
theorem dX6_plan_0 : decode cX6_plan 0 = .ok (.aload_n 0, 1) := by decide +kernel
theorem dX6_plan_1 : decode cX6_plan 1 = .ok (.iconst 0, 1) := by decide +kernel
theorem dX6_plan_2 : decode cX6_plan 2 = .ok (.putfield 56, 3) := by decide +kernel
theorem dX6_plan_5 : decode cX6_plan 5 = .ok (.aload_n 0, 1) := by decide +kernel
theorem dX6_plan_6 : decode cX6_plan 6 = .ok (.invokevirtual 50, 3) := by decide +kernel
theorem dX6_plan_9 : decode cX6_plan 9 = .ok (.aload_n 0, 1) := by decide +kernel
theorem dX6_plan_10 : decode cX6_plan 10 = .ok (.iconst 0, 1) := by decide +kernel
theorem dX6_plan_11 : decode cX6_plan 11 = .ok (.putfield 77, 3) := by decide +kernel
theorem dX6_plan_14 : decode cX6_plan 14 = .ok (.iconst 0, 1) := by decide +kernel
theorem dX6_plan_15 : decode cX6_plan 15 = .ok (.istore_n 1, 1) := by decide +kernel
theorem dX6_plan_16 : decode cX6_plan 16 = .ok (.aload_n 0, 1) := by decide +kernel
theorem dX6_plan_17 : decode cX6_plan 17 = .ok (.invokevirtual 90, 3) := by decide +kernel
theorem dX6_plan_20 : decode cX6_plan 20 = .ok (.aload_n 0, 1) := by decide +kernel
theorem dX6_plan_21 : decode cX6_plan 21 = .ok (.getfield 83, 3) := by decide +kernel
theorem dX6_plan_24 : decode cX6_plan 24 = .ok (.iconst (-1), 1) := by decide +kernel
theorem dX6_plan_25 : decode cX6_plan 25 = .ok (.if_icmp .eq 48, 3) := by decide +kernel
theorem dX6_plan_28 : decode cX6_plan 28 = .ok (.aload_n 0, 1) := by decide +kernel
theorem dX6_plan_29 : decode cX6_plan 29 = .ok (.iload_n 1, 1) := by decide +kernel
theorem dX6_plan_30 : decode cX6_plan 30 = .ok (.invokevirtual 132, 3) := by decide +kernel
theorem dX6_plan_33 : decode cX6_plan 33 = .ok (.istore_n 2, 1) := by decide +kernel
theorem dX6_plan_34 : decode cX6_plan 34 = .ok (.iload_n 2, 1) := by decide +kernel
theorem dX6_plan_35 : decode cX6_plan 35 = .ok (.ifCond .eq 7, 3) := by decide +kernel
theorem dX6_plan_38 : decode cX6_plan 38 = .ok (.aload_n 0, 1) := by decide +kernel
theorem dX6_plan_39 : decode cX6_plan 39 = .ok (.invokevirtual 90, 3) := by decide +kernel
theorem dX6_plan_42 : decode cX6_plan 42 = .ok (.iload_n 2, 1) := by decide +kernel
theorem dX6_plan_43 : decode cX6_plan 43 = .ok (.ifCond .eq 12, 3) := by decide +kernel
theorem dX6_plan_46 : decode cX6_plan 46 = .ok (.aload_n 0, 1) := by decide +kernel
theorem dX6_plan_47 : decode cX6_plan 47 = .ok (.getfield 83, 3) := by decide +kernel
theorem dX6_plan_50 : decode cX6_plan 50 = .ok (.bipush 59, 2) := by decide +kernel
theorem dX6_plan_52 : decode cX6_plan 52 = .ok (.if_icmp .eq 11, 3) := by decide +kernel
theorem dX6_plan_55 : decode cX6_plan 55 = .ok (.bipush (-10), 2) := by decide +kernel
theorem dX6_plan_57 : decode cX6_plan 57 = .ok (.aload_n 0, 1) := by decide +kernel
theorem dX6_plan_58 : decode cX6_plan 58 = .ok (.getfield 80, 3) := by decide +kernel
theorem dX6_plan_61 : decode cX6_plan 61 = .ok (.isub, 1) := by decide +kernel
theorem dX6_plan_62 : decode cX6_plan 62 = .ok (.ireturn, 1) := by decide +kernel
theorem dX6_plan_63 : decode cX6_plan 63 = .ok (.iinc 1 1, 3) := by decide +kernel
theorem dX6_plan_66 : decode cX6_plan 66 = .ok (.aload_n 0, 1) := by decide +kernel
theorem dX6_plan_67 : decode cX6_plan 67 = .ok (.invokevirtual 90, 3) := by decide +kernel
theorem dX6_plan_70 : decode cX6_plan 70 = .ok (.goto (-50), 3) := by decide +kernel
theorem dX6_plan_73 : decode cX6_plan 73 = .ok (.aload_n 0, 1) := by decide +kernel
theorem dX6_plan_74 : decode cX6_plan 74 = .ok (.invokevirtual 53, 3) := by decide +kernel
theorem dX6_plan_77 : decode cX6_plan 77 = .ok (.aload_n 0, 1) := by decide +kernel
theorem dX6_plan_78 : decode cX6_plan 78 = .ok (.iconst 0, 1) := by decide +kernel
theorem dX6_plan_79 : decode cX6_plan 79 = .ok (.putfield 74, 3) := by decide +kernel
theorem dX6_plan_82 : decode cX6_plan 82 = .ok (.iload_n 1, 1) := by decide +kernel
theorem dX6_plan_83 : decode cX6_plan 83 = .ok (.ireturn, 1) := by decide +kernel
theorem dX6_wall_0 : decode cX6_wall 0 = .ok (.aload_n 0, 1) := by decide +kernel
theorem dX6_wall_1 : decode cX6_wall 1 = .ok (.iconst 0, 1) := by decide +kernel
theorem dX6_wall_2 : decode cX6_wall 2 = .ok (.putfield 56, 3) := by decide +kernel
theorem dX6_wall_5 : decode cX6_wall 5 = .ok (.aload_n 0, 1) := by decide +kernel
theorem dX6_wall_6 : decode cX6_wall 6 = .ok (.iload_n 1, 1) := by decide +kernel
theorem dX6_wall_7 : decode cX6_wall 7 = .ok (.invokevirtual 135, 3) := by decide +kernel
theorem dX6_wall_10 : decode cX6_wall 10 = .ok (.ifCond .eq 21, 3) := by decide +kernel
theorem dX6_wall_13 : decode cX6_wall 13 = .ok (.iload_n 2, 1) := by decide +kernel
theorem dX6_wall_14 : decode cX6_wall 14 = .ok (.iconst 0, 1) := by decide +kernel
theorem dX6_wall_15 : decode cX6_wall 15 = .ok (.iconst 3, 1) := by decide +kernel
theorem dX6_wall_16 : decode cX6_wall 16 = .ok (.invokestatic 63, 3) := by decide +kernel
theorem dX6_wall_19 : decode cX6_wall 19 = .ok (.ifCond .eq 12, 3) := by decide +kernel
theorem dX6_wall_22 : decode cX6_wall 22 = .ok (.aload_n 0, 1) := by decide +kernel
theorem dX6_wall_23 : decode cX6_wall 23 = .ok (.iload_n 1, 1) := by decide +kernel
theorem dX6_wall_24 : decode cX6_wall 24 = .ok (.iload_n 2, 1) := by decide +kernel
theorem dX6_wall_25 : decode cX6_wall 25 = .ok (.invokevirtual 138, 3) := by decide +kernel
theorem dX6_wall_28 : decode cX6_wall 28 = .ok (.goto 4, 3) := by decide +kernel
theorem dX6_wall_31 : decode cX6_wall 31 = .ok (.iconst (-1), 1) := by decide +kernel
theorem dX6_wall_32 : decode cX6_wall 32 = .ok (.ireturn, 1) := by decide +kernel
theorem dX6_lamp_0 : decode cX6_lamp 0 = .ok (.aload_n 0, 1) := by decide +kernel
theorem dX6_lamp_1 : decode cX6_lamp 1 = .ok (.iconst 0, 1) := by decide +kernel
theorem dX6_lamp_2 : decode cX6_lamp 2 = .ok (.putfield 56, 3) := by decide +kernel
theorem dX6_lamp_5 : decode cX6_lamp 5 = .ok (.aload_n 0, 1) := by decide +kernel
theorem dX6_lamp_6 : decode cX6_lamp 6 = .ok (.iload_n 1, 1) := by decide +kernel
theorem dX6_lamp_7 : decode cX6_lamp 7 = .ok (.invokevirtual 141, 3) := by decide +kernel
theorem dX6_lamp_10 : decode cX6_lamp 10 = .ok (.ifCond .eq 21, 3) := by decide +kernel
theorem dX6_lamp_13 : decode cX6_lamp 13 = .ok (.iload_n 2, 1) := by decide +kernel
theorem dX6_lamp_14 : decode cX6_lamp 14 = .ok (.iconst 0, 1) := by decide +kernel
theorem dX6_lamp_15 : decode cX6_lamp 15 = .ok (.iconst 2, 1) := by decide +kernel
theorem dX6_lamp_16 : decode cX6_lamp 16 = .ok (.invokestatic 63, 3) := by decide +kernel
theorem dX6_lamp_19 : decode cX6_lamp 19 = .ok (.ifCond .eq 12, 3) := by decide +kernel
theorem dX6_lamp_22 : decode cX6_lamp 22 = .ok (.aload_n 0, 1) := by decide +kernel
theorem dX6_lamp_23 : decode cX6_lamp 23 = .ok (.iload_n 1, 1) := by decide +kernel
theorem dX6_lamp_24 : decode cX6_lamp 24 = .ok (.iload_n 2, 1) := by decide +kernel
theorem dX6_lamp_25 : decode cX6_lamp 25 = .ok (.invokevirtual 70, 3) := by decide +kernel
theorem dX6_lamp_28 : decode cX6_lamp 28 = .ok (.goto 4, 3) := by decide +kernel
theorem dX6_lamp_31 : decode cX6_lamp 31 = .ok (.iconst (-1), 1) := by decide +kernel
theorem dX6_lamp_32 : decode cX6_lamp 32 = .ok (.ireturn, 1) := by decide +kernel
theorem dX6_isBetween_0 : decode cX6_isBetween 0 = .ok (.aload_n 0, 1) := by decide +kernel
theorem dX6_isBetween_1 : decode cX6_isBetween 1 = .ok (.iload_n 1, 1) := by decide +kernel
theorem dX6_isBetween_2 : decode cX6_isBetween 2 = .ok (.iconst 3, 1) := by decide +kernel
theorem dX6_isBetween_3 : decode cX6_isBetween 3 = .ok (.invokevirtual 138, 3) := by decide +kernel
theorem dX6_isBetween_6 : decode cX6_isBetween 6 = .ok (.istore 6, 2) := by decide +kernel
theorem dX6_isBetween_8 : decode cX6_isBetween 8 = .ok (.iload 6, 2) := by decide +kernel
theorem dX6_isBetween_10 : decode cX6_isBetween 10 = .ok (.iconst 1, 1) := by decide +kernel
theorem dX6_isBetween_11 : decode cX6_isBetween 11 = .ok (.if_icmp .ne 11, 3) := by decide +kernel
theorem dX6_isBetween_14 : decode cX6_isBetween 14 = .ok (.iconst 2, 1) := by decide +kernel
theorem dX6_isBetween_15 : decode cX6_isBetween 15 = .ok (.iload_n 2, 1) := by decide +kernel
theorem dX6_isBetween_16 : decode cX6_isBetween 16 = .ok (.imul, 1) := by decide +kernel
theorem dX6_isBetween_17 : decode cX6_isBetween 17 = .ok (.iconst 1, 1) := by decide +kernel
theorem dX6_isBetween_18 : decode cX6_isBetween 18 = .ok (.iadd, 1) := by decide +kernel
theorem dX6_isBetween_19 : decode cX6_isBetween 19 = .ok (.goto 8, 3) := by decide +kernel
theorem dX6_isBetween_22 : decode cX6_isBetween 22 = .ok (.iconst 2, 1) := by decide +kernel
theorem dX6_isBetween_23 : decode cX6_isBetween 23 = .ok (.iload_n 3, 1) := by decide +kernel
theorem dX6_isBetween_24 : decode cX6_isBetween 24 = .ok (.imul, 1) := by decide +kernel
theorem dX6_isBetween_25 : decode cX6_isBetween 25 = .ok (.iconst 1, 1) := by decide +kernel
theorem dX6_isBetween_26 : decode cX6_isBetween 26 = .ok (.iadd, 1) := by decide +kernel
theorem dX6_isBetween_27 : decode cX6_isBetween 27 = .ok (.istore 7, 2) := by decide +kernel
theorem dX6_isBetween_29 : decode cX6_isBetween 29 = .ok (.iload 6, 2) := by decide +kernel
theorem dX6_isBetween_31 : decode cX6_isBetween 31 = .ok (.iconst 1, 1) := by decide +kernel
theorem dX6_isBetween_32 : decode cX6_isBetween 32 = .ok (.if_icmp .ne 12, 3) := by decide +kernel
theorem dX6_isBetween_35 : decode cX6_isBetween 35 = .ok (.iconst 2, 1) := by decide +kernel
theorem dX6_isBetween_36 : decode cX6_isBetween 36 = .ok (.iload 4, 2) := by decide +kernel
theorem dX6_isBetween_38 : decode cX6_isBetween 38 = .ok (.imul, 1) := by decide +kernel
theorem dX6_isBetween_39 : decode cX6_isBetween 39 = .ok (.iconst 1, 1) := by decide +kernel
theorem dX6_isBetween_40 : decode cX6_isBetween 40 = .ok (.iadd, 1) := by decide +kernel
theorem dX6_isBetween_41 : decode cX6_isBetween 41 = .ok (.goto 9, 3) := by decide +kernel
theorem dX6_isBetween_44 : decode cX6_isBetween 44 = .ok (.iconst 2, 1) := by decide +kernel
theorem dX6_isBetween_45 : decode cX6_isBetween 45 = .ok (.iload 5, 2) := by decide +kernel
theorem dX6_isBetween_47 : decode cX6_isBetween 47 = .ok (.imul, 1) := by decide +kernel
theorem dX6_isBetween_48 : decode cX6_isBetween 48 = .ok (.iconst 1, 1) := by decide +kernel
theorem dX6_isBetween_49 : decode cX6_isBetween 49 = .ok (.iadd, 1) := by decide +kernel
theorem dX6_isBetween_50 : decode cX6_isBetween 50 = .ok (.istore 8, 2) := by decide +kernel
theorem dX6_isBetween_52 : decode cX6_isBetween 52 = .ok (.iload 6, 2) := by decide +kernel
theorem dX6_isBetween_54 : decode cX6_isBetween 54 = .ok (.iconst 1, 1) := by decide +kernel
theorem dX6_isBetween_55 : decode cX6_isBetween 55 = .ok (.if_icmp .ne 14, 3) := by decide +kernel
theorem dX6_isBetween_58 : decode cX6_isBetween 58 = .ok (.iconst 2, 1) := by decide +kernel
theorem dX6_isBetween_59 : decode cX6_isBetween 59 = .ok (.aload_n 0, 1) := by decide +kernel
theorem dX6_isBetween_60 : decode cX6_isBetween 60 = .ok (.iload_n 1, 1) := by decide +kernel
theorem dX6_isBetween_61 : decode cX6_isBetween 61 = .ok (.iconst 0, 1) := by decide +kernel
theorem dX6_isBetween_62 : decode cX6_isBetween 62 = .ok (.invokevirtual 138, 3) := by decide +kernel
theorem dX6_isBetween_65 : decode cX6_isBetween 65 = .ok (.imul, 1) := by decide +kernel
theorem dX6_isBetween_66 : decode cX6_isBetween 66 = .ok (.goto 11, 3) := by decide +kernel
theorem dX6_isBetween_69 : decode cX6_isBetween 69 = .ok (.iconst 2, 1) := by decide +kernel
theorem dX6_isBetween_70 : decode cX6_isBetween 70 = .ok (.aload_n 0, 1) := by decide +kernel
theorem dX6_isBetween_71 : decode cX6_isBetween 71 = .ok (.iload_n 1, 1) := by decide +kernel
theorem dX6_isBetween_72 : decode cX6_isBetween 72 = .ok (.iconst 1, 1) := by decide +kernel
theorem dX6_isBetween_73 : decode cX6_isBetween 73 = .ok (.invokevirtual 138, 3) := by decide +kernel
theorem dX6_isBetween_76 : decode cX6_isBetween 76 = .ok (.imul, 1) := by decide +kernel
theorem dX6_isBetween_77 : decode cX6_isBetween 77 = .ok (.istore 9, 2) := by decide +kernel
theorem dX6_isBetween_79 : decode cX6_isBetween 79 = .ok (.iload 7, 2) := by decide +kernel
theorem dX6_isBetween_81 : decode cX6_isBetween 81 = .ok (.iload 9, 2) := by decide +kernel
theorem dX6_isBetween_83 : decode cX6_isBetween 83 = .ok (.if_icmp .ge 7, 3) := by decide +kernel
theorem dX6_isBetween_86 : decode cX6_isBetween 86 = .ok (.iconst 1, 1) := by decide +kernel
theorem dX6_isBetween_87 : decode cX6_isBetween 87 = .ok (.goto 4, 3) := by decide +kernel
theorem dX6_isBetween_90 : decode cX6_isBetween 90 = .ok (.iconst 0, 1) := by decide +kernel
theorem dX6_isBetween_91 : decode cX6_isBetween 91 = .ok (.iload 8, 2) := by decide +kernel
theorem dX6_isBetween_93 : decode cX6_isBetween 93 = .ok (.iload 9, 2) := by decide +kernel
theorem dX6_isBetween_95 : decode cX6_isBetween 95 = .ok (.if_icmp .ge 7, 3) := by decide +kernel
theorem dX6_isBetween_98 : decode cX6_isBetween 98 = .ok (.iconst 1, 1) := by decide +kernel
theorem dX6_isBetween_99 : decode cX6_isBetween 99 = .ok (.goto 4, 3) := by decide +kernel
theorem dX6_isBetween_102 : decode cX6_isBetween 102 = .ok (.iconst 0, 1) := by decide +kernel
theorem dX6_isBetween_103 : decode cX6_isBetween 103 = .ok (.if_icmp .ne 5, 3) := by decide +kernel
theorem dX6_isBetween_106 : decode cX6_isBetween 106 = .ok (.iconst 0, 1) := by decide +kernel
theorem dX6_isBetween_107 : decode cX6_isBetween 107 = .ok (.ireturn, 1) := by decide +kernel
theorem dX6_isBetween_108 : decode cX6_isBetween 108 = .ok (.iload 6, 2) := by decide +kernel
theorem dX6_isBetween_110 : decode cX6_isBetween 110 = .ok (.iconst 1, 1) := by decide +kernel
theorem dX6_isBetween_111 : decode cX6_isBetween 111 = .ok (.if_icmp .ne 11, 3) := by decide +kernel
theorem dX6_isBetween_114 : decode cX6_isBetween 114 = .ok (.iconst 2, 1) := by decide +kernel
theorem dX6_isBetween_115 : decode cX6_isBetween 115 = .ok (.iload_n 3, 1) := by decide +kernel
theorem dX6_isBetween_116 : decode cX6_isBetween 116 = .ok (.imul, 1) := by decide +kernel
theorem dX6_isBetween_117 : decode cX6_isBetween 117 = .ok (.iconst 1, 1) := by decide +kernel
theorem dX6_isBetween_118 : decode cX6_isBetween 118 = .ok (.iadd, 1) := by decide +kernel
theorem dX6_isBetween_119 : decode cX6_isBetween 119 = .ok (.goto 8, 3) := by decide +kernel
theorem dX6_isBetween_122 : decode cX6_isBetween 122 = .ok (.iconst 2, 1) := by decide +kernel
theorem dX6_isBetween_123 : decode cX6_isBetween 123 = .ok (.iload_n 2, 1) := by decide +kernel
theorem dX6_isBetween_124 : decode cX6_isBetween 124 = .ok (.imul, 1) := by decide +kernel
theorem dX6_isBetween_125 : decode cX6_isBetween 125 = .ok (.iconst 1, 1) := by decide +kernel
theorem dX6_isBetween_126 : decode cX6_isBetween 126 = .ok (.iadd, 1) := by decide +kernel
theorem dX6_isBetween_127 : decode cX6_isBetween 127 = .ok (.istore 10, 2) := by decide +kernel
theorem dX6_isBetween_129 : decode cX6_isBetween 129 = .ok (.iload 6, 2) := by decide +kernel
theorem dX6_isBetween_131 : decode cX6_isBetween 131 = .ok (.iconst 1, 1) := by decide +kernel
theorem dX6_isBetween_132 : decode cX6_isBetween 132 = .ok (.if_icmp .ne 12, 3) := by decide +kernel
theorem dX6_isBetween_135 : decode cX6_isBetween 135 = .ok (.iconst 2, 1) := by decide +kernel
theorem dX6_isBetween_136 : decode cX6_isBetween 136 = .ok (.iload 5, 2) := by decide +kernel
theorem dX6_isBetween_138 : decode cX6_isBetween 138 = .ok (.imul, 1) := by decide +kernel
theorem dX6_isBetween_139 : decode cX6_isBetween 139 = .ok (.iconst 1, 1) := by decide +kernel
theorem dX6_isBetween_140 : decode cX6_isBetween 140 = .ok (.iadd, 1) := by decide +kernel
theorem dX6_isBetween_141 : decode cX6_isBetween 141 = .ok (.goto 9, 3) := by decide +kernel
theorem dX6_isBetween_144 : decode cX6_isBetween 144 = .ok (.iconst 2, 1) := by decide +kernel
theorem dX6_isBetween_145 : decode cX6_isBetween 145 = .ok (.iload 4, 2) := by decide +kernel
theorem dX6_isBetween_147 : decode cX6_isBetween 147 = .ok (.imul, 1) := by decide +kernel
theorem dX6_isBetween_148 : decode cX6_isBetween 148 = .ok (.iconst 1, 1) := by decide +kernel
theorem dX6_isBetween_149 : decode cX6_isBetween 149 = .ok (.iadd, 1) := by decide +kernel
theorem dX6_isBetween_150 : decode cX6_isBetween 150 = .ok (.istore 11, 2) := by decide +kernel
theorem dX6_isBetween_152 : decode cX6_isBetween 152 = .ok (.iload 6, 2) := by decide +kernel
theorem dX6_isBetween_154 : decode cX6_isBetween 154 = .ok (.iconst 1, 1) := by decide +kernel
theorem dX6_isBetween_155 : decode cX6_isBetween 155 = .ok (.if_icmp .ne 14, 3) := by decide +kernel
theorem dX6_isBetween_158 : decode cX6_isBetween 158 = .ok (.iconst 2, 1) := by decide +kernel
theorem dX6_isBetween_159 : decode cX6_isBetween 159 = .ok (.aload_n 0, 1) := by decide +kernel
theorem dX6_isBetween_160 : decode cX6_isBetween 160 = .ok (.iload_n 1, 1) := by decide +kernel
theorem dX6_isBetween_161 : decode cX6_isBetween 161 = .ok (.iconst 1, 1) := by decide +kernel
theorem dX6_isBetween_162 : decode cX6_isBetween 162 = .ok (.invokevirtual 138, 3) := by decide +kernel
theorem dX6_isBetween_165 : decode cX6_isBetween 165 = .ok (.imul, 1) := by decide +kernel
theorem dX6_isBetween_166 : decode cX6_isBetween 166 = .ok (.goto 11, 3) := by decide +kernel
theorem dX6_isBetween_169 : decode cX6_isBetween 169 = .ok (.iconst 2, 1) := by decide +kernel
theorem dX6_isBetween_170 : decode cX6_isBetween 170 = .ok (.aload_n 0, 1) := by decide +kernel
theorem dX6_isBetween_171 : decode cX6_isBetween 171 = .ok (.iload_n 1, 1) := by decide +kernel
theorem dX6_isBetween_172 : decode cX6_isBetween 172 = .ok (.iconst 0, 1) := by decide +kernel
theorem dX6_isBetween_173 : decode cX6_isBetween 173 = .ok (.invokevirtual 138, 3) := by decide +kernel
theorem dX6_isBetween_176 : decode cX6_isBetween 176 = .ok (.imul, 1) := by decide +kernel
theorem dX6_isBetween_177 : decode cX6_isBetween 177 = .ok (.istore 12, 2) := by decide +kernel
theorem dX6_isBetween_179 : decode cX6_isBetween 179 = .ok (.iload 8, 2) := by decide +kernel
theorem dX6_isBetween_181 : decode cX6_isBetween 181 = .ok (.iload 7, 2) := by decide +kernel
theorem dX6_isBetween_183 : decode cX6_isBetween 183 = .ok (.isub, 1) := by decide +kernel
theorem dX6_isBetween_184 : decode cX6_isBetween 184 = .ok (.istore 13, 2) := by decide +kernel
theorem dX6_isBetween_186 : decode cX6_isBetween 186 = .ok (.iload 10, 2) := by decide +kernel
theorem dX6_isBetween_188 : decode cX6_isBetween 188 = .ok (.iload 13, 2) := by decide +kernel
theorem dX6_isBetween_190 : decode cX6_isBetween 190 = .ok (.imul, 1) := by decide +kernel
theorem dX6_isBetween_191 : decode cX6_isBetween 191 = .ok (.iload 11, 2) := by decide +kernel
theorem dX6_isBetween_193 : decode cX6_isBetween 193 = .ok (.iload 10, 2) := by decide +kernel
theorem dX6_isBetween_195 : decode cX6_isBetween 195 = .ok (.isub, 1) := by decide +kernel
theorem dX6_isBetween_196 : decode cX6_isBetween 196 = .ok (.iload 9, 2) := by decide +kernel
theorem dX6_isBetween_198 : decode cX6_isBetween 198 = .ok (.iload 7, 2) := by decide +kernel
theorem dX6_isBetween_200 : decode cX6_isBetween 200 = .ok (.isub, 1) := by decide +kernel
theorem dX6_isBetween_201 : decode cX6_isBetween 201 = .ok (.imul, 1) := by decide +kernel
theorem dX6_isBetween_202 : decode cX6_isBetween 202 = .ok (.iadd, 1) := by decide +kernel
theorem dX6_isBetween_203 : decode cX6_isBetween 203 = .ok (.istore 14, 2) := by decide +kernel
theorem dX6_isBetween_205 : decode cX6_isBetween 205 = .ok (.iload 12, 2) := by decide +kernel
theorem dX6_isBetween_207 : decode cX6_isBetween 207 = .ok (.iload 13, 2) := by decide +kernel
theorem dX6_isBetween_209 : decode cX6_isBetween 209 = .ok (.imul, 1) := by decide +kernel
theorem dX6_isBetween_210 : decode cX6_isBetween 210 = .ok (.istore 15, 2) := by decide +kernel
theorem dX6_isBetween_212 : decode cX6_isBetween 212 = .ok (.iload 12, 2) := by decide +kernel
theorem dX6_isBetween_214 : decode cX6_isBetween 214 = .ok (.iconst 2, 1) := by decide +kernel
theorem dX6_isBetween_215 : decode cX6_isBetween 215 = .ok (.aload_n 0, 1) := by decide +kernel
theorem dX6_isBetween_216 : decode cX6_isBetween 216 = .ok (.iload_n 1, 1) := by decide +kernel
theorem dX6_isBetween_217 : decode cX6_isBetween 217 = .ok (.iconst 2, 1) := by decide +kernel
theorem dX6_isBetween_218 : decode cX6_isBetween 218 = .ok (.invokevirtual 138, 3) := by decide +kernel
theorem dX6_isBetween_221 : decode cX6_isBetween 221 = .ok (.imul, 1) := by decide +kernel
theorem dX6_isBetween_222 : decode cX6_isBetween 222 = .ok (.iadd, 1) := by decide +kernel
theorem dX6_isBetween_223 : decode cX6_isBetween 223 = .ok (.iload 13, 2) := by decide +kernel
theorem dX6_isBetween_225 : decode cX6_isBetween 225 = .ok (.imul, 1) := by decide +kernel
theorem dX6_isBetween_226 : decode cX6_isBetween 226 = .ok (.istore 16, 2) := by decide +kernel
theorem dX6_isBetween_228 : decode cX6_isBetween 228 = .ok (.iload 13, 2) := by decide +kernel
theorem dX6_isBetween_230 : decode cX6_isBetween 230 = .ok (.ifCond .le 25, 3) := by decide +kernel
theorem dX6_isBetween_233 : decode cX6_isBetween 233 = .ok (.iload 14, 2) := by decide +kernel
theorem dX6_isBetween_235 : decode cX6_isBetween 235 = .ok (.iload 15, 2) := by decide +kernel
theorem dX6_isBetween_237 : decode cX6_isBetween 237 = .ok (.if_icmp .lt 14, 3) := by decide +kernel
theorem dX6_isBetween_240 : decode cX6_isBetween 240 = .ok (.iload 14, 2) := by decide +kernel
theorem dX6_isBetween_242 : decode cX6_isBetween 242 = .ok (.iload 16, 2) := by decide +kernel
theorem dX6_isBetween_244 : decode cX6_isBetween 244 = .ok (.if_icmp .gt 7, 3) := by decide +kernel
theorem dX6_isBetween_247 : decode cX6_isBetween 247 = .ok (.iconst 1, 1) := by decide +kernel
theorem dX6_isBetween_248 : decode cX6_isBetween 248 = .ok (.goto 26, 3) := by decide +kernel
theorem dX6_isBetween_251 : decode cX6_isBetween 251 = .ok (.iconst 0, 1) := by decide +kernel
theorem dX6_isBetween_252 : decode cX6_isBetween 252 = .ok (.goto 22, 3) := by decide +kernel
theorem dX6_isBetween_255 : decode cX6_isBetween 255 = .ok (.iload 14, 2) := by decide +kernel
theorem dX6_isBetween_257 : decode cX6_isBetween 257 = .ok (.iload 15, 2) := by decide +kernel
theorem dX6_isBetween_259 : decode cX6_isBetween 259 = .ok (.if_icmp .gt 14, 3) := by decide +kernel
theorem dX6_isBetween_262 : decode cX6_isBetween 262 = .ok (.iload 14, 2) := by decide +kernel
theorem dX6_isBetween_264 : decode cX6_isBetween 264 = .ok (.iload 16, 2) := by decide +kernel
theorem dX6_isBetween_266 : decode cX6_isBetween 266 = .ok (.if_icmp .lt 7, 3) := by decide +kernel
theorem dX6_isBetween_269 : decode cX6_isBetween 269 = .ok (.iconst 1, 1) := by decide +kernel
theorem dX6_isBetween_270 : decode cX6_isBetween 270 = .ok (.goto 4, 3) := by decide +kernel
theorem dX6_isBetween_273 : decode cX6_isBetween 273 = .ok (.iconst 0, 1) := by decide +kernel
theorem dX6_isBetween_274 : decode cX6_isBetween 274 = .ok (.ireturn, 1) := by decide +kernel
theorem dX6_isLit_0 : decode cX6_isLit 0 = .ok (.iconst 1, 1) := by decide +kernel
theorem dX6_isLit_1 : decode cX6_isLit 1 = .ok (.istore 6, 2) := by decide +kernel
theorem dX6_isLit_3 : decode cX6_isLit 3 = .ok (.iconst 4, 1) := by decide +kernel
theorem dX6_isLit_4 : decode cX6_isLit 4 = .ok (.istore 7, 2) := by decide +kernel
theorem dX6_isLit_6 : decode cX6_isLit 6 = .ok (.iload 7, 2) := by decide +kernel
theorem dX6_isLit_8 : decode cX6_isLit 8 = .ok (.aload_n 0, 1) := by decide +kernel
theorem dX6_isLit_9 : decode cX6_isLit 9 = .ok (.getfield 7, 3) := by decide +kernel
theorem dX6_isLit_12 : decode cX6_isLit 12 = .ok (.iconst 1, 1) := by decide +kernel
theorem dX6_isLit_13 : decode cX6_isLit 13 = .ok (.iaload, 1) := by decide +kernel
theorem dX6_isLit_14 : decode cX6_isLit 14 = .ok (.if_icmp .ge 42, 3) := by decide +kernel
theorem dX6_isLit_17 : decode cX6_isLit 17 = .ok (.iload 6, 2) := by decide +kernel
theorem dX6_isLit_19 : decode cX6_isLit 19 = .ok (.ifCond .eq 37, 3) := by decide +kernel
theorem dX6_isLit_22 : decode cX6_isLit 22 = .ok (.iload 7, 2) := by decide +kernel
theorem dX6_isLit_24 : decode cX6_isLit 24 = .ok (.iload 5, 2) := by decide +kernel
theorem dX6_isLit_26 : decode cX6_isLit 26 = .ok (.if_icmp .eq 17, 3) := by decide +kernel
theorem dX6_isLit_29 : decode cX6_isLit 29 = .ok (.aload_n 0, 1) := by decide +kernel
theorem dX6_isLit_30 : decode cX6_isLit 30 = .ok (.iload 7, 2) := by decide +kernel
theorem dX6_isLit_32 : decode cX6_isLit 32 = .ok (.iload_n 1, 1) := by decide +kernel
theorem dX6_isLit_33 : decode cX6_isLit 33 = .ok (.iload_n 2, 1) := by decide +kernel
theorem dX6_isLit_34 : decode cX6_isLit 34 = .ok (.iload_n 3, 1) := by decide +kernel
theorem dX6_isLit_35 : decode cX6_isLit 35 = .ok (.iload 4, 2) := by decide +kernel
theorem dX6_isLit_37 : decode cX6_isLit 37 = .ok (.invokevirtual 144, 3) := by decide +kernel
theorem dX6_isLit_40 : decode cX6_isLit 40 = .ok (.ifCond .ne 7, 3) := by decide +kernel
theorem dX6_isLit_43 : decode cX6_isLit 43 = .ok (.iconst 1, 1) := by decide +kernel
theorem dX6_isLit_44 : decode cX6_isLit 44 = .ok (.goto 4, 3) := by decide +kernel
theorem dX6_isLit_47 : decode cX6_isLit 47 = .ok (.iconst 0, 1) := by decide +kernel
theorem dX6_isLit_48 : decode cX6_isLit 48 = .ok (.istore 6, 2) := by decide +kernel
theorem dX6_isLit_50 : decode cX6_isLit 50 = .ok (.iinc 7 1, 3) := by decide +kernel
theorem dX6_isLit_53 : decode cX6_isLit 53 = .ok (.goto (-47), 3) := by decide +kernel
theorem dX6_isLit_56 : decode cX6_isLit 56 = .ok (.iload 6, 2) := by decide +kernel
theorem dX6_isLit_58 : decode cX6_isLit 58 = .ok (.ireturn, 1) := by decide +kernel
theorem dX6_isLitBy_0 : decode cX6_isLitBy 0 = .ok (.aload_n 0, 1) := by decide +kernel
theorem dX6_isLitBy_1 : decode cX6_isLitBy 1 = .ok (.aload_n 0, 1) := by decide +kernel
theorem dX6_isLitBy_2 : decode cX6_isLitBy 2 = .ok (.iload_n 1, 1) := by decide +kernel
theorem dX6_isLitBy_3 : decode cX6_isLitBy 3 = .ok (.iconst 0, 1) := by decide +kernel
theorem dX6_isLitBy_4 : decode cX6_isLitBy 4 = .ok (.invokevirtual 70, 3) := by decide +kernel
theorem dX6_isLitBy_7 : decode cX6_isLitBy 7 = .ok (.aload_n 0, 1) := by decide +kernel
theorem dX6_isLitBy_8 : decode cX6_isLitBy 8 = .ok (.iload_n 1, 1) := by decide +kernel
theorem dX6_isLitBy_9 : decode cX6_isLitBy 9 = .ok (.iconst 1, 1) := by decide +kernel
theorem dX6_isLitBy_10 : decode cX6_isLitBy 10 = .ok (.invokevirtual 70, 3) := by decide +kernel
theorem dX6_isLitBy_13 : decode cX6_isLitBy 13 = .ok (.iload_n 2, 1) := by decide +kernel
theorem dX6_isLitBy_14 : decode cX6_isLitBy 14 = .ok (.iload_n 3, 1) := by decide +kernel
theorem dX6_isLitBy_15 : decode cX6_isLitBy 15 = .ok (.iload 4, 2) := by decide +kernel
theorem dX6_isLitBy_17 : decode cX6_isLitBy 17 = .ok (.invokevirtual 148, 3) := by decide +kernel
theorem dX6_isLitBy_20 : decode cX6_isLitBy 20 = .ok (.ireturn, 1) := by decide +kernel
theorem dX6_lampsOf_0 : decode cX6_lampsOf 0 = .ok (.iconst 0, 1) := by decide +kernel
theorem dX6_lampsOf_1 : decode cX6_lampsOf 1 = .ok (.istore 4, 2) := by decide +kernel
theorem dX6_lampsOf_3 : decode cX6_lampsOf 3 = .ok (.iconst 0, 1) := by decide +kernel
theorem dX6_lampsOf_4 : decode cX6_lampsOf 4 = .ok (.istore 5, 2) := by decide +kernel
theorem dX6_lampsOf_6 : decode cX6_lampsOf 6 = .ok (.iload 5, 2) := by decide +kernel
theorem dX6_lampsOf_8 : decode cX6_lampsOf 8 = .ok (.aload_n 0, 1) := by decide +kernel
theorem dX6_lampsOf_9 : decode cX6_lampsOf 9 = .ok (.getfield 7, 3) := by decide +kernel
theorem dX6_lampsOf_12 : decode cX6_lampsOf 12 = .ok (.iconst 0, 1) := by decide +kernel
theorem dX6_lampsOf_13 : decode cX6_lampsOf 13 = .ok (.iaload, 1) := by decide +kernel
theorem dX6_lampsOf_14 : decode cX6_lampsOf 14 = .ok (.if_icmp .ge 34, 3) := by decide +kernel
theorem dX6_lampsOf_17 : decode cX6_lampsOf 17 = .ok (.iload 4, 2) := by decide +kernel
theorem dX6_lampsOf_19 : decode cX6_lampsOf 19 = .ok (.aload_n 0, 1) := by decide +kernel
theorem dX6_lampsOf_20 : decode cX6_lampsOf 20 = .ok (.iload 5, 2) := by decide +kernel
theorem dX6_lampsOf_22 : decode cX6_lampsOf 22 = .ok (.iload_n 1, 1) := by decide +kernel
theorem dX6_lampsOf_23 : decode cX6_lampsOf 23 = .ok (.iload_n 2, 1) := by decide +kernel
theorem dX6_lampsOf_24 : decode cX6_lampsOf 24 = .ok (.iload_n 3, 1) := by decide +kernel
theorem dX6_lampsOf_25 : decode cX6_lampsOf 25 = .ok (.invokevirtual 151, 3) := by decide +kernel
theorem dX6_lampsOf_28 : decode cX6_lampsOf 28 = .ok (.ifCond .eq 10, 3) := by decide +kernel
theorem dX6_lampsOf_31 : decode cX6_lampsOf 31 = .ok (.iconst 1, 1) := by decide +kernel
theorem dX6_lampsOf_32 : decode cX6_lampsOf 32 = .ok (.iload 5, 2) := by decide +kernel
theorem dX6_lampsOf_34 : decode cX6_lampsOf 34 = .ok (.ishl, 1) := by decide +kernel
theorem dX6_lampsOf_35 : decode cX6_lampsOf 35 = .ok (.goto 4, 3) := by decide +kernel
theorem dX6_lampsOf_38 : decode cX6_lampsOf 38 = .ok (.iconst 0, 1) := by decide +kernel
theorem dX6_lampsOf_39 : decode cX6_lampsOf 39 = .ok (.ior, 1) := by decide +kernel
theorem dX6_lampsOf_40 : decode cX6_lampsOf 40 = .ok (.istore 4, 2) := by decide +kernel
theorem dX6_lampsOf_42 : decode cX6_lampsOf 42 = .ok (.iinc 5 1, 3) := by decide +kernel
theorem dX6_lampsOf_45 : decode cX6_lampsOf 45 = .ok (.goto (-39), 3) := by decide +kernel
theorem dX6_lampsOf_48 : decode cX6_lampsOf 48 = .ok (.iload 4, 2) := by decide +kernel
theorem dX6_lampsOf_50 : decode cX6_lampsOf 50 = .ok (.ireturn, 1) := by decide +kernel
theorem dX6_on_0 : decode cX6_on 0 = .ok (.iconst 0, 1) := by decide +kernel
theorem dX6_on_1 : decode cX6_on 1 = .ok (.istore_n 1, 1) := by decide +kernel
theorem dX6_on_2 : decode cX6_on 2 = .ok (.iconst 0, 1) := by decide +kernel
theorem dX6_on_3 : decode cX6_on 3 = .ok (.istore_n 2, 1) := by decide +kernel
theorem dX6_on_4 : decode cX6_on 4 = .ok (.iload_n 2, 1) := by decide +kernel
theorem dX6_on_5 : decode cX6_on 5 = .ok (.aload_n 0, 1) := by decide +kernel
theorem dX6_on_6 : decode cX6_on 6 = .ok (.getfield 7, 3) := by decide +kernel
theorem dX6_on_9 : decode cX6_on 9 = .ok (.iconst 0, 1) := by decide +kernel
theorem dX6_on_10 : decode cX6_on 10 = .ok (.iaload, 1) := by decide +kernel
theorem dX6_on_11 : decode cX6_on 11 = .ok (.if_icmp .ge 20, 3) := by decide +kernel
theorem dX6_on_14 : decode cX6_on 14 = .ok (.iload_n 1, 1) := by decide +kernel
theorem dX6_on_15 : decode cX6_on 15 = .ok (.aload_n 0, 1) := by decide +kernel
theorem dX6_on_16 : decode cX6_on 16 = .ok (.iload_n 2, 1) := by decide +kernel
theorem dX6_on_17 : decode cX6_on 17 = .ok (.iconst 2, 1) := by decide +kernel
theorem dX6_on_18 : decode cX6_on 18 = .ok (.invokevirtual 70, 3) := by decide +kernel
theorem dX6_on_21 : decode cX6_on 21 = .ok (.iload_n 2, 1) := by decide +kernel
theorem dX6_on_22 : decode cX6_on 22 = .ok (.ishl, 1) := by decide +kernel
theorem dX6_on_23 : decode cX6_on 23 = .ok (.ior, 1) := by decide +kernel
theorem dX6_on_24 : decode cX6_on 24 = .ok (.istore_n 1, 1) := by decide +kernel
theorem dX6_on_25 : decode cX6_on 25 = .ok (.iinc 2 1, 3) := by decide +kernel
theorem dX6_on_28 : decode cX6_on 28 = .ok (.goto (-24), 3) := by decide +kernel
theorem dX6_on_31 : decode cX6_on 31 = .ok (.iload_n 1, 1) := by decide +kernel
theorem dX6_on_32 : decode cX6_on 32 = .ok (.ireturn, 1) := by decide +kernel
theorem dX6_allBy_0 : decode cX6_allBy 0 = .ok (.iconst 0, 1) := by decide +kernel
theorem dX6_allBy_1 : decode cX6_allBy 1 = .ok (.istore_n 2, 1) := by decide +kernel
theorem dX6_allBy_2 : decode cX6_allBy 2 = .ok (.iconst 0, 1) := by decide +kernel
theorem dX6_allBy_3 : decode cX6_allBy 3 = .ok (.istore_n 3, 1) := by decide +kernel
theorem dX6_allBy_4 : decode cX6_allBy 4 = .ok (.iload_n 3, 1) := by decide +kernel
theorem dX6_allBy_5 : decode cX6_allBy 5 = .ok (.aload_n 0, 1) := by decide +kernel
theorem dX6_allBy_6 : decode cX6_allBy 6 = .ok (.getfield 60, 3) := by decide +kernel
theorem dX6_allBy_9 : decode cX6_allBy 9 = .ok (.aload_n 0, 1) := by decide +kernel
theorem dX6_allBy_10 : decode cX6_allBy 10 = .ok (.getfield 67, 3) := by decide +kernel
theorem dX6_allBy_13 : decode cX6_allBy 13 = .ok (.imul, 1) := by decide +kernel
theorem dX6_allBy_14 : decode cX6_allBy 14 = .ok (.if_icmp .ge 42, 3) := by decide +kernel
theorem dX6_allBy_17 : decode cX6_allBy 17 = .ok (.iload_n 2, 1) := by decide +kernel
theorem dX6_allBy_18 : decode cX6_allBy 18 = .ok (.aload_n 0, 1) := by decide +kernel
theorem dX6_allBy_19 : decode cX6_allBy 19 = .ok (.iload_n 3, 1) := by decide +kernel
theorem dX6_allBy_20 : decode cX6_allBy 20 = .ok (.aload_n 0, 1) := by decide +kernel
theorem dX6_allBy_21 : decode cX6_allBy 21 = .ok (.getfield 60, 3) := by decide +kernel
theorem dX6_allBy_24 : decode cX6_allBy 24 = .ok (.irem, 1) := by decide +kernel
theorem dX6_allBy_25 : decode cX6_allBy 25 = .ok (.iload_n 3, 1) := by decide +kernel
theorem dX6_allBy_26 : decode cX6_allBy 26 = .ok (.aload_n 0, 1) := by decide +kernel
theorem dX6_allBy_27 : decode cX6_allBy 27 = .ok (.getfield 60, 3) := by decide +kernel
theorem dX6_allBy_30 : decode cX6_allBy 30 = .ok (.idiv, 1) := by decide +kernel
theorem dX6_allBy_31 : decode cX6_allBy 31 = .ok (.iload_n 1, 1) := by decide +kernel
theorem dX6_allBy_32 : decode cX6_allBy 32 = .ok (.invokevirtual 155, 3) := by decide +kernel
theorem dX6_allBy_35 : decode cX6_allBy 35 = .ok (.aload_n 0, 1) := by decide +kernel
theorem dX6_allBy_36 : decode cX6_allBy 36 = .ok (.invokevirtual 159, 3) := by decide +kernel
theorem dX6_allBy_39 : decode cX6_allBy 39 = .ok (.iand, 1) := by decide +kernel
theorem dX6_allBy_40 : decode cX6_allBy 40 = .ok (.ifCond .eq 7, 3) := by decide +kernel
theorem dX6_allBy_43 : decode cX6_allBy 43 = .ok (.iconst 1, 1) := by decide +kernel
theorem dX6_allBy_44 : decode cX6_allBy 44 = .ok (.goto 4, 3) := by decide +kernel
theorem dX6_allBy_47 : decode cX6_allBy 47 = .ok (.iconst 0, 1) := by decide +kernel
theorem dX6_allBy_48 : decode cX6_allBy 48 = .ok (.iadd, 1) := by decide +kernel
theorem dX6_allBy_49 : decode cX6_allBy 49 = .ok (.istore_n 2, 1) := by decide +kernel
theorem dX6_allBy_50 : decode cX6_allBy 50 = .ok (.iinc 3 1, 3) := by decide +kernel
theorem dX6_allBy_53 : decode cX6_allBy 53 = .ok (.goto (-49), 3) := by decide +kernel
theorem dX6_allBy_56 : decode cX6_allBy 56 = .ok (.iload_n 2, 1) := by decide +kernel
theorem dX6_allBy_57 : decode cX6_allBy 57 = .ok (.ireturn, 1) := by decide +kernel
theorem dX6_lit_0 : decode cX6_lit 0 = .ok (.aload_n 0, 1) := by decide +kernel
theorem dX6_lit_1 : decode cX6_lit 1 = .ok (.iconst 0, 1) := by decide +kernel
theorem dX6_lit_2 : decode cX6_lit 2 = .ok (.putfield 56, 3) := by decide +kernel
theorem dX6_lit_5 : decode cX6_lit 5 = .ok (.aload_n 0, 1) := by decide +kernel
theorem dX6_lit_6 : decode cX6_lit 6 = .ok (.iload_n 1, 1) := by decide +kernel
theorem dX6_lit_7 : decode cX6_lit 7 = .ok (.invokevirtual 141, 3) := by decide +kernel
theorem dX6_lit_10 : decode cX6_lit 10 = .ok (.ifCond .eq 12, 3) := by decide +kernel
theorem dX6_lit_13 : decode cX6_lit 13 = .ok (.aload_n 0, 1) := by decide +kernel
theorem dX6_lit_14 : decode cX6_lit 14 = .ok (.iload_n 2, 1) := by decide +kernel
theorem dX6_lit_15 : decode cX6_lit 15 = .ok (.iload_n 3, 1) := by decide +kernel
theorem dX6_lit_16 : decode cX6_lit 16 = .ok (.invokevirtual 163, 3) := by decide +kernel
theorem dX6_lit_19 : decode cX6_lit 19 = .ok (.ifCond .ne 5, 3) := by decide +kernel
theorem dX6_lit_22 : decode cX6_lit 22 = .ok (.iconst (-1), 1) := by decide +kernel
theorem dX6_lit_23 : decode cX6_lit 23 = .ok (.ireturn, 1) := by decide +kernel
theorem dX6_lit_24 : decode cX6_lit 24 = .ok (.aload_n 0, 1) := by decide +kernel
theorem dX6_lit_25 : decode cX6_lit 25 = .ok (.iload_n 1, 1) := by decide +kernel
theorem dX6_lit_26 : decode cX6_lit 26 = .ok (.iload_n 2, 1) := by decide +kernel
theorem dX6_lit_27 : decode cX6_lit 27 = .ok (.iload_n 3, 1) := by decide +kernel
theorem dX6_lit_28 : decode cX6_lit 28 = .ok (.bipush (-9), 2) := by decide +kernel
theorem dX6_lit_30 : decode cX6_lit 30 = .ok (.invokevirtual 151, 3) := by decide +kernel
theorem dX6_lit_33 : decode cX6_lit 33 = .ok (.ifCond .eq 7, 3) := by decide +kernel
theorem dX6_lit_36 : decode cX6_lit 36 = .ok (.iconst 1, 1) := by decide +kernel
theorem dX6_lit_37 : decode cX6_lit 37 = .ok (.goto 4, 3) := by decide +kernel
theorem dX6_lit_40 : decode cX6_lit 40 = .ok (.iconst 0, 1) := by decide +kernel
theorem dX6_lit_41 : decode cX6_lit 41 = .ok (.ireturn, 1) := by decide +kernel
theorem dX6_by_0 : decode cX6_by 0 = .ok (.aload_n 0, 1) := by decide +kernel
theorem dX6_by_1 : decode cX6_by 1 = .ok (.iconst 0, 1) := by decide +kernel
theorem dX6_by_2 : decode cX6_by 2 = .ok (.putfield 56, 3) := by decide +kernel
theorem dX6_by_5 : decode cX6_by 5 = .ok (.aload_n 0, 1) := by decide +kernel
theorem dX6_by_6 : decode cX6_by 6 = .ok (.iload_n 1, 1) := by decide +kernel
theorem dX6_by_7 : decode cX6_by 7 = .ok (.iload_n 2, 1) := by decide +kernel
theorem dX6_by_8 : decode cX6_by 8 = .ok (.invokevirtual 163, 3) := by decide +kernel
theorem dX6_by_11 : decode cX6_by 11 = .ok (.ifCond .eq 19, 3) := by decide +kernel
theorem dX6_by_14 : decode cX6_by 14 = .ok (.aload_n 0, 1) := by decide +kernel
theorem dX6_by_15 : decode cX6_by 15 = .ok (.iload_n 1, 1) := by decide +kernel
theorem dX6_by_16 : decode cX6_by 16 = .ok (.iload_n 2, 1) := by decide +kernel
theorem dX6_by_17 : decode cX6_by 17 = .ok (.bipush (-9), 2) := by decide +kernel
theorem dX6_by_19 : decode cX6_by 19 = .ok (.invokevirtual 155, 3) := by decide +kernel
theorem dX6_by_22 : decode cX6_by 22 = .ok (.aload_n 0, 1) := by decide +kernel
theorem dX6_by_23 : decode cX6_by 23 = .ok (.invokevirtual 159, 3) := by decide +kernel
theorem dX6_by_26 : decode cX6_by 26 = .ok (.iand, 1) := by decide +kernel
theorem dX6_by_27 : decode cX6_by 27 = .ok (.goto 4, 3) := by decide +kernel
theorem dX6_by_30 : decode cX6_by 30 = .ok (.iconst (-1), 1) := by decide +kernel
theorem dX6_by_31 : decode cX6_by 31 = .ok (.ireturn, 1) := by decide +kernel
theorem dX6_lights_0 : decode cX6_lights 0 = .ok (.aload_n 0, 1) := by decide +kernel
theorem dX6_lights_1 : decode cX6_lights 1 = .ok (.iconst 0, 1) := by decide +kernel
theorem dX6_lights_2 : decode cX6_lights 2 = .ok (.putfield 56, 3) := by decide +kernel
theorem dX6_lights_5 : decode cX6_lights 5 = .ok (.aload_n 0, 1) := by decide +kernel
theorem dX6_lights_6 : decode cX6_lights 6 = .ok (.iload_n 1, 1) := by decide +kernel
theorem dX6_lights_7 : decode cX6_lights 7 = .ok (.invokevirtual 141, 3) := by decide +kernel
theorem dX6_lights_10 : decode cX6_lights 10 = .ok (.ifCond .ne 5, 3) := by decide +kernel
theorem dX6_lights_13 : decode cX6_lights 13 = .ok (.iconst (-1), 1) := by decide +kernel
theorem dX6_lights_14 : decode cX6_lights 14 = .ok (.ireturn, 1) := by decide +kernel
theorem dX6_lights_15 : decode cX6_lights 15 = .ok (.iconst 0, 1) := by decide +kernel
theorem dX6_lights_16 : decode cX6_lights 16 = .ok (.istore_n 2, 1) := by decide +kernel
theorem dX6_lights_17 : decode cX6_lights 17 = .ok (.iconst 0, 1) := by decide +kernel
theorem dX6_lights_18 : decode cX6_lights 18 = .ok (.istore_n 3, 1) := by decide +kernel
theorem dX6_lights_19 : decode cX6_lights 19 = .ok (.iload_n 3, 1) := by decide +kernel
theorem dX6_lights_20 : decode cX6_lights 20 = .ok (.aload_n 0, 1) := by decide +kernel
theorem dX6_lights_21 : decode cX6_lights 21 = .ok (.getfield 60, 3) := by decide +kernel
theorem dX6_lights_24 : decode cX6_lights 24 = .ok (.aload_n 0, 1) := by decide +kernel
theorem dX6_lights_25 : decode cX6_lights 25 = .ok (.getfield 67, 3) := by decide +kernel
theorem dX6_lights_28 : decode cX6_lights 28 = .ok (.imul, 1) := by decide +kernel
theorem dX6_lights_29 : decode cX6_lights 29 = .ok (.if_icmp .ge 39, 3) := by decide +kernel
theorem dX6_lights_32 : decode cX6_lights 32 = .ok (.iload_n 2, 1) := by decide +kernel
theorem dX6_lights_33 : decode cX6_lights 33 = .ok (.aload_n 0, 1) := by decide +kernel
theorem dX6_lights_34 : decode cX6_lights 34 = .ok (.iload_n 1, 1) := by decide +kernel
theorem dX6_lights_35 : decode cX6_lights 35 = .ok (.iload_n 3, 1) := by decide +kernel
theorem dX6_lights_36 : decode cX6_lights 36 = .ok (.aload_n 0, 1) := by decide +kernel
theorem dX6_lights_37 : decode cX6_lights 37 = .ok (.getfield 60, 3) := by decide +kernel
theorem dX6_lights_40 : decode cX6_lights 40 = .ok (.irem, 1) := by decide +kernel
theorem dX6_lights_41 : decode cX6_lights 41 = .ok (.iload_n 3, 1) := by decide +kernel
theorem dX6_lights_42 : decode cX6_lights 42 = .ok (.aload_n 0, 1) := by decide +kernel
theorem dX6_lights_43 : decode cX6_lights 43 = .ok (.getfield 60, 3) := by decide +kernel
theorem dX6_lights_46 : decode cX6_lights 46 = .ok (.idiv, 1) := by decide +kernel
theorem dX6_lights_47 : decode cX6_lights 47 = .ok (.bipush (-9), 2) := by decide +kernel
theorem dX6_lights_49 : decode cX6_lights 49 = .ok (.invokevirtual 151, 3) := by decide +kernel
theorem dX6_lights_52 : decode cX6_lights 52 = .ok (.ifCond .eq 7, 3) := by decide +kernel
theorem dX6_lights_55 : decode cX6_lights 55 = .ok (.iconst 1, 1) := by decide +kernel
theorem dX6_lights_56 : decode cX6_lights 56 = .ok (.goto 4, 3) := by decide +kernel
theorem dX6_lights_59 : decode cX6_lights 59 = .ok (.iconst 0, 1) := by decide +kernel
theorem dX6_lights_60 : decode cX6_lights 60 = .ok (.iadd, 1) := by decide +kernel
theorem dX6_lights_61 : decode cX6_lights 61 = .ok (.istore_n 2, 1) := by decide +kernel
theorem dX6_lights_62 : decode cX6_lights 62 = .ok (.iinc 3 1, 3) := by decide +kernel
theorem dX6_lights_65 : decode cX6_lights 65 = .ok (.goto (-46), 3) := by decide +kernel
theorem dX6_lights_68 : decode cX6_lights 68 = .ok (.iload_n 2, 1) := by decide +kernel
theorem dX6_lights_69 : decode cX6_lights 69 = .ok (.ireturn, 1) := by decide +kernel
theorem dX6_all_0 : decode cX6_all 0 = .ok (.aload_n 0, 1) := by decide +kernel
theorem dX6_all_1 : decode cX6_all 1 = .ok (.iconst 0, 1) := by decide +kernel
theorem dX6_all_2 : decode cX6_all 2 = .ok (.putfield 56, 3) := by decide +kernel
theorem dX6_all_5 : decode cX6_all 5 = .ok (.aload_n 0, 1) := by decide +kernel
theorem dX6_all_6 : decode cX6_all 6 = .ok (.bipush (-9), 2) := by decide +kernel
theorem dX6_all_8 : decode cX6_all 8 = .ok (.invokevirtual 166, 3) := by decide +kernel
theorem dX6_all_11 : decode cX6_all 11 = .ok (.ireturn, 1) := by decide +kernel
theorem dX6_divisor_0 : decode cX6_divisor 0 = .ok (.iload_n 0, 1) := by decide +kernel
theorem dX6_divisor_1 : decode cX6_divisor 1 = .ok (.invokestatic 170, 3) := by decide +kernel
theorem dX6_divisor_4 : decode cX6_divisor 4 = .ok (.istore_n 2, 1) := by decide +kernel
theorem dX6_divisor_5 : decode cX6_divisor 5 = .ok (.iload_n 1, 1) := by decide +kernel
theorem dX6_divisor_6 : decode cX6_divisor 6 = .ok (.invokestatic 170, 3) := by decide +kernel
theorem dX6_divisor_9 : decode cX6_divisor 9 = .ok (.istore_n 3, 1) := by decide +kernel
theorem dX6_divisor_10 : decode cX6_divisor 10 = .ok (.iload_n 3, 1) := by decide +kernel
theorem dX6_divisor_11 : decode cX6_divisor 11 = .ok (.ifCond .eq 16, 3) := by decide +kernel
theorem dX6_divisor_14 : decode cX6_divisor 14 = .ok (.iload_n 2, 1) := by decide +kernel
theorem dX6_divisor_15 : decode cX6_divisor 15 = .ok (.iload_n 3, 1) := by decide +kernel
theorem dX6_divisor_16 : decode cX6_divisor 16 = .ok (.irem, 1) := by decide +kernel
theorem dX6_divisor_17 : decode cX6_divisor 17 = .ok (.istore 4, 2) := by decide +kernel
theorem dX6_divisor_19 : decode cX6_divisor 19 = .ok (.iload_n 3, 1) := by decide +kernel
theorem dX6_divisor_20 : decode cX6_divisor 20 = .ok (.istore_n 2, 1) := by decide +kernel
theorem dX6_divisor_21 : decode cX6_divisor 21 = .ok (.iload 4, 2) := by decide +kernel
theorem dX6_divisor_23 : decode cX6_divisor 23 = .ok (.istore_n 3, 1) := by decide +kernel
theorem dX6_divisor_24 : decode cX6_divisor 24 = .ok (.goto (-14), 3) := by decide +kernel
theorem dX6_divisor_27 : decode cX6_divisor 27 = .ok (.iload_n 2, 1) := by decide +kernel
theorem dX6_divisor_28 : decode cX6_divisor 28 = .ok (.ireturn, 1) := by decide +kernel
theorem dX6_isAhead_0 : decode cX6_isAhead 0 = .ok (.iload_n 1, 1) := by decide +kernel
theorem dX6_isAhead_1 : decode cX6_isAhead 1 = .ok (.ifCond .le 7, 3) := by decide +kernel
theorem dX6_isAhead_4 : decode cX6_isAhead 4 = .ok (.iconst 1, 1) := by decide +kernel
theorem dX6_isAhead_5 : decode cX6_isAhead 5 = .ok (.goto 4, 3) := by decide +kernel
theorem dX6_isAhead_8 : decode cX6_isAhead 8 = .ok (.iconst 0, 1) := by decide +kernel
theorem dX6_isAhead_9 : decode cX6_isAhead 9 = .ok (.iload_n 3, 1) := by decide +kernel
theorem dX6_isAhead_10 : decode cX6_isAhead 10 = .ok (.ifCond .le 7, 3) := by decide +kernel
theorem dX6_isAhead_13 : decode cX6_isAhead 13 = .ok (.iconst 1, 1) := by decide +kernel
theorem dX6_isAhead_14 : decode cX6_isAhead 14 = .ok (.goto 4, 3) := by decide +kernel
theorem dX6_isAhead_17 : decode cX6_isAhead 17 = .ok (.iconst 0, 1) := by decide +kernel
theorem dX6_isAhead_18 : decode cX6_isAhead 18 = .ok (.if_icmp .eq 13, 3) := by decide +kernel
theorem dX6_isAhead_21 : decode cX6_isAhead 21 = .ok (.iload_n 1, 1) := by decide +kernel
theorem dX6_isAhead_22 : decode cX6_isAhead 22 = .ok (.ifCond .le 7, 3) := by decide +kernel
theorem dX6_isAhead_25 : decode cX6_isAhead 25 = .ok (.iconst 1, 1) := by decide +kernel
theorem dX6_isAhead_26 : decode cX6_isAhead 26 = .ok (.goto 4, 3) := by decide +kernel
theorem dX6_isAhead_29 : decode cX6_isAhead 29 = .ok (.iconst 0, 1) := by decide +kernel
theorem dX6_isAhead_30 : decode cX6_isAhead 30 = .ok (.ireturn, 1) := by decide +kernel
theorem dX6_isAhead_31 : decode cX6_isAhead 31 = .ok (.iload_n 0, 1) := by decide +kernel
theorem dX6_isAhead_32 : decode cX6_isAhead 32 = .ok (.iload_n 3, 1) := by decide +kernel
theorem dX6_isAhead_33 : decode cX6_isAhead 33 = .ok (.imul, 1) := by decide +kernel
theorem dX6_isAhead_34 : decode cX6_isAhead 34 = .ok (.iload_n 1, 1) := by decide +kernel
theorem dX6_isAhead_35 : decode cX6_isAhead 35 = .ok (.iload_n 2, 1) := by decide +kernel
theorem dX6_isAhead_36 : decode cX6_isAhead 36 = .ok (.imul, 1) := by decide +kernel
theorem dX6_isAhead_37 : decode cX6_isAhead 37 = .ok (.isub, 1) := by decide +kernel
theorem dX6_isAhead_38 : decode cX6_isAhead 38 = .ok (.ifCond .le 7, 3) := by decide +kernel
theorem dX6_isAhead_41 : decode cX6_isAhead 41 = .ok (.iconst 1, 1) := by decide +kernel
theorem dX6_isAhead_42 : decode cX6_isAhead 42 = .ok (.goto 4, 3) := by decide +kernel
theorem dX6_isAhead_45 : decode cX6_isAhead 45 = .ok (.iconst 0, 1) := by decide +kernel
theorem dX6_isAhead_46 : decode cX6_isAhead 46 = .ok (.ireturn, 1) := by decide +kernel
theorem dX6_comes_0 : decode cX6_comes 0 = .ok (.iconst 2, 1) := by decide +kernel
theorem dX6_comes_1 : decode cX6_comes 1 = .ok (.iload_n 2, 1) := by decide +kernel
theorem dX6_comes_2 : decode cX6_comes 2 = .ok (.imul, 1) := by decide +kernel
theorem dX6_comes_3 : decode cX6_comes 3 = .ok (.iconst 2, 1) := by decide +kernel
theorem dX6_comes_4 : decode cX6_comes 4 = .ok (.aload_n 0, 1) := by decide +kernel
theorem dX6_comes_5 : decode cX6_comes 5 = .ok (.iload_n 1, 1) := by decide +kernel
theorem dX6_comes_6 : decode cX6_comes 6 = .ok (.iconst 0, 1) := by decide +kernel
theorem dX6_comes_7 : decode cX6_comes 7 = .ok (.invokevirtual 70, 3) := by decide +kernel
theorem dX6_comes_10 : decode cX6_comes 10 = .ok (.imul, 1) := by decide +kernel
theorem dX6_comes_11 : decode cX6_comes 11 = .ok (.isub, 1) := by decide +kernel
theorem dX6_comes_12 : decode cX6_comes 12 = .ok (.iconst 1, 1) := by decide +kernel
theorem dX6_comes_13 : decode cX6_comes 13 = .ok (.isub, 1) := by decide +kernel
theorem dX6_comes_14 : decode cX6_comes 14 = .ok (.istore 4, 2) := by decide +kernel
theorem dX6_comes_16 : decode cX6_comes 16 = .ok (.iconst 2, 1) := by decide +kernel
theorem dX6_comes_17 : decode cX6_comes 17 = .ok (.iload_n 3, 1) := by decide +kernel
theorem dX6_comes_18 : decode cX6_comes 18 = .ok (.imul, 1) := by decide +kernel
theorem dX6_comes_19 : decode cX6_comes 19 = .ok (.iconst 2, 1) := by decide +kernel
theorem dX6_comes_20 : decode cX6_comes 20 = .ok (.aload_n 0, 1) := by decide +kernel
theorem dX6_comes_21 : decode cX6_comes 21 = .ok (.iload_n 1, 1) := by decide +kernel
theorem dX6_comes_22 : decode cX6_comes 22 = .ok (.iconst 1, 1) := by decide +kernel
theorem dX6_comes_23 : decode cX6_comes 23 = .ok (.invokevirtual 70, 3) := by decide +kernel
theorem dX6_comes_26 : decode cX6_comes 26 = .ok (.imul, 1) := by decide +kernel
theorem dX6_comes_27 : decode cX6_comes 27 = .ok (.isub, 1) := by decide +kernel
theorem dX6_comes_28 : decode cX6_comes 28 = .ok (.iconst 1, 1) := by decide +kernel
theorem dX6_comes_29 : decode cX6_comes 29 = .ok (.isub, 1) := by decide +kernel
theorem dX6_comes_30 : decode cX6_comes 30 = .ok (.istore 5, 2) := by decide +kernel
theorem dX6_comes_32 : decode cX6_comes 32 = .ok (.iload 4, 2) := by decide +kernel
theorem dX6_comes_34 : decode cX6_comes 34 = .ok (.iload 5, 2) := by decide +kernel
theorem dX6_comes_36 : decode cX6_comes 36 = .ok (.invokestatic 173, 3) := by decide +kernel
theorem dX6_comes_39 : decode cX6_comes 39 = .ok (.istore 6, 2) := by decide +kernel
theorem dX6_comes_41 : decode cX6_comes 41 = .ok (.iload 4, 2) := by decide +kernel
theorem dX6_comes_43 : decode cX6_comes 43 = .ok (.iload 6, 2) := by decide +kernel
theorem dX6_comes_45 : decode cX6_comes 45 = .ok (.idiv, 1) := by decide +kernel
theorem dX6_comes_46 : decode cX6_comes 46 = .ok (.istore 4, 2) := by decide +kernel
theorem dX6_comes_48 : decode cX6_comes 48 = .ok (.iload 5, 2) := by decide +kernel
theorem dX6_comes_50 : decode cX6_comes 50 = .ok (.iload 6, 2) := by decide +kernel
theorem dX6_comes_52 : decode cX6_comes 52 = .ok (.idiv, 1) := by decide +kernel
theorem dX6_comes_53 : decode cX6_comes 53 = .ok (.istore 5, 2) := by decide +kernel
theorem dX6_comes_55 : decode cX6_comes 55 = .ok (.iconst 0, 1) := by decide +kernel
theorem dX6_comes_56 : decode cX6_comes 56 = .ok (.istore 7, 2) := by decide +kernel
theorem dX6_comes_58 : decode cX6_comes 58 = .ok (.iload 7, 2) := by decide +kernel
theorem dX6_comes_60 : decode cX6_comes 60 = .ok (.aload_n 0, 1) := by decide +kernel
theorem dX6_comes_61 : decode cX6_comes 61 = .ok (.getfield 176, 3) := by decide +kernel
theorem dX6_comes_64 : decode cX6_comes 64 = .ok (.if_icmp .ge 33, 3) := by decide +kernel
theorem dX6_comes_67 : decode cX6_comes 67 = .ok (.aload_n 0, 1) := by decide +kernel
theorem dX6_comes_68 : decode cX6_comes 68 = .ok (.getfield 41, 3) := by decide +kernel
theorem dX6_comes_71 : decode cX6_comes 71 = .ok (.iload 7, 2) := by decide +kernel
theorem dX6_comes_73 : decode cX6_comes 73 = .ok (.iaload, 1) := by decide +kernel
theorem dX6_comes_74 : decode cX6_comes 74 = .ok (.aload_n 0, 1) := by decide +kernel
theorem dX6_comes_75 : decode cX6_comes 75 = .ok (.getfield 44, 3) := by decide +kernel
theorem dX6_comes_78 : decode cX6_comes 78 = .ok (.iload 7, 2) := by decide +kernel
theorem dX6_comes_80 : decode cX6_comes 80 = .ok (.iaload, 1) := by decide +kernel
theorem dX6_comes_81 : decode cX6_comes 81 = .ok (.iload 4, 2) := by decide +kernel
theorem dX6_comes_83 : decode cX6_comes 83 = .ok (.iload 5, 2) := by decide +kernel
theorem dX6_comes_85 : decode cX6_comes 85 = .ok (.invokestatic 179, 3) := by decide +kernel
theorem dX6_comes_88 : decode cX6_comes 88 = .ok (.ifCond .eq 9, 3) := by decide +kernel
theorem dX6_comes_91 : decode cX6_comes 91 = .ok (.iinc 7 1, 3) := by decide +kernel
theorem dX6_comes_94 : decode cX6_comes 94 = .ok (.goto (-36), 3) := by decide +kernel
theorem dX6_comes_97 : decode cX6_comes 97 = .ok (.iload 7, 2) := by decide +kernel
theorem dX6_comes_99 : decode cX6_comes 99 = .ok (.aload_n 0, 1) := by decide +kernel
theorem dX6_comes_100 : decode cX6_comes 100 = .ok (.getfield 176, 3) := by decide +kernel
theorem dX6_comes_103 : decode cX6_comes 103 = .ok (.if_icmp .ge 28, 3) := by decide +kernel
theorem dX6_comes_106 : decode cX6_comes 106 = .ok (.aload_n 0, 1) := by decide +kernel
theorem dX6_comes_107 : decode cX6_comes 107 = .ok (.getfield 41, 3) := by decide +kernel
theorem dX6_comes_110 : decode cX6_comes 110 = .ok (.iload 7, 2) := by decide +kernel
theorem dX6_comes_112 : decode cX6_comes 112 = .ok (.iaload, 1) := by decide +kernel
theorem dX6_comes_113 : decode cX6_comes 113 = .ok (.iload 4, 2) := by decide +kernel
theorem dX6_comes_115 : decode cX6_comes 115 = .ok (.if_icmp .ne 16, 3) := by decide +kernel
theorem dX6_comes_118 : decode cX6_comes 118 = .ok (.aload_n 0, 1) := by decide +kernel
theorem dX6_comes_119 : decode cX6_comes 119 = .ok (.getfield 44, 3) := by decide +kernel
theorem dX6_comes_122 : decode cX6_comes 122 = .ok (.iload 7, 2) := by decide +kernel
theorem dX6_comes_124 : decode cX6_comes 124 = .ok (.iaload, 1) := by decide +kernel
theorem dX6_comes_125 : decode cX6_comes 125 = .ok (.iload 5, 2) := by decide +kernel
theorem dX6_comes_127 : decode cX6_comes 127 = .ok (.if_icmp .ne 4, 3) := by decide +kernel
theorem dX6_comes_130 : decode cX6_comes 130 = .ok (.return_, 1) := by decide +kernel
theorem dX6_comes_131 : decode cX6_comes 131 = .ok (.aload_n 0, 1) := by decide +kernel
theorem dX6_comes_132 : decode cX6_comes 132 = .ok (.getfield 176, 3) := by decide +kernel
theorem dX6_comes_135 : decode cX6_comes 135 = .ok (.istore 8, 2) := by decide +kernel
theorem dX6_comes_137 : decode cX6_comes 137 = .ok (.iload 8, 2) := by decide +kernel
theorem dX6_comes_139 : decode cX6_comes 139 = .ok (.iload 7, 2) := by decide +kernel
theorem dX6_comes_141 : decode cX6_comes 141 = .ok (.if_icmp .le 41, 3) := by decide +kernel
theorem dX6_comes_144 : decode cX6_comes 144 = .ok (.aload_n 0, 1) := by decide +kernel
theorem dX6_comes_145 : decode cX6_comes 145 = .ok (.getfield 41, 3) := by decide +kernel
theorem dX6_comes_148 : decode cX6_comes 148 = .ok (.iload 8, 2) := by decide +kernel
theorem dX6_comes_150 : decode cX6_comes 150 = .ok (.aload_n 0, 1) := by decide +kernel
theorem dX6_comes_151 : decode cX6_comes 151 = .ok (.getfield 41, 3) := by decide +kernel
theorem dX6_comes_154 : decode cX6_comes 154 = .ok (.iload 8, 2) := by decide +kernel
theorem dX6_comes_156 : decode cX6_comes 156 = .ok (.iconst 1, 1) := by decide +kernel
theorem dX6_comes_157 : decode cX6_comes 157 = .ok (.isub, 1) := by decide +kernel
theorem dX6_comes_158 : decode cX6_comes 158 = .ok (.iaload, 1) := by decide +kernel
theorem dX6_comes_159 : decode cX6_comes 159 = .ok (.iastore, 1) := by decide +kernel
theorem dX6_comes_160 : decode cX6_comes 160 = .ok (.aload_n 0, 1) := by decide +kernel
theorem dX6_comes_161 : decode cX6_comes 161 = .ok (.getfield 44, 3) := by decide +kernel
theorem dX6_comes_164 : decode cX6_comes 164 = .ok (.iload 8, 2) := by decide +kernel
theorem dX6_comes_166 : decode cX6_comes 166 = .ok (.aload_n 0, 1) := by decide +kernel
theorem dX6_comes_167 : decode cX6_comes 167 = .ok (.getfield 44, 3) := by decide +kernel
theorem dX6_comes_170 : decode cX6_comes 170 = .ok (.iload 8, 2) := by decide +kernel
theorem dX6_comes_172 : decode cX6_comes 172 = .ok (.iconst 1, 1) := by decide +kernel
theorem dX6_comes_173 : decode cX6_comes 173 = .ok (.isub, 1) := by decide +kernel
theorem dX6_comes_174 : decode cX6_comes 174 = .ok (.iaload, 1) := by decide +kernel
theorem dX6_comes_175 : decode cX6_comes 175 = .ok (.iastore, 1) := by decide +kernel
theorem dX6_comes_176 : decode cX6_comes 176 = .ok (.iinc 8 (-1), 3) := by decide +kernel
theorem dX6_comes_179 : decode cX6_comes 179 = .ok (.goto (-42), 3) := by decide +kernel
theorem dX6_comes_182 : decode cX6_comes 182 = .ok (.aload_n 0, 1) := by decide +kernel
theorem dX6_comes_183 : decode cX6_comes 183 = .ok (.getfield 41, 3) := by decide +kernel
theorem dX6_comes_186 : decode cX6_comes 186 = .ok (.iload 7, 2) := by decide +kernel
theorem dX6_comes_188 : decode cX6_comes 188 = .ok (.iload 4, 2) := by decide +kernel
theorem dX6_comes_190 : decode cX6_comes 190 = .ok (.iastore, 1) := by decide +kernel
theorem dX6_comes_191 : decode cX6_comes 191 = .ok (.aload_n 0, 1) := by decide +kernel
theorem dX6_comes_192 : decode cX6_comes 192 = .ok (.getfield 44, 3) := by decide +kernel
theorem dX6_comes_195 : decode cX6_comes 195 = .ok (.iload 7, 2) := by decide +kernel
theorem dX6_comes_197 : decode cX6_comes 197 = .ok (.iload 5, 2) := by decide +kernel
theorem dX6_comes_199 : decode cX6_comes 199 = .ok (.iastore, 1) := by decide +kernel
theorem dX6_comes_200 : decode cX6_comes 200 = .ok (.aload_n 0, 1) := by decide +kernel
theorem dX6_comes_201 : decode cX6_comes 201 = .ok (.dup, 1) := by decide +kernel
theorem dX6_comes_202 : decode cX6_comes 202 = .ok (.getfield 176, 3) := by decide +kernel
theorem dX6_comes_205 : decode cX6_comes 205 = .ok (.iconst 1, 1) := by decide +kernel
theorem dX6_comes_206 : decode cX6_comes 206 = .ok (.iadd, 1) := by decide +kernel
theorem dX6_comes_207 : decode cX6_comes 207 = .ok (.putfield 176, 3) := by decide +kernel
theorem dX6_comes_210 : decode cX6_comes 210 = .ok (.return_, 1) := by decide +kernel
theorem dX6_laysEvents_0 : decode cX6_laysEvents 0 = .ok (.aload_n 0, 1) := by decide +kernel
theorem dX6_laysEvents_1 : decode cX6_laysEvents 1 = .ok (.iconst 0, 1) := by decide +kernel
theorem dX6_laysEvents_2 : decode cX6_laysEvents 2 = .ok (.putfield 176, 3) := by decide +kernel
theorem dX6_laysEvents_5 : decode cX6_laysEvents 5 = .ok (.iconst 0, 1) := by decide +kernel
theorem dX6_laysEvents_6 : decode cX6_laysEvents 6 = .ok (.istore_n 2, 1) := by decide +kernel
theorem dX6_laysEvents_7 : decode cX6_laysEvents 7 = .ok (.iload_n 2, 1) := by decide +kernel
theorem dX6_laysEvents_8 : decode cX6_laysEvents 8 = .ok (.aload_n 0, 1) := by decide +kernel
theorem dX6_laysEvents_9 : decode cX6_laysEvents 9 = .ok (.getfield 7, 3) := by decide +kernel
theorem dX6_laysEvents_12 : decode cX6_laysEvents 12 = .ok (.iconst 1, 1) := by decide +kernel
theorem dX6_laysEvents_13 : decode cX6_laysEvents 13 = .ok (.iaload, 1) := by decide +kernel
theorem dX6_laysEvents_14 : decode cX6_laysEvents 14 = .ok (.if_icmp .ge 199, 3) := by decide +kernel
theorem dX6_laysEvents_17 : decode cX6_laysEvents 17 = .ok (.aload_n 0, 1) := by decide +kernel
theorem dX6_laysEvents_18 : decode cX6_laysEvents 18 = .ok (.iload_n 2, 1) := by decide +kernel
theorem dX6_laysEvents_19 : decode cX6_laysEvents 19 = .ok (.iconst 0, 1) := by decide +kernel
theorem dX6_laysEvents_20 : decode cX6_laysEvents 20 = .ok (.invokevirtual 138, 3) := by decide +kernel
theorem dX6_laysEvents_23 : decode cX6_laysEvents 23 = .ok (.istore_n 3, 1) := by decide +kernel
theorem dX6_laysEvents_24 : decode cX6_laysEvents 24 = .ok (.aload_n 0, 1) := by decide +kernel
theorem dX6_laysEvents_25 : decode cX6_laysEvents 25 = .ok (.iload_n 2, 1) := by decide +kernel
theorem dX6_laysEvents_26 : decode cX6_laysEvents 26 = .ok (.iconst 1, 1) := by decide +kernel
theorem dX6_laysEvents_27 : decode cX6_laysEvents 27 = .ok (.invokevirtual 138, 3) := by decide +kernel
theorem dX6_laysEvents_30 : decode cX6_laysEvents 30 = .ok (.istore 4, 2) := by decide +kernel
theorem dX6_laysEvents_32 : decode cX6_laysEvents 32 = .ok (.aload_n 0, 1) := by decide +kernel
theorem dX6_laysEvents_33 : decode cX6_laysEvents 33 = .ok (.iload_n 2, 1) := by decide +kernel
theorem dX6_laysEvents_34 : decode cX6_laysEvents 34 = .ok (.iconst 2, 1) := by decide +kernel
theorem dX6_laysEvents_35 : decode cX6_laysEvents 35 = .ok (.invokevirtual 138, 3) := by decide +kernel
theorem dX6_laysEvents_38 : decode cX6_laysEvents 38 = .ok (.istore 5, 2) := by decide +kernel
theorem dX6_laysEvents_40 : decode cX6_laysEvents 40 = .ok (.aload_n 0, 1) := by decide +kernel
theorem dX6_laysEvents_41 : decode cX6_laysEvents 41 = .ok (.iload_n 2, 1) := by decide +kernel
theorem dX6_laysEvents_42 : decode cX6_laysEvents 42 = .ok (.iconst 3, 1) := by decide +kernel
theorem dX6_laysEvents_43 : decode cX6_laysEvents 43 = .ok (.invokevirtual 138, 3) := by decide +kernel
theorem dX6_laysEvents_46 : decode cX6_laysEvents 46 = .ok (.iconst 1, 1) := by decide +kernel
theorem dX6_laysEvents_47 : decode cX6_laysEvents 47 = .ok (.if_icmp .ne 7, 3) := by decide +kernel
theorem dX6_laysEvents_50 : decode cX6_laysEvents 50 = .ok (.iconst 1, 1) := by decide +kernel
theorem dX6_laysEvents_51 : decode cX6_laysEvents 51 = .ok (.goto 4, 3) := by decide +kernel
theorem dX6_laysEvents_54 : decode cX6_laysEvents 54 = .ok (.iconst 0, 1) := by decide +kernel
theorem dX6_laysEvents_55 : decode cX6_laysEvents 55 = .ok (.istore 6, 2) := by decide +kernel
theorem dX6_laysEvents_57 : decode cX6_laysEvents 57 = .ok (.aload_n 0, 1) := by decide +kernel
theorem dX6_laysEvents_58 : decode cX6_laysEvents 58 = .ok (.iload_n 1, 1) := by decide +kernel
theorem dX6_laysEvents_59 : decode cX6_laysEvents 59 = .ok (.iload_n 3, 1) := by decide +kernel
theorem dX6_laysEvents_60 : decode cX6_laysEvents 60 = .ok (.iload 4, 2) := by decide +kernel
theorem dX6_laysEvents_62 : decode cX6_laysEvents 62 = .ok (.invokevirtual 182, 3) := by decide +kernel
theorem dX6_laysEvents_65 : decode cX6_laysEvents 65 = .ok (.aload_n 0, 1) := by decide +kernel
theorem dX6_laysEvents_66 : decode cX6_laysEvents 66 = .ok (.iload_n 1, 1) := by decide +kernel
theorem dX6_laysEvents_67 : decode cX6_laysEvents 67 = .ok (.iload 6, 2) := by decide +kernel
theorem dX6_laysEvents_69 : decode cX6_laysEvents 69 = .ok (.ifCond .eq 7, 3) := by decide +kernel
theorem dX6_laysEvents_72 : decode cX6_laysEvents 72 = .ok (.iload_n 3, 1) := by decide +kernel
theorem dX6_laysEvents_73 : decode cX6_laysEvents 73 = .ok (.goto 7, 3) := by decide +kernel
theorem dX6_laysEvents_76 : decode cX6_laysEvents 76 = .ok (.iload_n 3, 1) := by decide +kernel
theorem dX6_laysEvents_77 : decode cX6_laysEvents 77 = .ok (.iload 5, 2) := by decide +kernel
theorem dX6_laysEvents_79 : decode cX6_laysEvents 79 = .ok (.iadd, 1) := by decide +kernel
theorem dX6_laysEvents_80 : decode cX6_laysEvents 80 = .ok (.iload 6, 2) := by decide +kernel
theorem dX6_laysEvents_82 : decode cX6_laysEvents 82 = .ok (.ifCond .eq 11, 3) := by decide +kernel
theorem dX6_laysEvents_85 : decode cX6_laysEvents 85 = .ok (.iload 4, 2) := by decide +kernel
theorem dX6_laysEvents_87 : decode cX6_laysEvents 87 = .ok (.iload 5, 2) := by decide +kernel
theorem dX6_laysEvents_89 : decode cX6_laysEvents 89 = .ok (.iadd, 1) := by decide +kernel
theorem dX6_laysEvents_90 : decode cX6_laysEvents 90 = .ok (.goto 5, 3) := by decide +kernel
theorem dX6_laysEvents_93 : decode cX6_laysEvents 93 = .ok (.iload 4, 2) := by decide +kernel
theorem dX6_laysEvents_95 : decode cX6_laysEvents 95 = .ok (.invokevirtual 182, 3) := by decide +kernel
theorem dX6_laysEvents_98 : decode cX6_laysEvents 98 = .ok (.iconst 0, 1) := by decide +kernel
theorem dX6_laysEvents_99 : decode cX6_laysEvents 99 = .ok (.istore 7, 2) := by decide +kernel
theorem dX6_laysEvents_101 : decode cX6_laysEvents 101 = .ok (.iload 7, 2) := by decide +kernel
theorem dX6_laysEvents_103 : decode cX6_laysEvents 103 = .ok (.aload_n 0, 1) := by decide +kernel
theorem dX6_laysEvents_104 : decode cX6_laysEvents 104 = .ok (.getfield 7, 3) := by decide +kernel
theorem dX6_laysEvents_107 : decode cX6_laysEvents 107 = .ok (.iconst 1, 1) := by decide +kernel
theorem dX6_laysEvents_108 : decode cX6_laysEvents 108 = .ok (.iaload, 1) := by decide +kernel
theorem dX6_laysEvents_109 : decode cX6_laysEvents 109 = .ok (.if_icmp .ge 98, 3) := by decide +kernel
theorem dX6_laysEvents_112 : decode cX6_laysEvents 112 = .ok (.iload 6, 2) := by decide +kernel
theorem dX6_laysEvents_114 : decode cX6_laysEvents 114 = .ok (.ifCond .eq 93, 3) := by decide +kernel
theorem dX6_laysEvents_117 : decode cX6_laysEvents 117 = .ok (.aload_n 0, 1) := by decide +kernel
theorem dX6_laysEvents_118 : decode cX6_laysEvents 118 = .ok (.iload 7, 2) := by decide +kernel
theorem dX6_laysEvents_120 : decode cX6_laysEvents 120 = .ok (.iconst 3, 1) := by decide +kernel
theorem dX6_laysEvents_121 : decode cX6_laysEvents 121 = .ok (.invokevirtual 138, 3) := by decide +kernel
theorem dX6_laysEvents_124 : decode cX6_laysEvents 124 = .ok (.ifCond .ne 7, 3) := by decide +kernel
theorem dX6_laysEvents_127 : decode cX6_laysEvents 127 = .ok (.iconst 1, 1) := by decide +kernel
theorem dX6_laysEvents_128 : decode cX6_laysEvents 128 = .ok (.goto 4, 3) := by decide +kernel
theorem dX6_laysEvents_131 : decode cX6_laysEvents 131 = .ok (.iconst 0, 1) := by decide +kernel
theorem dX6_laysEvents_132 : decode cX6_laysEvents 132 = .ok (.istore 8, 2) := by decide +kernel
theorem dX6_laysEvents_134 : decode cX6_laysEvents 134 = .ok (.iload 8, 2) := by decide +kernel
theorem dX6_laysEvents_136 : decode cX6_laysEvents 136 = .ok (.ifCond .eq 65, 3) := by decide +kernel
theorem dX6_laysEvents_139 : decode cX6_laysEvents 139 = .ok (.iload_n 3, 1) := by decide +kernel
theorem dX6_laysEvents_140 : decode cX6_laysEvents 140 = .ok (.aload_n 0, 1) := by decide +kernel
theorem dX6_laysEvents_141 : decode cX6_laysEvents 141 = .ok (.iload 7, 2) := by decide +kernel
theorem dX6_laysEvents_143 : decode cX6_laysEvents 143 = .ok (.iconst 0, 1) := by decide +kernel
theorem dX6_laysEvents_144 : decode cX6_laysEvents 144 = .ok (.invokevirtual 138, 3) := by decide +kernel
theorem dX6_laysEvents_147 : decode cX6_laysEvents 147 = .ok (.aload_n 0, 1) := by decide +kernel
theorem dX6_laysEvents_148 : decode cX6_laysEvents 148 = .ok (.iload 7, 2) := by decide +kernel
theorem dX6_laysEvents_150 : decode cX6_laysEvents 150 = .ok (.iconst 0, 1) := by decide +kernel
theorem dX6_laysEvents_151 : decode cX6_laysEvents 151 = .ok (.invokevirtual 138, 3) := by decide +kernel
theorem dX6_laysEvents_154 : decode cX6_laysEvents 154 = .ok (.aload_n 0, 1) := by decide +kernel
theorem dX6_laysEvents_155 : decode cX6_laysEvents 155 = .ok (.iload 7, 2) := by decide +kernel
theorem dX6_laysEvents_157 : decode cX6_laysEvents 157 = .ok (.iconst 2, 1) := by decide +kernel
theorem dX6_laysEvents_158 : decode cX6_laysEvents 158 = .ok (.invokevirtual 138, 3) := by decide +kernel
theorem dX6_laysEvents_161 : decode cX6_laysEvents 161 = .ok (.iadd, 1) := by decide +kernel
theorem dX6_laysEvents_162 : decode cX6_laysEvents 162 = .ok (.invokestatic 63, 3) := by decide +kernel
theorem dX6_laysEvents_165 : decode cX6_laysEvents 165 = .ok (.ifCond .eq 36, 3) := by decide +kernel
theorem dX6_laysEvents_168 : decode cX6_laysEvents 168 = .ok (.aload_n 0, 1) := by decide +kernel
theorem dX6_laysEvents_169 : decode cX6_laysEvents 169 = .ok (.iload 7, 2) := by decide +kernel
theorem dX6_laysEvents_171 : decode cX6_laysEvents 171 = .ok (.iconst 1, 1) := by decide +kernel
theorem dX6_laysEvents_172 : decode cX6_laysEvents 172 = .ok (.invokevirtual 138, 3) := by decide +kernel
theorem dX6_laysEvents_175 : decode cX6_laysEvents 175 = .ok (.iload 4, 2) := by decide +kernel
theorem dX6_laysEvents_177 : decode cX6_laysEvents 177 = .ok (.iload 4, 2) := by decide +kernel
theorem dX6_laysEvents_179 : decode cX6_laysEvents 179 = .ok (.iload 5, 2) := by decide +kernel
theorem dX6_laysEvents_181 : decode cX6_laysEvents 181 = .ok (.iadd, 1) := by decide +kernel
theorem dX6_laysEvents_182 : decode cX6_laysEvents 182 = .ok (.invokestatic 63, 3) := by decide +kernel
theorem dX6_laysEvents_185 : decode cX6_laysEvents 185 = .ok (.ifCond .eq 16, 3) := by decide +kernel
theorem dX6_laysEvents_188 : decode cX6_laysEvents 188 = .ok (.aload_n 0, 1) := by decide +kernel
theorem dX6_laysEvents_189 : decode cX6_laysEvents 189 = .ok (.iload_n 1, 1) := by decide +kernel
theorem dX6_laysEvents_190 : decode cX6_laysEvents 190 = .ok (.iload_n 3, 1) := by decide +kernel
theorem dX6_laysEvents_191 : decode cX6_laysEvents 191 = .ok (.aload_n 0, 1) := by decide +kernel
theorem dX6_laysEvents_192 : decode cX6_laysEvents 192 = .ok (.iload 7, 2) := by decide +kernel
theorem dX6_laysEvents_194 : decode cX6_laysEvents 194 = .ok (.iconst 1, 1) := by decide +kernel
theorem dX6_laysEvents_195 : decode cX6_laysEvents 195 = .ok (.invokevirtual 138, 3) := by decide +kernel
theorem dX6_laysEvents_198 : decode cX6_laysEvents 198 = .ok (.invokevirtual 182, 3) := by decide +kernel
theorem dX6_laysEvents_201 : decode cX6_laysEvents 201 = .ok (.iinc 7 1, 3) := by decide +kernel
theorem dX6_laysEvents_204 : decode cX6_laysEvents 204 = .ok (.goto (-103), 3) := by decide +kernel
theorem dX6_laysEvents_207 : decode cX6_laysEvents 207 = .ok (.iinc 2 1, 3) := by decide +kernel
theorem dX6_laysEvents_210 : decode cX6_laysEvents 210 = .ok (.goto (-203), 3) := by decide +kernel
theorem dX6_laysEvents_213 : decode cX6_laysEvents 213 = .ok (.return_, 1) := by decide +kernel
theorem dX6_meets_0 : decode cX6_meets 0 = .ok (.aload_n 0, 1) := by decide +kernel
theorem dX6_meets_1 : decode cX6_meets 1 = .ok (.iload_n 2, 1) := by decide +kernel
theorem dX6_meets_2 : decode cX6_meets 2 = .ok (.iconst 3, 1) := by decide +kernel
theorem dX6_meets_3 : decode cX6_meets 3 = .ok (.invokevirtual 138, 3) := by decide +kernel
theorem dX6_meets_6 : decode cX6_meets 6 = .ok (.iconst 1, 1) := by decide +kernel
theorem dX6_meets_7 : decode cX6_meets 7 = .ok (.if_icmp .ne 7, 3) := by decide +kernel
theorem dX6_meets_10 : decode cX6_meets 10 = .ok (.iconst 1, 1) := by decide +kernel
theorem dX6_meets_11 : decode cX6_meets 11 = .ok (.goto 4, 3) := by decide +kernel
theorem dX6_meets_14 : decode cX6_meets 14 = .ok (.iconst 0, 1) := by decide +kernel
theorem dX6_meets_15 : decode cX6_meets 15 = .ok (.istore 5, 2) := by decide +kernel
theorem dX6_meets_17 : decode cX6_meets 17 = .ok (.iload 5, 2) := by decide +kernel
theorem dX6_meets_19 : decode cX6_meets 19 = .ok (.ifCond .eq 25, 3) := by decide +kernel
theorem dX6_meets_22 : decode cX6_meets 22 = .ok (.iconst 2, 1) := by decide +kernel
theorem dX6_meets_23 : decode cX6_meets 23 = .ok (.aload_n 0, 1) := by decide +kernel
theorem dX6_meets_24 : decode cX6_meets 24 = .ok (.iload_n 2, 1) := by decide +kernel
theorem dX6_meets_25 : decode cX6_meets 25 = .ok (.iconst 0, 1) := by decide +kernel
theorem dX6_meets_26 : decode cX6_meets 26 = .ok (.invokevirtual 138, 3) := by decide +kernel
theorem dX6_meets_29 : decode cX6_meets 29 = .ok (.imul, 1) := by decide +kernel
theorem dX6_meets_30 : decode cX6_meets 30 = .ok (.iconst 2, 1) := by decide +kernel
theorem dX6_meets_31 : decode cX6_meets 31 = .ok (.aload_n 0, 1) := by decide +kernel
theorem dX6_meets_32 : decode cX6_meets 32 = .ok (.iload_n 1, 1) := by decide +kernel
theorem dX6_meets_33 : decode cX6_meets 33 = .ok (.iconst 0, 1) := by decide +kernel
theorem dX6_meets_34 : decode cX6_meets 34 = .ok (.invokevirtual 70, 3) := by decide +kernel
theorem dX6_meets_37 : decode cX6_meets 37 = .ok (.imul, 1) := by decide +kernel
theorem dX6_meets_38 : decode cX6_meets 38 = .ok (.isub, 1) := by decide +kernel
theorem dX6_meets_39 : decode cX6_meets 39 = .ok (.iconst 1, 1) := by decide +kernel
theorem dX6_meets_40 : decode cX6_meets 40 = .ok (.isub, 1) := by decide +kernel
theorem dX6_meets_41 : decode cX6_meets 41 = .ok (.goto 22, 3) := by decide +kernel
theorem dX6_meets_44 : decode cX6_meets 44 = .ok (.iconst 2, 1) := by decide +kernel
theorem dX6_meets_45 : decode cX6_meets 45 = .ok (.aload_n 0, 1) := by decide +kernel
theorem dX6_meets_46 : decode cX6_meets 46 = .ok (.iload_n 2, 1) := by decide +kernel
theorem dX6_meets_47 : decode cX6_meets 47 = .ok (.iconst 1, 1) := by decide +kernel
theorem dX6_meets_48 : decode cX6_meets 48 = .ok (.invokevirtual 138, 3) := by decide +kernel
theorem dX6_meets_51 : decode cX6_meets 51 = .ok (.imul, 1) := by decide +kernel
theorem dX6_meets_52 : decode cX6_meets 52 = .ok (.iconst 2, 1) := by decide +kernel
theorem dX6_meets_53 : decode cX6_meets 53 = .ok (.aload_n 0, 1) := by decide +kernel
theorem dX6_meets_54 : decode cX6_meets 54 = .ok (.iload_n 1, 1) := by decide +kernel
theorem dX6_meets_55 : decode cX6_meets 55 = .ok (.iconst 1, 1) := by decide +kernel
theorem dX6_meets_56 : decode cX6_meets 56 = .ok (.invokevirtual 70, 3) := by decide +kernel
theorem dX6_meets_59 : decode cX6_meets 59 = .ok (.imul, 1) := by decide +kernel
theorem dX6_meets_60 : decode cX6_meets 60 = .ok (.isub, 1) := by decide +kernel
theorem dX6_meets_61 : decode cX6_meets 61 = .ok (.iconst 1, 1) := by decide +kernel
theorem dX6_meets_62 : decode cX6_meets 62 = .ok (.isub, 1) := by decide +kernel
theorem dX6_meets_63 : decode cX6_meets 63 = .ok (.istore 6, 2) := by decide +kernel
theorem dX6_meets_65 : decode cX6_meets 65 = .ok (.iload 5, 2) := by decide +kernel
theorem dX6_meets_67 : decode cX6_meets 67 = .ok (.ifCond .eq 7, 3) := by decide +kernel
theorem dX6_meets_70 : decode cX6_meets 70 = .ok (.iload_n 3, 1) := by decide +kernel
theorem dX6_meets_71 : decode cX6_meets 71 = .ok (.goto 5, 3) := by decide +kernel
theorem dX6_meets_74 : decode cX6_meets 74 = .ok (.iload 4, 2) := by decide +kernel
theorem dX6_meets_76 : decode cX6_meets 76 = .ok (.istore 7, 2) := by decide +kernel
theorem dX6_meets_78 : decode cX6_meets 78 = .ok (.iload 5, 2) := by decide +kernel
theorem dX6_meets_80 : decode cX6_meets 80 = .ok (.ifCond .eq 8, 3) := by decide +kernel
theorem dX6_meets_83 : decode cX6_meets 83 = .ok (.iload 4, 2) := by decide +kernel
theorem dX6_meets_85 : decode cX6_meets 85 = .ok (.goto 4, 3) := by decide +kernel
theorem dX6_meets_88 : decode cX6_meets 88 = .ok (.iload_n 3, 1) := by decide +kernel
theorem dX6_meets_89 : decode cX6_meets 89 = .ok (.istore 8, 2) := by decide +kernel
theorem dX6_meets_91 : decode cX6_meets 91 = .ok (.iload 7, 2) := by decide +kernel
theorem dX6_meets_93 : decode cX6_meets 93 = .ok (.ifCond .eq 26, 3) := by decide +kernel
theorem dX6_meets_96 : decode cX6_meets 96 = .ok (.iload 6, 2) := by decide +kernel
theorem dX6_meets_98 : decode cX6_meets 98 = .ok (.ifCond .le 7, 3) := by decide +kernel
theorem dX6_meets_101 : decode cX6_meets 101 = .ok (.iconst 1, 1) := by decide +kernel
theorem dX6_meets_102 : decode cX6_meets 102 = .ok (.goto 4, 3) := by decide +kernel
theorem dX6_meets_105 : decode cX6_meets 105 = .ok (.iconst 0, 1) := by decide +kernel
theorem dX6_meets_106 : decode cX6_meets 106 = .ok (.iload 7, 2) := by decide +kernel
theorem dX6_meets_108 : decode cX6_meets 108 = .ok (.ifCond .le 7, 3) := by decide +kernel
theorem dX6_meets_111 : decode cX6_meets 111 = .ok (.iconst 1, 1) := by decide +kernel
theorem dX6_meets_112 : decode cX6_meets 112 = .ok (.goto 4, 3) := by decide +kernel
theorem dX6_meets_115 : decode cX6_meets 115 = .ok (.iconst 0, 1) := by decide +kernel
theorem dX6_meets_116 : decode cX6_meets 116 = .ok (.if_icmp .eq 5, 3) := by decide +kernel
theorem dX6_meets_119 : decode cX6_meets 119 = .ok (.iconst 0, 1) := by decide +kernel
theorem dX6_meets_120 : decode cX6_meets 120 = .ok (.ireturn, 1) := by decide +kernel
theorem dX6_meets_121 : decode cX6_meets 121 = .ok (.aload_n 0, 1) := by decide +kernel
theorem dX6_meets_122 : decode cX6_meets 122 = .ok (.iload 6, 2) := by decide +kernel
theorem dX6_meets_124 : decode cX6_meets 124 = .ok (.invokestatic 170, 3) := by decide +kernel
theorem dX6_meets_127 : decode cX6_meets 127 = .ok (.putfield 186, 3) := by decide +kernel
theorem dX6_meets_130 : decode cX6_meets 130 = .ok (.aload_n 0, 1) := by decide +kernel
theorem dX6_meets_131 : decode cX6_meets 131 = .ok (.iload 7, 2) := by decide +kernel
theorem dX6_meets_133 : decode cX6_meets 133 = .ok (.invokestatic 170, 3) := by decide +kernel
theorem dX6_meets_136 : decode cX6_meets 136 = .ok (.putfield 189, 3) := by decide +kernel
theorem dX6_meets_139 : decode cX6_meets 139 = .ok (.iload 5, 2) := by decide +kernel
theorem dX6_meets_141 : decode cX6_meets 141 = .ok (.ifCond .eq 25, 3) := by decide +kernel
theorem dX6_meets_144 : decode cX6_meets 144 = .ok (.iconst 2, 1) := by decide +kernel
theorem dX6_meets_145 : decode cX6_meets 145 = .ok (.aload_n 0, 1) := by decide +kernel
theorem dX6_meets_146 : decode cX6_meets 146 = .ok (.iload_n 2, 1) := by decide +kernel
theorem dX6_meets_147 : decode cX6_meets 147 = .ok (.iconst 1, 1) := by decide +kernel
theorem dX6_meets_148 : decode cX6_meets 148 = .ok (.invokevirtual 138, 3) := by decide +kernel
theorem dX6_meets_151 : decode cX6_meets 151 = .ok (.imul, 1) := by decide +kernel
theorem dX6_meets_152 : decode cX6_meets 152 = .ok (.iconst 2, 1) := by decide +kernel
theorem dX6_meets_153 : decode cX6_meets 153 = .ok (.aload_n 0, 1) := by decide +kernel
theorem dX6_meets_154 : decode cX6_meets 154 = .ok (.iload_n 1, 1) := by decide +kernel
theorem dX6_meets_155 : decode cX6_meets 155 = .ok (.iconst 1, 1) := by decide +kernel
theorem dX6_meets_156 : decode cX6_meets 156 = .ok (.invokevirtual 70, 3) := by decide +kernel
theorem dX6_meets_159 : decode cX6_meets 159 = .ok (.imul, 1) := by decide +kernel
theorem dX6_meets_160 : decode cX6_meets 160 = .ok (.isub, 1) := by decide +kernel
theorem dX6_meets_161 : decode cX6_meets 161 = .ok (.iconst 1, 1) := by decide +kernel
theorem dX6_meets_162 : decode cX6_meets 162 = .ok (.isub, 1) := by decide +kernel
theorem dX6_meets_163 : decode cX6_meets 163 = .ok (.goto 22, 3) := by decide +kernel
theorem dX6_meets_166 : decode cX6_meets 166 = .ok (.iconst 2, 1) := by decide +kernel
theorem dX6_meets_167 : decode cX6_meets 167 = .ok (.aload_n 0, 1) := by decide +kernel
theorem dX6_meets_168 : decode cX6_meets 168 = .ok (.iload_n 2, 1) := by decide +kernel
theorem dX6_meets_169 : decode cX6_meets 169 = .ok (.iconst 0, 1) := by decide +kernel
theorem dX6_meets_170 : decode cX6_meets 170 = .ok (.invokevirtual 138, 3) := by decide +kernel
theorem dX6_meets_173 : decode cX6_meets 173 = .ok (.imul, 1) := by decide +kernel
theorem dX6_meets_174 : decode cX6_meets 174 = .ok (.iconst 2, 1) := by decide +kernel
theorem dX6_meets_175 : decode cX6_meets 175 = .ok (.aload_n 0, 1) := by decide +kernel
theorem dX6_meets_176 : decode cX6_meets 176 = .ok (.iload_n 1, 1) := by decide +kernel
theorem dX6_meets_177 : decode cX6_meets 177 = .ok (.iconst 0, 1) := by decide +kernel
theorem dX6_meets_178 : decode cX6_meets 178 = .ok (.invokevirtual 70, 3) := by decide +kernel
theorem dX6_meets_181 : decode cX6_meets 181 = .ok (.imul, 1) := by decide +kernel
theorem dX6_meets_182 : decode cX6_meets 182 = .ok (.isub, 1) := by decide +kernel
theorem dX6_meets_183 : decode cX6_meets 183 = .ok (.iconst 1, 1) := by decide +kernel
theorem dX6_meets_184 : decode cX6_meets 184 = .ok (.isub, 1) := by decide +kernel
theorem dX6_meets_185 : decode cX6_meets 185 = .ok (.istore 9, 2) := by decide +kernel
theorem dX6_meets_187 : decode cX6_meets 187 = .ok (.iload 8, 2) := by decide +kernel
theorem dX6_meets_189 : decode cX6_meets 189 = .ok (.aload_n 0, 1) := by decide +kernel
theorem dX6_meets_190 : decode cX6_meets 190 = .ok (.getfield 186, 3) := by decide +kernel
theorem dX6_meets_193 : decode cX6_meets 193 = .ok (.imul, 1) := by decide +kernel
theorem dX6_meets_194 : decode cX6_meets 194 = .ok (.istore 10, 2) := by decide +kernel
theorem dX6_meets_196 : decode cX6_meets 196 = .ok (.iload 10, 2) := by decide +kernel
theorem dX6_meets_198 : decode cX6_meets 198 = .ok (.iload 9, 2) := by decide +kernel
theorem dX6_meets_200 : decode cX6_meets 200 = .ok (.aload_n 0, 1) := by decide +kernel
theorem dX6_meets_201 : decode cX6_meets 201 = .ok (.getfield 189, 3) := by decide +kernel
theorem dX6_meets_204 : decode cX6_meets 204 = .ok (.imul, 1) := by decide +kernel
theorem dX6_meets_205 : decode cX6_meets 205 = .ok (.if_icmp .lt 28, 3) := by decide +kernel
theorem dX6_meets_208 : decode cX6_meets 208 = .ok (.iload 10, 2) := by decide +kernel
theorem dX6_meets_210 : decode cX6_meets 210 = .ok (.iload 9, 2) := by decide +kernel
theorem dX6_meets_212 : decode cX6_meets 212 = .ok (.iconst 2, 1) := by decide +kernel
theorem dX6_meets_213 : decode cX6_meets 213 = .ok (.aload_n 0, 1) := by decide +kernel
theorem dX6_meets_214 : decode cX6_meets 214 = .ok (.iload_n 2, 1) := by decide +kernel
theorem dX6_meets_215 : decode cX6_meets 215 = .ok (.iconst 2, 1) := by decide +kernel
theorem dX6_meets_216 : decode cX6_meets 216 = .ok (.invokevirtual 138, 3) := by decide +kernel
theorem dX6_meets_219 : decode cX6_meets 219 = .ok (.imul, 1) := by decide +kernel
theorem dX6_meets_220 : decode cX6_meets 220 = .ok (.iadd, 1) := by decide +kernel
theorem dX6_meets_221 : decode cX6_meets 221 = .ok (.aload_n 0, 1) := by decide +kernel
theorem dX6_meets_222 : decode cX6_meets 222 = .ok (.getfield 189, 3) := by decide +kernel
theorem dX6_meets_225 : decode cX6_meets 225 = .ok (.imul, 1) := by decide +kernel
theorem dX6_meets_226 : decode cX6_meets 226 = .ok (.if_icmp .gt 7, 3) := by decide +kernel
theorem dX6_meets_229 : decode cX6_meets 229 = .ok (.iconst 1, 1) := by decide +kernel
theorem dX6_meets_230 : decode cX6_meets 230 = .ok (.goto 4, 3) := by decide +kernel
theorem dX6_meets_233 : decode cX6_meets 233 = .ok (.iconst 0, 1) := by decide +kernel
theorem dX6_meets_234 : decode cX6_meets 234 = .ok (.ireturn, 1) := by decide +kernel
theorem dX6_firstWall_0 : decode cX6_firstWall 0 = .ok (.bipush (-9), 2) := by decide +kernel
theorem dX6_firstWall_2 : decode cX6_firstWall 2 = .ok (.istore 4, 2) := by decide +kernel
theorem dX6_firstWall_4 : decode cX6_firstWall 4 = .ok (.iconst 0, 1) := by decide +kernel
theorem dX6_firstWall_5 : decode cX6_firstWall 5 = .ok (.istore 5, 2) := by decide +kernel
theorem dX6_firstWall_7 : decode cX6_firstWall 7 = .ok (.iconst 1, 1) := by decide +kernel
theorem dX6_firstWall_8 : decode cX6_firstWall 8 = .ok (.istore 6, 2) := by decide +kernel
theorem dX6_firstWall_10 : decode cX6_firstWall 10 = .ok (.iconst 0, 1) := by decide +kernel
theorem dX6_firstWall_11 : decode cX6_firstWall 11 = .ok (.istore 7, 2) := by decide +kernel
theorem dX6_firstWall_13 : decode cX6_firstWall 13 = .ok (.iload 7, 2) := by decide +kernel
theorem dX6_firstWall_15 : decode cX6_firstWall 15 = .ok (.aload_n 0, 1) := by decide +kernel
theorem dX6_firstWall_16 : decode cX6_firstWall 16 = .ok (.getfield 7, 3) := by decide +kernel
theorem dX6_firstWall_19 : decode cX6_firstWall 19 = .ok (.iconst 1, 1) := by decide +kernel
theorem dX6_firstWall_20 : decode cX6_firstWall 20 = .ok (.iaload, 1) := by decide +kernel
theorem dX6_firstWall_21 : decode cX6_firstWall 21 = .ok (.if_icmp .ge 61, 3) := by decide +kernel
theorem dX6_firstWall_24 : decode cX6_firstWall 24 = .ok (.aload_n 0, 1) := by decide +kernel
theorem dX6_firstWall_25 : decode cX6_firstWall 25 = .ok (.iload_n 1, 1) := by decide +kernel
theorem dX6_firstWall_26 : decode cX6_firstWall 26 = .ok (.iload 7, 2) := by decide +kernel
theorem dX6_firstWall_28 : decode cX6_firstWall 28 = .ok (.iload_n 2, 1) := by decide +kernel
theorem dX6_firstWall_29 : decode cX6_firstWall 29 = .ok (.iload_n 3, 1) := by decide +kernel
theorem dX6_firstWall_30 : decode cX6_firstWall 30 = .ok (.invokevirtual 192, 3) := by decide +kernel
theorem dX6_firstWall_33 : decode cX6_firstWall 33 = .ok (.ifCond .eq 43, 3) := by decide +kernel
theorem dX6_firstWall_36 : decode cX6_firstWall 36 = .ok (.iload 4, 2) := by decide +kernel
theorem dX6_firstWall_38 : decode cX6_firstWall 38 = .ok (.bipush (-9), 2) := by decide +kernel
theorem dX6_firstWall_40 : decode cX6_firstWall 40 = .ok (.if_icmp .eq 20, 3) := by decide +kernel
theorem dX6_firstWall_43 : decode cX6_firstWall 43 = .ok (.aload_n 0, 1) := by decide +kernel
theorem dX6_firstWall_44 : decode cX6_firstWall 44 = .ok (.getfield 186, 3) := by decide +kernel
theorem dX6_firstWall_47 : decode cX6_firstWall 47 = .ok (.iload 6, 2) := by decide +kernel
theorem dX6_firstWall_49 : decode cX6_firstWall 49 = .ok (.imul, 1) := by decide +kernel
theorem dX6_firstWall_50 : decode cX6_firstWall 50 = .ok (.iload 5, 2) := by decide +kernel
theorem dX6_firstWall_52 : decode cX6_firstWall 52 = .ok (.aload_n 0, 1) := by decide +kernel
theorem dX6_firstWall_53 : decode cX6_firstWall 53 = .ok (.getfield 189, 3) := by decide +kernel
theorem dX6_firstWall_56 : decode cX6_firstWall 56 = .ok (.imul, 1) := by decide +kernel
theorem dX6_firstWall_57 : decode cX6_firstWall 57 = .ok (.if_icmp .ge 19, 3) := by decide +kernel
theorem dX6_firstWall_60 : decode cX6_firstWall 60 = .ok (.iload 7, 2) := by decide +kernel
theorem dX6_firstWall_62 : decode cX6_firstWall 62 = .ok (.istore 4, 2) := by decide +kernel
theorem dX6_firstWall_64 : decode cX6_firstWall 64 = .ok (.aload_n 0, 1) := by decide +kernel
theorem dX6_firstWall_65 : decode cX6_firstWall 65 = .ok (.getfield 186, 3) := by decide +kernel
theorem dX6_firstWall_68 : decode cX6_firstWall 68 = .ok (.istore 5, 2) := by decide +kernel
theorem dX6_firstWall_70 : decode cX6_firstWall 70 = .ok (.aload_n 0, 1) := by decide +kernel
theorem dX6_firstWall_71 : decode cX6_firstWall 71 = .ok (.getfield 189, 3) := by decide +kernel
theorem dX6_firstWall_74 : decode cX6_firstWall 74 = .ok (.istore 6, 2) := by decide +kernel
theorem dX6_firstWall_76 : decode cX6_firstWall 76 = .ok (.iinc 7 1, 3) := by decide +kernel
theorem dX6_firstWall_79 : decode cX6_firstWall 79 = .ok (.goto (-66), 3) := by decide +kernel
theorem dX6_firstWall_82 : decode cX6_firstWall 82 = .ok (.iload 4, 2) := by decide +kernel
theorem dX6_firstWall_84 : decode cX6_firstWall 84 = .ok (.ireturn, 1) := by decide +kernel
theorem dX6_wallOfSector_0 : decode cX6_wallOfSector 0 = .ok (.iload_n 2, 1) := by decide +kernel
theorem dX6_wallOfSector_1 : decode cX6_wallOfSector 1 = .ok (.iconst 1, 1) := by decide +kernel
theorem dX6_wallOfSector_2 : decode cX6_wallOfSector 2 = .ok (.iadd, 1) := by decide +kernel
theorem dX6_wallOfSector_3 : decode cX6_wallOfSector 3 = .ok (.aload_n 0, 1) := by decide +kernel
theorem dX6_wallOfSector_4 : decode cX6_wallOfSector 4 = .ok (.getfield 176, 3) := by decide +kernel
theorem dX6_wallOfSector_7 : decode cX6_wallOfSector 7 = .ok (.irem, 1) := by decide +kernel
theorem dX6_wallOfSector_8 : decode cX6_wallOfSector 8 = .ok (.istore_n 3, 1) := by decide +kernel
theorem dX6_wallOfSector_9 : decode cX6_wallOfSector 9 = .ok (.aload_n 0, 1) := by decide +kernel
theorem dX6_wallOfSector_10 : decode cX6_wallOfSector 10 = .ok (.iload_n 1, 1) := by decide +kernel
theorem dX6_wallOfSector_11 : decode cX6_wallOfSector 11 = .ok (.aload_n 0, 1) := by decide +kernel
theorem dX6_wallOfSector_12 : decode cX6_wallOfSector 12 = .ok (.getfield 41, 3) := by decide +kernel
theorem dX6_wallOfSector_15 : decode cX6_wallOfSector 15 = .ok (.iload_n 2, 1) := by decide +kernel
theorem dX6_wallOfSector_16 : decode cX6_wallOfSector 16 = .ok (.iaload, 1) := by decide +kernel
theorem dX6_wallOfSector_17 : decode cX6_wallOfSector 17 = .ok (.aload_n 0, 1) := by decide +kernel
theorem dX6_wallOfSector_18 : decode cX6_wallOfSector 18 = .ok (.getfield 41, 3) := by decide +kernel
theorem dX6_wallOfSector_21 : decode cX6_wallOfSector 21 = .ok (.iload_n 3, 1) := by decide +kernel
theorem dX6_wallOfSector_22 : decode cX6_wallOfSector 22 = .ok (.iaload, 1) := by decide +kernel
theorem dX6_wallOfSector_23 : decode cX6_wallOfSector 23 = .ok (.iadd, 1) := by decide +kernel
theorem dX6_wallOfSector_24 : decode cX6_wallOfSector 24 = .ok (.aload_n 0, 1) := by decide +kernel
theorem dX6_wallOfSector_25 : decode cX6_wallOfSector 25 = .ok (.getfield 44, 3) := by decide +kernel
theorem dX6_wallOfSector_28 : decode cX6_wallOfSector 28 = .ok (.iload_n 2, 1) := by decide +kernel
theorem dX6_wallOfSector_29 : decode cX6_wallOfSector 29 = .ok (.iaload, 1) := by decide +kernel
theorem dX6_wallOfSector_30 : decode cX6_wallOfSector 30 = .ok (.aload_n 0, 1) := by decide +kernel
theorem dX6_wallOfSector_31 : decode cX6_wallOfSector 31 = .ok (.getfield 44, 3) := by decide +kernel
theorem dX6_wallOfSector_34 : decode cX6_wallOfSector 34 = .ok (.iload_n 3, 1) := by decide +kernel
theorem dX6_wallOfSector_35 : decode cX6_wallOfSector 35 = .ok (.iaload, 1) := by decide +kernel
theorem dX6_wallOfSector_36 : decode cX6_wallOfSector 36 = .ok (.iadd, 1) := by decide +kernel
theorem dX6_wallOfSector_37 : decode cX6_wallOfSector 37 = .ok (.invokevirtual 195, 3) := by decide +kernel
theorem dX6_wallOfSector_40 : decode cX6_wallOfSector 40 = .ok (.ireturn, 1) := by decide +kernel
theorem dX6_events_0 : decode cX6_events 0 = .ok (.aload_n 0, 1) := by decide +kernel
theorem dX6_events_1 : decode cX6_events 1 = .ok (.iconst 0, 1) := by decide +kernel
theorem dX6_events_2 : decode cX6_events 2 = .ok (.putfield 56, 3) := by decide +kernel
theorem dX6_events_5 : decode cX6_events 5 = .ok (.aload_n 0, 1) := by decide +kernel
theorem dX6_events_6 : decode cX6_events 6 = .ok (.iload_n 1, 1) := by decide +kernel
theorem dX6_events_7 : decode cX6_events 7 = .ok (.invokevirtual 141, 3) := by decide +kernel
theorem dX6_events_10 : decode cX6_events 10 = .ok (.ifCond .ne 5, 3) := by decide +kernel
theorem dX6_events_13 : decode cX6_events 13 = .ok (.iconst (-1), 1) := by decide +kernel
theorem dX6_events_14 : decode cX6_events 14 = .ok (.ireturn, 1) := by decide +kernel
theorem dX6_events_15 : decode cX6_events 15 = .ok (.aload_n 0, 1) := by decide +kernel
theorem dX6_events_16 : decode cX6_events 16 = .ok (.iload_n 1, 1) := by decide +kernel
theorem dX6_events_17 : decode cX6_events 17 = .ok (.invokevirtual 198, 3) := by decide +kernel
theorem dX6_events_20 : decode cX6_events 20 = .ok (.aload_n 0, 1) := by decide +kernel
theorem dX6_events_21 : decode cX6_events 21 = .ok (.getfield 176, 3) := by decide +kernel
theorem dX6_events_24 : decode cX6_events 24 = .ok (.ireturn, 1) := by decide +kernel
theorem dX6_areaOf_0 : decode cX6_areaOf 0 = .ok (.aload_n 0, 1) := by decide +kernel
theorem dX6_areaOf_1 : decode cX6_areaOf 1 = .ok (.iload_n 3, 1) := by decide +kernel
theorem dX6_areaOf_2 : decode cX6_areaOf 2 = .ok (.iconst 3, 1) := by decide +kernel
theorem dX6_areaOf_3 : decode cX6_areaOf 3 = .ok (.invokevirtual 138, 3) := by decide +kernel
theorem dX6_areaOf_6 : decode cX6_areaOf 6 = .ok (.iconst 1, 1) := by decide +kernel
theorem dX6_areaOf_7 : decode cX6_areaOf 7 = .ok (.if_icmp .ne 7, 3) := by decide +kernel
theorem dX6_areaOf_10 : decode cX6_areaOf 10 = .ok (.iconst 1, 1) := by decide +kernel
theorem dX6_areaOf_11 : decode cX6_areaOf 11 = .ok (.goto 4, 3) := by decide +kernel
theorem dX6_areaOf_14 : decode cX6_areaOf 14 = .ok (.iconst 0, 1) := by decide +kernel
theorem dX6_areaOf_15 : decode cX6_areaOf 15 = .ok (.istore 5, 2) := by decide +kernel
theorem dX6_areaOf_17 : decode cX6_areaOf 17 = .ok (.iload 5, 2) := by decide +kernel
theorem dX6_areaOf_19 : decode cX6_areaOf 19 = .ok (.ifCond .eq 25, 3) := by decide +kernel
theorem dX6_areaOf_22 : decode cX6_areaOf 22 = .ok (.iconst 2, 1) := by decide +kernel
theorem dX6_areaOf_23 : decode cX6_areaOf 23 = .ok (.aload_n 0, 1) := by decide +kernel
theorem dX6_areaOf_24 : decode cX6_areaOf 24 = .ok (.iload_n 3, 1) := by decide +kernel
theorem dX6_areaOf_25 : decode cX6_areaOf 25 = .ok (.iconst 0, 1) := by decide +kernel
theorem dX6_areaOf_26 : decode cX6_areaOf 26 = .ok (.invokevirtual 138, 3) := by decide +kernel
theorem dX6_areaOf_29 : decode cX6_areaOf 29 = .ok (.imul, 1) := by decide +kernel
theorem dX6_areaOf_30 : decode cX6_areaOf 30 = .ok (.iconst 2, 1) := by decide +kernel
theorem dX6_areaOf_31 : decode cX6_areaOf 31 = .ok (.aload_n 0, 1) := by decide +kernel
theorem dX6_areaOf_32 : decode cX6_areaOf 32 = .ok (.iload_n 1, 1) := by decide +kernel
theorem dX6_areaOf_33 : decode cX6_areaOf 33 = .ok (.iconst 0, 1) := by decide +kernel
theorem dX6_areaOf_34 : decode cX6_areaOf 34 = .ok (.invokevirtual 70, 3) := by decide +kernel
theorem dX6_areaOf_37 : decode cX6_areaOf 37 = .ok (.imul, 1) := by decide +kernel
theorem dX6_areaOf_38 : decode cX6_areaOf 38 = .ok (.isub, 1) := by decide +kernel
theorem dX6_areaOf_39 : decode cX6_areaOf 39 = .ok (.iconst 1, 1) := by decide +kernel
theorem dX6_areaOf_40 : decode cX6_areaOf 40 = .ok (.isub, 1) := by decide +kernel
theorem dX6_areaOf_41 : decode cX6_areaOf 41 = .ok (.goto 22, 3) := by decide +kernel
theorem dX6_areaOf_44 : decode cX6_areaOf 44 = .ok (.iconst 2, 1) := by decide +kernel
theorem dX6_areaOf_45 : decode cX6_areaOf 45 = .ok (.aload_n 0, 1) := by decide +kernel
theorem dX6_areaOf_46 : decode cX6_areaOf 46 = .ok (.iload_n 3, 1) := by decide +kernel
theorem dX6_areaOf_47 : decode cX6_areaOf 47 = .ok (.iconst 1, 1) := by decide +kernel
theorem dX6_areaOf_48 : decode cX6_areaOf 48 = .ok (.invokevirtual 138, 3) := by decide +kernel
theorem dX6_areaOf_51 : decode cX6_areaOf 51 = .ok (.imul, 1) := by decide +kernel
theorem dX6_areaOf_52 : decode cX6_areaOf 52 = .ok (.iconst 2, 1) := by decide +kernel
theorem dX6_areaOf_53 : decode cX6_areaOf 53 = .ok (.aload_n 0, 1) := by decide +kernel
theorem dX6_areaOf_54 : decode cX6_areaOf 54 = .ok (.iload_n 1, 1) := by decide +kernel
theorem dX6_areaOf_55 : decode cX6_areaOf 55 = .ok (.iconst 1, 1) := by decide +kernel
theorem dX6_areaOf_56 : decode cX6_areaOf 56 = .ok (.invokevirtual 70, 3) := by decide +kernel
theorem dX6_areaOf_59 : decode cX6_areaOf 59 = .ok (.imul, 1) := by decide +kernel
theorem dX6_areaOf_60 : decode cX6_areaOf 60 = .ok (.isub, 1) := by decide +kernel
theorem dX6_areaOf_61 : decode cX6_areaOf 61 = .ok (.iconst 1, 1) := by decide +kernel
theorem dX6_areaOf_62 : decode cX6_areaOf 62 = .ok (.isub, 1) := by decide +kernel
theorem dX6_areaOf_63 : decode cX6_areaOf 63 = .ok (.istore 6, 2) := by decide +kernel
theorem dX6_areaOf_65 : decode cX6_areaOf 65 = .ok (.iload_n 2, 1) := by decide +kernel
theorem dX6_areaOf_66 : decode cX6_areaOf 66 = .ok (.iconst 1, 1) := by decide +kernel
theorem dX6_areaOf_67 : decode cX6_areaOf 67 = .ok (.iadd, 1) := by decide +kernel
theorem dX6_areaOf_68 : decode cX6_areaOf 68 = .ok (.aload_n 0, 1) := by decide +kernel
theorem dX6_areaOf_69 : decode cX6_areaOf 69 = .ok (.getfield 176, 3) := by decide +kernel
theorem dX6_areaOf_72 : decode cX6_areaOf 72 = .ok (.irem, 1) := by decide +kernel
theorem dX6_areaOf_73 : decode cX6_areaOf 73 = .ok (.istore 7, 2) := by decide +kernel
theorem dX6_areaOf_75 : decode cX6_areaOf 75 = .ok (.aload_n 0, 1) := by decide +kernel
theorem dX6_areaOf_76 : decode cX6_areaOf 76 = .ok (.getfield 41, 3) := by decide +kernel
theorem dX6_areaOf_79 : decode cX6_areaOf 79 = .ok (.iload_n 2, 1) := by decide +kernel
theorem dX6_areaOf_80 : decode cX6_areaOf 80 = .ok (.iaload, 1) := by decide +kernel
theorem dX6_areaOf_81 : decode cX6_areaOf 81 = .ok (.aload_n 0, 1) := by decide +kernel
theorem dX6_areaOf_82 : decode cX6_areaOf 82 = .ok (.getfield 44, 3) := by decide +kernel
theorem dX6_areaOf_85 : decode cX6_areaOf 85 = .ok (.iload 7, 2) := by decide +kernel
theorem dX6_areaOf_87 : decode cX6_areaOf 87 = .ok (.iaload, 1) := by decide +kernel
theorem dX6_areaOf_88 : decode cX6_areaOf 88 = .ok (.imul, 1) := by decide +kernel
theorem dX6_areaOf_89 : decode cX6_areaOf 89 = .ok (.aload_n 0, 1) := by decide +kernel
theorem dX6_areaOf_90 : decode cX6_areaOf 90 = .ok (.getfield 44, 3) := by decide +kernel
theorem dX6_areaOf_93 : decode cX6_areaOf 93 = .ok (.iload_n 2, 1) := by decide +kernel
theorem dX6_areaOf_94 : decode cX6_areaOf 94 = .ok (.iaload, 1) := by decide +kernel
theorem dX6_areaOf_95 : decode cX6_areaOf 95 = .ok (.aload_n 0, 1) := by decide +kernel
theorem dX6_areaOf_96 : decode cX6_areaOf 96 = .ok (.getfield 41, 3) := by decide +kernel
theorem dX6_areaOf_99 : decode cX6_areaOf 99 = .ok (.iload 7, 2) := by decide +kernel
theorem dX6_areaOf_101 : decode cX6_areaOf 101 = .ok (.iaload, 1) := by decide +kernel
theorem dX6_areaOf_102 : decode cX6_areaOf 102 = .ok (.imul, 1) := by decide +kernel
theorem dX6_areaOf_103 : decode cX6_areaOf 103 = .ok (.isub, 1) := by decide +kernel
theorem dX6_areaOf_104 : decode cX6_areaOf 104 = .ok (.istore 8, 2) := by decide +kernel
theorem dX6_areaOf_106 : decode cX6_areaOf 106 = .ok (.iload 6, 2) := by decide +kernel
theorem dX6_areaOf_108 : decode cX6_areaOf 108 = .ok (.iload 6, 2) := by decide +kernel
theorem dX6_areaOf_110 : decode cX6_areaOf 110 = .ok (.imul, 1) := by decide +kernel
theorem dX6_areaOf_111 : decode cX6_areaOf 111 = .ok (.iload 8, 2) := by decide +kernel
theorem dX6_areaOf_113 : decode cX6_areaOf 113 = .ok (.invokestatic 170, 3) := by decide +kernel
theorem dX6_areaOf_116 : decode cX6_areaOf 116 = .ok (.imul, 1) := by decide +kernel
theorem dX6_areaOf_117 : decode cX6_areaOf 117 = .ok (.istore 9, 2) := by decide +kernel
theorem dX6_areaOf_119 : decode cX6_areaOf 119 = .ok (.bipush 8, 2) := by decide +kernel
theorem dX6_areaOf_121 : decode cX6_areaOf 121 = .ok (.iload 5, 2) := by decide +kernel
theorem dX6_areaOf_123 : decode cX6_areaOf 123 = .ok (.ifCond .eq 20, 3) := by decide +kernel
theorem dX6_areaOf_126 : decode cX6_areaOf 126 = .ok (.aload_n 0, 1) := by decide +kernel
theorem dX6_areaOf_127 : decode cX6_areaOf 127 = .ok (.getfield 41, 3) := by decide +kernel
theorem dX6_areaOf_130 : decode cX6_areaOf 130 = .ok (.iload_n 2, 1) := by decide +kernel
theorem dX6_areaOf_131 : decode cX6_areaOf 131 = .ok (.iaload, 1) := by decide +kernel
theorem dX6_areaOf_132 : decode cX6_areaOf 132 = .ok (.aload_n 0, 1) := by decide +kernel
theorem dX6_areaOf_133 : decode cX6_areaOf 133 = .ok (.getfield 41, 3) := by decide +kernel
theorem dX6_areaOf_136 : decode cX6_areaOf 136 = .ok (.iload 7, 2) := by decide +kernel
theorem dX6_areaOf_138 : decode cX6_areaOf 138 = .ok (.iaload, 1) := by decide +kernel
theorem dX6_areaOf_139 : decode cX6_areaOf 139 = .ok (.imul, 1) := by decide +kernel
theorem dX6_areaOf_140 : decode cX6_areaOf 140 = .ok (.goto 17, 3) := by decide +kernel
theorem dX6_areaOf_143 : decode cX6_areaOf 143 = .ok (.aload_n 0, 1) := by decide +kernel
theorem dX6_areaOf_144 : decode cX6_areaOf 144 = .ok (.getfield 44, 3) := by decide +kernel
theorem dX6_areaOf_147 : decode cX6_areaOf 147 = .ok (.iload_n 2, 1) := by decide +kernel
theorem dX6_areaOf_148 : decode cX6_areaOf 148 = .ok (.iaload, 1) := by decide +kernel
theorem dX6_areaOf_149 : decode cX6_areaOf 149 = .ok (.aload_n 0, 1) := by decide +kernel
theorem dX6_areaOf_150 : decode cX6_areaOf 150 = .ok (.getfield 44, 3) := by decide +kernel
theorem dX6_areaOf_153 : decode cX6_areaOf 153 = .ok (.iload 7, 2) := by decide +kernel
theorem dX6_areaOf_155 : decode cX6_areaOf 155 = .ok (.iaload, 1) := by decide +kernel
theorem dX6_areaOf_156 : decode cX6_areaOf 156 = .ok (.imul, 1) := by decide +kernel
theorem dX6_areaOf_157 : decode cX6_areaOf 157 = .ok (.invokestatic 170, 3) := by decide +kernel
theorem dX6_areaOf_160 : decode cX6_areaOf 160 = .ok (.imul, 1) := by decide +kernel
theorem dX6_areaOf_161 : decode cX6_areaOf 161 = .ok (.istore 10, 2) := by decide +kernel
theorem dX6_areaOf_163 : decode cX6_areaOf 163 = .ok (.iload 9, 2) := by decide +kernel
theorem dX6_areaOf_165 : decode cX6_areaOf 165 = .ok (.iload 10, 2) := by decide +kernel
theorem dX6_areaOf_167 : decode cX6_areaOf 167 = .ok (.invokestatic 173, 3) := by decide +kernel
theorem dX6_areaOf_170 : decode cX6_areaOf 170 = .ok (.istore 11, 2) := by decide +kernel
theorem dX6_areaOf_172 : decode cX6_areaOf 172 = .ok (.iload 4, 2) := by decide +kernel
theorem dX6_areaOf_174 : decode cX6_areaOf 174 = .ok (.iconst 1, 1) := by decide +kernel
theorem dX6_areaOf_175 : decode cX6_areaOf 175 = .ok (.if_icmp .ne 11, 3) := by decide +kernel
theorem dX6_areaOf_178 : decode cX6_areaOf 178 = .ok (.iload 9, 2) := by decide +kernel
theorem dX6_areaOf_180 : decode cX6_areaOf 180 = .ok (.iload 11, 2) := by decide +kernel
theorem dX6_areaOf_182 : decode cX6_areaOf 182 = .ok (.idiv, 1) := by decide +kernel
theorem dX6_areaOf_183 : decode cX6_areaOf 183 = .ok (.goto 8, 3) := by decide +kernel
theorem dX6_areaOf_186 : decode cX6_areaOf 186 = .ok (.iload 10, 2) := by decide +kernel
theorem dX6_areaOf_188 : decode cX6_areaOf 188 = .ok (.iload 11, 2) := by decide +kernel
theorem dX6_areaOf_190 : decode cX6_areaOf 190 = .ok (.idiv, 1) := by decide +kernel
theorem dX6_areaOf_191 : decode cX6_areaOf 191 = .ok (.ireturn, 1) := by decide +kernel
theorem dX6_event_0 : decode cX6_event 0 = .ok (.aload_n 0, 1) := by decide +kernel
theorem dX6_event_1 : decode cX6_event 1 = .ok (.iconst 0, 1) := by decide +kernel
theorem dX6_event_2 : decode cX6_event 2 = .ok (.putfield 56, 3) := by decide +kernel
theorem dX6_event_5 : decode cX6_event 5 = .ok (.aload_n 0, 1) := by decide +kernel
theorem dX6_event_6 : decode cX6_event 6 = .ok (.iload_n 1, 1) := by decide +kernel
theorem dX6_event_7 : decode cX6_event 7 = .ok (.invokevirtual 141, 3) := by decide +kernel
theorem dX6_event_10 : decode cX6_event 10 = .ok (.ifCond .eq 16, 3) := by decide +kernel
theorem dX6_event_13 : decode cX6_event 13 = .ok (.iload_n 3, 1) := by decide +kernel
theorem dX6_event_14 : decode cX6_event 14 = .ok (.iconst 0, 1) := by decide +kernel
theorem dX6_event_15 : decode cX6_event 15 = .ok (.iconst 1, 1) := by decide +kernel
theorem dX6_event_16 : decode cX6_event 16 = .ok (.invokestatic 63, 3) := by decide +kernel
theorem dX6_event_19 : decode cX6_event 19 = .ok (.ifCond .eq 7, 3) := by decide +kernel
theorem dX6_event_22 : decode cX6_event 22 = .ok (.iload_n 2, 1) := by decide +kernel
theorem dX6_event_23 : decode cX6_event 23 = .ok (.ifCond .ge 7, 3) := by decide +kernel
theorem dX6_event_26 : decode cX6_event 26 = .ok (.sipush (-1000), 3) := by decide +kernel
theorem dX6_event_29 : decode cX6_event 29 = .ok (.ireturn, 1) := by decide +kernel
theorem dX6_event_30 : decode cX6_event 30 = .ok (.aload_n 0, 1) := by decide +kernel
theorem dX6_event_31 : decode cX6_event 31 = .ok (.iload_n 1, 1) := by decide +kernel
theorem dX6_event_32 : decode cX6_event 32 = .ok (.invokevirtual 198, 3) := by decide +kernel
theorem dX6_event_35 : decode cX6_event 35 = .ok (.iload_n 2, 1) := by decide +kernel
theorem dX6_event_36 : decode cX6_event 36 = .ok (.aload_n 0, 1) := by decide +kernel
theorem dX6_event_37 : decode cX6_event 37 = .ok (.getfield 176, 3) := by decide +kernel
theorem dX6_event_40 : decode cX6_event 40 = .ok (.if_icmp .lt 9, 3) := by decide +kernel
theorem dX6_event_43 : decode cX6_event 43 = .ok (.sipush (-1000), 3) := by decide +kernel
theorem dX6_event_46 : decode cX6_event 46 = .ok (.goto 22, 3) := by decide +kernel
theorem dX6_event_49 : decode cX6_event 49 = .ok (.iload_n 3, 1) := by decide +kernel
theorem dX6_event_50 : decode cX6_event 50 = .ok (.ifCond .ne 12, 3) := by decide +kernel
theorem dX6_event_53 : decode cX6_event 53 = .ok (.aload_n 0, 1) := by decide +kernel
theorem dX6_event_54 : decode cX6_event 54 = .ok (.getfield 41, 3) := by decide +kernel
theorem dX6_event_57 : decode cX6_event 57 = .ok (.iload_n 2, 1) := by decide +kernel
theorem dX6_event_58 : decode cX6_event 58 = .ok (.iaload, 1) := by decide +kernel
theorem dX6_event_59 : decode cX6_event 59 = .ok (.goto 9, 3) := by decide +kernel
theorem dX6_event_62 : decode cX6_event 62 = .ok (.aload_n 0, 1) := by decide +kernel
theorem dX6_event_63 : decode cX6_event 63 = .ok (.getfield 44, 3) := by decide +kernel
theorem dX6_event_66 : decode cX6_event 66 = .ok (.iload_n 2, 1) := by decide +kernel
theorem dX6_event_67 : decode cX6_event 67 = .ok (.iaload, 1) := by decide +kernel
theorem dX6_event_68 : decode cX6_event 68 = .ok (.ireturn, 1) := by decide +kernel
theorem dX6_sector_0 : decode cX6_sector 0 = .ok (.aload_n 0, 1) := by decide +kernel
theorem dX6_sector_1 : decode cX6_sector 1 = .ok (.iconst 0, 1) := by decide +kernel
theorem dX6_sector_2 : decode cX6_sector 2 = .ok (.putfield 56, 3) := by decide +kernel
theorem dX6_sector_5 : decode cX6_sector 5 = .ok (.aload_n 0, 1) := by decide +kernel
theorem dX6_sector_6 : decode cX6_sector 6 = .ok (.iload_n 1, 1) := by decide +kernel
theorem dX6_sector_7 : decode cX6_sector 7 = .ok (.invokevirtual 141, 3) := by decide +kernel
theorem dX6_sector_10 : decode cX6_sector 10 = .ok (.ifCond .eq 16, 3) := by decide +kernel
theorem dX6_sector_13 : decode cX6_sector 13 = .ok (.iload_n 3, 1) := by decide +kernel
theorem dX6_sector_14 : decode cX6_sector 14 = .ok (.iconst 0, 1) := by decide +kernel
theorem dX6_sector_15 : decode cX6_sector 15 = .ok (.iconst 2, 1) := by decide +kernel
theorem dX6_sector_16 : decode cX6_sector 16 = .ok (.invokestatic 63, 3) := by decide +kernel
theorem dX6_sector_19 : decode cX6_sector 19 = .ok (.ifCond .eq 7, 3) := by decide +kernel
theorem dX6_sector_22 : decode cX6_sector 22 = .ok (.iload_n 2, 1) := by decide +kernel
theorem dX6_sector_23 : decode cX6_sector 23 = .ok (.ifCond .ge 5, 3) := by decide +kernel
theorem dX6_sector_26 : decode cX6_sector 26 = .ok (.iconst (-1), 1) := by decide +kernel
theorem dX6_sector_27 : decode cX6_sector 27 = .ok (.ireturn, 1) := by decide +kernel
theorem dX6_sector_28 : decode cX6_sector 28 = .ok (.aload_n 0, 1) := by decide +kernel
theorem dX6_sector_29 : decode cX6_sector 29 = .ok (.iload_n 1, 1) := by decide +kernel
theorem dX6_sector_30 : decode cX6_sector 30 = .ok (.invokevirtual 198, 3) := by decide +kernel
theorem dX6_sector_33 : decode cX6_sector 33 = .ok (.iload_n 2, 1) := by decide +kernel
theorem dX6_sector_34 : decode cX6_sector 34 = .ok (.aload_n 0, 1) := by decide +kernel
theorem dX6_sector_35 : decode cX6_sector 35 = .ok (.getfield 176, 3) := by decide +kernel
theorem dX6_sector_38 : decode cX6_sector 38 = .ok (.if_icmp .lt 6, 3) := by decide +kernel
theorem dX6_sector_41 : decode cX6_sector 41 = .ok (.bipush (-9), 2) := by decide +kernel
theorem dX6_sector_43 : decode cX6_sector 43 = .ok (.ireturn, 1) := by decide +kernel
theorem dX6_sector_44 : decode cX6_sector 44 = .ok (.aload_n 0, 1) := by decide +kernel
theorem dX6_sector_45 : decode cX6_sector 45 = .ok (.iload_n 1, 1) := by decide +kernel
theorem dX6_sector_46 : decode cX6_sector 46 = .ok (.iload_n 2, 1) := by decide +kernel
theorem dX6_sector_47 : decode cX6_sector 47 = .ok (.invokevirtual 202, 3) := by decide +kernel
theorem dX6_sector_50 : decode cX6_sector 50 = .ok (.istore 4, 2) := by decide +kernel
theorem dX6_sector_52 : decode cX6_sector 52 = .ok (.iload_n 3, 1) := by decide +kernel
theorem dX6_sector_53 : decode cX6_sector 53 = .ok (.ifCond .ne 8, 3) := by decide +kernel
theorem dX6_sector_56 : decode cX6_sector 56 = .ok (.iload 4, 2) := by decide +kernel
theorem dX6_sector_58 : decode cX6_sector 58 = .ok (.goto 12, 3) := by decide +kernel
theorem dX6_sector_61 : decode cX6_sector 61 = .ok (.aload_n 0, 1) := by decide +kernel
theorem dX6_sector_62 : decode cX6_sector 62 = .ok (.iload_n 1, 1) := by decide +kernel
theorem dX6_sector_63 : decode cX6_sector 63 = .ok (.iload_n 2, 1) := by decide +kernel
theorem dX6_sector_64 : decode cX6_sector 64 = .ok (.iload 4, 2) := by decide +kernel
theorem dX6_sector_66 : decode cX6_sector 66 = .ok (.iload_n 3, 1) := by decide +kernel
theorem dX6_sector_67 : decode cX6_sector 67 = .ok (.invokevirtual 205, 3) := by decide +kernel
theorem dX6_sector_70 : decode cX6_sector 70 = .ok (.ireturn, 1) := by decide +kernel
theorem dX6_walls_0 : decode cX6_walls 0 = .ok (.aload_n 0, 1) := by decide +kernel
theorem dX6_walls_1 : decode cX6_walls 1 = .ok (.iconst 0, 1) := by decide +kernel
theorem dX6_walls_2 : decode cX6_walls 2 = .ok (.putfield 56, 3) := by decide +kernel
theorem dX6_walls_5 : decode cX6_walls 5 = .ok (.aload_n 0, 1) := by decide +kernel
theorem dX6_walls_6 : decode cX6_walls 6 = .ok (.iload_n 1, 1) := by decide +kernel
theorem dX6_walls_7 : decode cX6_walls 7 = .ok (.invokevirtual 141, 3) := by decide +kernel
theorem dX6_walls_10 : decode cX6_walls 10 = .ok (.ifCond .ne 5, 3) := by decide +kernel
theorem dX6_walls_13 : decode cX6_walls 13 = .ok (.iconst (-1), 1) := by decide +kernel
theorem dX6_walls_14 : decode cX6_walls 14 = .ok (.ireturn, 1) := by decide +kernel
theorem dX6_walls_15 : decode cX6_walls 15 = .ok (.aload_n 0, 1) := by decide +kernel
theorem dX6_walls_16 : decode cX6_walls 16 = .ok (.iload_n 1, 1) := by decide +kernel
theorem dX6_walls_17 : decode cX6_walls 17 = .ok (.invokevirtual 198, 3) := by decide +kernel
theorem dX6_walls_20 : decode cX6_walls 20 = .ok (.iconst 0, 1) := by decide +kernel
theorem dX6_walls_21 : decode cX6_walls 21 = .ok (.istore_n 2, 1) := by decide +kernel
theorem dX6_walls_22 : decode cX6_walls 22 = .ok (.iconst 0, 1) := by decide +kernel
theorem dX6_walls_23 : decode cX6_walls 23 = .ok (.istore_n 3, 1) := by decide +kernel
theorem dX6_walls_24 : decode cX6_walls 24 = .ok (.iload_n 3, 1) := by decide +kernel
theorem dX6_walls_25 : decode cX6_walls 25 = .ok (.aload_n 0, 1) := by decide +kernel
theorem dX6_walls_26 : decode cX6_walls 26 = .ok (.getfield 176, 3) := by decide +kernel
theorem dX6_walls_29 : decode cX6_walls 29 = .ok (.if_icmp .ge 20, 3) := by decide +kernel
theorem dX6_walls_32 : decode cX6_walls 32 = .ok (.iload_n 2, 1) := by decide +kernel
theorem dX6_walls_33 : decode cX6_walls 33 = .ok (.iconst 1, 1) := by decide +kernel
theorem dX6_walls_34 : decode cX6_walls 34 = .ok (.aload_n 0, 1) := by decide +kernel
theorem dX6_walls_35 : decode cX6_walls 35 = .ok (.iload_n 1, 1) := by decide +kernel
theorem dX6_walls_36 : decode cX6_walls 36 = .ok (.iload_n 3, 1) := by decide +kernel
theorem dX6_walls_37 : decode cX6_walls 37 = .ok (.invokevirtual 202, 3) := by decide +kernel
theorem dX6_walls_40 : decode cX6_walls 40 = .ok (.ishl, 1) := by decide +kernel
theorem dX6_walls_41 : decode cX6_walls 41 = .ok (.ior, 1) := by decide +kernel
theorem dX6_walls_42 : decode cX6_walls 42 = .ok (.istore_n 2, 1) := by decide +kernel
theorem dX6_walls_43 : decode cX6_walls 43 = .ok (.iinc 3 1, 3) := by decide +kernel
theorem dX6_walls_46 : decode cX6_walls 46 = .ok (.goto (-22), 3) := by decide +kernel
theorem dX6_walls_49 : decode cX6_walls 49 = .ok (.iload_n 2, 1) := by decide +kernel
theorem dX6_walls_50 : decode cX6_walls 50 = .ok (.ireturn, 1) := by decide +kernel
theorem dX6_laysSpots_0 : decode cX6_laysSpots 0 = .ok (.iconst 0, 1) := by decide +kernel
theorem dX6_laysSpots_1 : decode cX6_laysSpots 1 = .ok (.istore_n 1, 1) := by decide +kernel
theorem dX6_laysSpots_2 : decode cX6_laysSpots 2 = .ok (.iload_n 1, 1) := by decide +kernel
theorem dX6_laysSpots_3 : decode cX6_laysSpots 3 = .ok (.aload_n 0, 1) := by decide +kernel
theorem dX6_laysSpots_4 : decode cX6_laysSpots 4 = .ok (.getfield 60, 3) := by decide +kernel
theorem dX6_laysSpots_7 : decode cX6_laysSpots 7 = .ok (.aload_n 0, 1) := by decide +kernel
theorem dX6_laysSpots_8 : decode cX6_laysSpots 8 = .ok (.getfield 67, 3) := by decide +kernel
theorem dX6_laysSpots_11 : decode cX6_laysSpots 11 = .ok (.imul, 1) := by decide +kernel
theorem dX6_laysSpots_12 : decode cX6_laysSpots 12 = .ok (.if_icmp .ge 33, 3) := by decide +kernel
theorem dX6_laysSpots_15 : decode cX6_laysSpots 15 = .ok (.aload_n 0, 1) := by decide +kernel
theorem dX6_laysSpots_16 : decode cX6_laysSpots 16 = .ok (.getfield 47, 3) := by decide +kernel
theorem dX6_laysSpots_19 : decode cX6_laysSpots 19 = .ok (.iload_n 1, 1) := by decide +kernel
theorem dX6_laysSpots_20 : decode cX6_laysSpots 20 = .ok (.aload_n 0, 1) := by decide +kernel
theorem dX6_laysSpots_21 : decode cX6_laysSpots 21 = .ok (.iload_n 1, 1) := by decide +kernel
theorem dX6_laysSpots_22 : decode cX6_laysSpots 22 = .ok (.aload_n 0, 1) := by decide +kernel
theorem dX6_laysSpots_23 : decode cX6_laysSpots 23 = .ok (.getfield 60, 3) := by decide +kernel
theorem dX6_laysSpots_26 : decode cX6_laysSpots 26 = .ok (.irem, 1) := by decide +kernel
theorem dX6_laysSpots_27 : decode cX6_laysSpots 27 = .ok (.iload_n 1, 1) := by decide +kernel
theorem dX6_laysSpots_28 : decode cX6_laysSpots 28 = .ok (.aload_n 0, 1) := by decide +kernel
theorem dX6_laysSpots_29 : decode cX6_laysSpots 29 = .ok (.getfield 60, 3) := by decide +kernel
theorem dX6_laysSpots_32 : decode cX6_laysSpots 32 = .ok (.idiv, 1) := by decide +kernel
theorem dX6_laysSpots_33 : decode cX6_laysSpots 33 = .ok (.bipush (-9), 2) := by decide +kernel
theorem dX6_laysSpots_35 : decode cX6_laysSpots 35 = .ok (.invokevirtual 155, 3) := by decide +kernel
theorem dX6_laysSpots_38 : decode cX6_laysSpots 38 = .ok (.iastore, 1) := by decide +kernel
theorem dX6_laysSpots_39 : decode cX6_laysSpots 39 = .ok (.iinc 1 1, 3) := by decide +kernel
theorem dX6_laysSpots_42 : decode cX6_laysSpots 42 = .ok (.goto (-40), 3) := by decide +kernel
theorem dX6_laysSpots_45 : decode cX6_laysSpots 45 = .ok (.return_, 1) := by decide +kernel
theorem dX6_isEnough_0 : decode cX6_isEnough 0 = .ok (.iconst 0, 1) := by decide +kernel
theorem dX6_isEnough_1 : decode cX6_isEnough 1 = .ok (.istore_n 2, 1) := by decide +kernel
theorem dX6_isEnough_2 : decode cX6_isEnough 2 = .ok (.iload_n 2, 1) := by decide +kernel
theorem dX6_isEnough_3 : decode cX6_isEnough 3 = .ok (.aload_n 0, 1) := by decide +kernel
theorem dX6_isEnough_4 : decode cX6_isEnough 4 = .ok (.getfield 60, 3) := by decide +kernel
theorem dX6_isEnough_7 : decode cX6_isEnough 7 = .ok (.aload_n 0, 1) := by decide +kernel
theorem dX6_isEnough_8 : decode cX6_isEnough 8 = .ok (.getfield 67, 3) := by decide +kernel
theorem dX6_isEnough_11 : decode cX6_isEnough 11 = .ok (.imul, 1) := by decide +kernel
theorem dX6_isEnough_12 : decode cX6_isEnough 12 = .ok (.if_icmp .ge 31, 3) := by decide +kernel
theorem dX6_isEnough_15 : decode cX6_isEnough 15 = .ok (.aload_n 0, 1) := by decide +kernel
theorem dX6_isEnough_16 : decode cX6_isEnough 16 = .ok (.getfield 47, 3) := by decide +kernel
theorem dX6_isEnough_19 : decode cX6_isEnough 19 = .ok (.iload_n 2, 1) := by decide +kernel
theorem dX6_isEnough_20 : decode cX6_isEnough 20 = .ok (.iaload, 1) := by decide +kernel
theorem dX6_isEnough_21 : decode cX6_isEnough 21 = .ok (.ifCond .eq 16, 3) := by decide +kernel
theorem dX6_isEnough_24 : decode cX6_isEnough 24 = .ok (.aload_n 0, 1) := by decide +kernel
theorem dX6_isEnough_25 : decode cX6_isEnough 25 = .ok (.getfield 47, 3) := by decide +kernel
theorem dX6_isEnough_28 : decode cX6_isEnough 28 = .ok (.iload_n 2, 1) := by decide +kernel
theorem dX6_isEnough_29 : decode cX6_isEnough 29 = .ok (.iaload, 1) := by decide +kernel
theorem dX6_isEnough_30 : decode cX6_isEnough 30 = .ok (.iload_n 1, 1) := by decide +kernel
theorem dX6_isEnough_31 : decode cX6_isEnough 31 = .ok (.iand, 1) := by decide +kernel
theorem dX6_isEnough_32 : decode cX6_isEnough 32 = .ok (.ifCond .ne 5, 3) := by decide +kernel
theorem dX6_isEnough_35 : decode cX6_isEnough 35 = .ok (.iconst 0, 1) := by decide +kernel
theorem dX6_isEnough_36 : decode cX6_isEnough 36 = .ok (.ireturn, 1) := by decide +kernel
theorem dX6_isEnough_37 : decode cX6_isEnough 37 = .ok (.iinc 2 1, 3) := by decide +kernel
theorem dX6_isEnough_40 : decode cX6_isEnough 40 = .ok (.goto (-38), 3) := by decide +kernel
theorem dX6_isEnough_43 : decode cX6_isEnough 43 = .ok (.iconst 1, 1) := by decide +kernel
theorem dX6_isEnough_44 : decode cX6_isEnough 44 = .ok (.ireturn, 1) := by decide +kernel
theorem dX6_ones_0 : decode cX6_ones 0 = .ok (.iconst 0, 1) := by decide +kernel
theorem dX6_ones_1 : decode cX6_ones 1 = .ok (.istore_n 1, 1) := by decide +kernel
theorem dX6_ones_2 : decode cX6_ones 2 = .ok (.iconst 0, 1) := by decide +kernel
theorem dX6_ones_3 : decode cX6_ones 3 = .ok (.istore_n 2, 1) := by decide +kernel
theorem dX6_ones_4 : decode cX6_ones 4 = .ok (.iload_n 2, 1) := by decide +kernel
theorem dX6_ones_5 : decode cX6_ones 5 = .ok (.bipush 8, 2) := by decide +kernel
theorem dX6_ones_7 : decode cX6_ones 7 = .ok (.if_icmp .ge 17, 3) := by decide +kernel
theorem dX6_ones_10 : decode cX6_ones 10 = .ok (.iload_n 1, 1) := by decide +kernel
theorem dX6_ones_11 : decode cX6_ones 11 = .ok (.iload_n 0, 1) := by decide +kernel
