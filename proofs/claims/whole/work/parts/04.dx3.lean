theorem dX3_init_0 : decode cX3_init 0 = .ok (.aload_n 0, 1) := by decide +kernel
theorem dX3_init_1 : decode cX3_init 1 = .ok (.invokespecial 1, 3) := by decide +kernel
theorem dX3_init_4 : decode cX3_init 4 = .ok (.aload_n 0, 1) := by decide +kernel
theorem dX3_init_5 : decode cX3_init 5 = .ok (.sipush 1024, 3) := by decide +kernel
theorem dX3_init_8 : decode cX3_init 8 = .ok (.newarray .boolean, 2) := by decide +kernel
theorem dX3_init_10 : decode cX3_init 10 = .ok (.putfield 7, 3) := by decide +kernel
theorem dX3_init_13 : decode cX3_init 13 = .ok (.aload_n 0, 1) := by decide +kernel
theorem dX3_init_14 : decode cX3_init 14 = .ok (.sipush 128, 3) := by decide +kernel
theorem dX3_init_17 : decode cX3_init 17 = .ok (.newarray .int, 2) := by decide +kernel
theorem dX3_init_19 : decode cX3_init 19 = .ok (.putfield 13, 3) := by decide +kernel
theorem dX3_init_22 : decode cX3_init 22 = .ok (.aload_n 0, 1) := by decide +kernel
theorem dX3_init_23 : decode cX3_init 23 = .ok (.sipush 512, 3) := by decide +kernel
theorem dX3_init_26 : decode cX3_init 26 = .ok (.newarray .boolean, 2) := by decide +kernel
theorem dX3_init_28 : decode cX3_init 28 = .ok (.putfield 17, 3) := by decide +kernel
theorem dX3_init_31 : decode cX3_init 31 = .ok (.aload_n 0, 1) := by decide +kernel
theorem dX3_init_32 : decode cX3_init 32 = .ok (.sipush 8192, 3) := by decide +kernel
theorem dX3_init_35 : decode cX3_init 35 = .ok (.newarray .int, 2) := by decide +kernel
theorem dX3_init_37 : decode cX3_init 37 = .ok (.putfield 20, 3) := by decide +kernel
theorem dX3_init_40 : decode cX3_init 40 = .ok (.aload_n 0, 1) := by decide +kernel
theorem dX3_init_41 : decode cX3_init 41 = .ok (.sipush 128, 3) := by decide +kernel
theorem dX3_init_44 : decode cX3_init 44 = .ok (.newarray .int, 2) := by decide +kernel
theorem dX3_init_46 : decode cX3_init 46 = .ok (.putfield 23, 3) := by decide +kernel
theorem dX3_init_49 : decode cX3_init 49 = .ok (.aload_n 0, 1) := by decide +kernel
theorem dX3_init_50 : decode cX3_init 50 = .ok (.bipush 16, 2) := by decide +kernel
theorem dX3_init_52 : decode cX3_init 52 = .ok (.newarray .int, 2) := by decide +kernel
theorem dX3_init_54 : decode cX3_init 54 = .ok (.putfield 26, 3) := by decide +kernel
theorem dX3_init_57 : decode cX3_init 57 = .ok (.aload_n 0, 1) := by decide +kernel
theorem dX3_init_58 : decode cX3_init 58 = .ok (.bipush 16, 2) := by decide +kernel
theorem dX3_init_60 : decode cX3_init 60 = .ok (.newarray .int, 2) := by decide +kernel
theorem dX3_init_62 : decode cX3_init 62 = .ok (.putfield 29, 3) := by decide +kernel
theorem dX3_init_65 : decode cX3_init 65 = .ok (.aload_n 0, 1) := by decide +kernel
theorem dX3_init_66 : decode cX3_init 66 = .ok (.bipush 16, 2) := by decide +kernel
theorem dX3_init_68 : decode cX3_init 68 = .ok (.newarray .int, 2) := by decide +kernel
theorem dX3_init_70 : decode cX3_init 70 = .ok (.putfield 32, 3) := by decide +kernel
theorem dX3_init_73 : decode cX3_init 73 = .ok (.aload_n 0, 1) := by decide +kernel
theorem dX3_init_74 : decode cX3_init 74 = .ok (.bipush 16, 2) := by decide +kernel
theorem dX3_init_76 : decode cX3_init 76 = .ok (.newarray .int, 2) := by decide +kernel
theorem dX3_init_78 : decode cX3_init 78 = .ok (.putfield 35, 3) := by decide +kernel
theorem dX3_init_81 : decode cX3_init 81 = .ok (.aload_n 0, 1) := by decide +kernel
theorem dX3_init_82 : decode cX3_init 82 = .ok (.bipush 16, 2) := by decide +kernel
theorem dX3_init_84 : decode cX3_init 84 = .ok (.newarray .int, 2) := by decide +kernel
theorem dX3_init_86 : decode cX3_init 86 = .ok (.putfield 38, 3) := by decide +kernel
theorem dX3_init_89 : decode cX3_init 89 = .ok (.aload_n 0, 1) := by decide +kernel
theorem dX3_init_90 : decode cX3_init 90 = .ok (.sipush 4096, 3) := by decide +kernel
theorem dX3_init_93 : decode cX3_init 93 = .ok (.newarray .int, 2) := by decide +kernel
theorem dX3_init_95 : decode cX3_init 95 = .ok (.putfield 41, 3) := by decide +kernel
theorem dX3_init_98 : decode cX3_init 98 = .ok (.aload_n 0, 1) := by decide +kernel
theorem dX3_init_99 : decode cX3_init 99 = .ok (.sipush 256, 3) := by decide +kernel
theorem dX3_init_102 : decode cX3_init 102 = .ok (.newarray .int, 2) := by decide +kernel
theorem dX3_init_104 : decode cX3_init 104 = .ok (.putfield 44, 3) := by decide +kernel
theorem dX3_init_107 : decode cX3_init 107 = .ok (.aload_n 0, 1) := by decide +kernel
theorem dX3_init_108 : decode cX3_init 108 = .ok (.bipush 16, 2) := by decide +kernel
theorem dX3_init_110 : decode cX3_init 110 = .ok (.newarray .int, 2) := by decide +kernel
theorem dX3_init_112 : decode cX3_init 112 = .ok (.putfield 47, 3) := by decide +kernel
theorem dX3_init_115 : decode cX3_init 115 = .ok (.aload_n 0, 1) := by decide +kernel
theorem dX3_init_116 : decode cX3_init 116 = .ok (.sipush 1024, 3) := by decide +kernel
theorem dX3_init_119 : decode cX3_init 119 = .ok (.newarray .boolean, 2) := by decide +kernel
theorem dX3_init_121 : decode cX3_init 121 = .ok (.putfield 50, 3) := by decide +kernel
theorem dX3_init_124 : decode cX3_init 124 = .ok (.aload_n 0, 1) := by decide +kernel
theorem dX3_init_125 : decode cX3_init 125 = .ok (.sipush 128, 3) := by decide +kernel
theorem dX3_init_128 : decode cX3_init 128 = .ok (.newarray .int, 2) := by decide +kernel
theorem dX3_init_130 : decode cX3_init 130 = .ok (.putfield 53, 3) := by decide +kernel
theorem dX3_init_133 : decode cX3_init 133 = .ok (.aload_n 0, 1) := by decide +kernel
theorem dX3_init_134 : decode cX3_init 134 = .ok (.sipush 512, 3) := by decide +kernel
theorem dX3_init_137 : decode cX3_init 137 = .ok (.newarray .boolean, 2) := by decide +kernel
theorem dX3_init_139 : decode cX3_init 139 = .ok (.putfield 56, 3) := by decide +kernel
theorem dX3_init_142 : decode cX3_init 142 = .ok (.aload_n 0, 1) := by decide +kernel
theorem dX3_init_143 : decode cX3_init 143 = .ok (.getfield 7, 3) := by decide +kernel
theorem dX3_init_146 : decode cX3_init 146 = .ok (.sipush 896, 3) := by decide +kernel
theorem dX3_init_149 : decode cX3_init 149 = .ok (.iconst 1, 1) := by decide +kernel
theorem dX3_init_150 : decode cX3_init 150 = .ok (.bastore, 1) := by decide +kernel
theorem dX3_init_151 : decode cX3_init 151 = .ok (.iconst 0, 1) := by decide +kernel
theorem dX3_init_152 : decode cX3_init 152 = .ok (.istore_n 1, 1) := by decide +kernel
theorem dX3_init_153 : decode cX3_init 153 = .ok (.iload_n 1, 1) := by decide +kernel
theorem dX3_init_154 : decode cX3_init 154 = .ok (.sipush 128, 3) := by decide +kernel
theorem dX3_init_157 : decode cX3_init 157 = .ok (.if_icmp .ge 16, 3) := by decide +kernel
theorem dX3_init_160 : decode cX3_init 160 = .ok (.aload_n 0, 1) := by decide +kernel
theorem dX3_init_161 : decode cX3_init 161 = .ok (.getfield 23, 3) := by decide +kernel
theorem dX3_init_164 : decode cX3_init 164 = .ok (.iload_n 1, 1) := by decide +kernel
theorem dX3_init_165 : decode cX3_init 165 = .ok (.iconst (-1), 1) := by decide +kernel
theorem dX3_init_166 : decode cX3_init 166 = .ok (.iastore, 1) := by decide +kernel
theorem dX3_init_167 : decode cX3_init 167 = .ok (.iinc 1 1, 3) := by decide +kernel
theorem dX3_init_170 : decode cX3_init 170 = .ok (.goto (-17), 3) := by decide +kernel
theorem dX3_init_173 : decode cX3_init 173 = .ok (.return_, 1) := by decide +kernel
theorem dX3_takeBlock_0 : decode cX3_takeBlock 0 = .ok (.iload_n 1, 1) := by decide +kernel
theorem dX3_takeBlock_1 : decode cX3_takeBlock 1 = .ok (.istore_n 2, 1) := by decide +kernel
theorem dX3_takeBlock_2 : decode cX3_takeBlock 2 = .ok (.iload_n 2, 1) := by decide +kernel
theorem dX3_takeBlock_3 : decode cX3_takeBlock 3 = .ok (.bipush 8, 2) := by decide +kernel
theorem dX3_takeBlock_5 : decode cX3_takeBlock 5 = .ok (.if_icmp .ge 90, 3) := by decide +kernel
theorem dX3_takeBlock_8 : decode cX3_takeBlock 8 = .ok (.iconst 0, 1) := by decide +kernel
theorem dX3_takeBlock_9 : decode cX3_takeBlock 9 = .ok (.istore_n 3, 1) := by decide +kernel
theorem dX3_takeBlock_10 : decode cX3_takeBlock 10 = .ok (.iload_n 3, 1) := by decide +kernel
theorem dX3_takeBlock_11 : decode cX3_takeBlock 11 = .ok (.sipush 128, 3) := by decide +kernel
theorem dX3_takeBlock_14 : decode cX3_takeBlock 14 = .ok (.if_icmp .ge 75, 3) := by decide +kernel
theorem dX3_takeBlock_17 : decode cX3_takeBlock 17 = .ok (.aload_n 0, 1) := by decide +kernel
theorem dX3_takeBlock_18 : decode cX3_takeBlock 18 = .ok (.getfield 7, 3) := by decide +kernel
theorem dX3_takeBlock_21 : decode cX3_takeBlock 21 = .ok (.sipush 128, 3) := by decide +kernel
theorem dX3_takeBlock_24 : decode cX3_takeBlock 24 = .ok (.iload_n 2, 1) := by decide +kernel
theorem dX3_takeBlock_25 : decode cX3_takeBlock 25 = .ok (.imul, 1) := by decide +kernel
theorem dX3_takeBlock_26 : decode cX3_takeBlock 26 = .ok (.iload_n 3, 1) := by decide +kernel
theorem dX3_takeBlock_27 : decode cX3_takeBlock 27 = .ok (.iadd, 1) := by decide +kernel
theorem dX3_takeBlock_28 : decode cX3_takeBlock 28 = .ok (.baload, 1) := by decide +kernel
theorem dX3_takeBlock_29 : decode cX3_takeBlock 29 = .ok (.ifCond .eq 54, 3) := by decide +kernel
theorem dX3_takeBlock_32 : decode cX3_takeBlock 32 = .ok (.aload_n 0, 1) := by decide +kernel
theorem dX3_takeBlock_33 : decode cX3_takeBlock 33 = .ok (.getfield 7, 3) := by decide +kernel
theorem dX3_takeBlock_36 : decode cX3_takeBlock 36 = .ok (.sipush 128, 3) := by decide +kernel
theorem dX3_takeBlock_39 : decode cX3_takeBlock 39 = .ok (.iload_n 2, 1) := by decide +kernel
theorem dX3_takeBlock_40 : decode cX3_takeBlock 40 = .ok (.imul, 1) := by decide +kernel
theorem dX3_takeBlock_41 : decode cX3_takeBlock 41 = .ok (.iload_n 3, 1) := by decide +kernel
theorem dX3_takeBlock_42 : decode cX3_takeBlock 42 = .ok (.iadd, 1) := by decide +kernel
theorem dX3_takeBlock_43 : decode cX3_takeBlock 43 = .ok (.iconst 0, 1) := by decide +kernel
theorem dX3_takeBlock_44 : decode cX3_takeBlock 44 = .ok (.bastore, 1) := by decide +kernel
theorem dX3_takeBlock_45 : decode cX3_takeBlock 45 = .ok (.iload_n 2, 1) := by decide +kernel
theorem dX3_takeBlock_46 : decode cX3_takeBlock 46 = .ok (.iconst 1, 1) := by decide +kernel
theorem dX3_takeBlock_47 : decode cX3_takeBlock 47 = .ok (.isub, 1) := by decide +kernel
theorem dX3_takeBlock_48 : decode cX3_takeBlock 48 = .ok (.istore 4, 2) := by decide +kernel
theorem dX3_takeBlock_50 : decode cX3_takeBlock 50 = .ok (.iload 4, 2) := by decide +kernel
theorem dX3_takeBlock_52 : decode cX3_takeBlock 52 = .ok (.iload_n 1, 1) := by decide +kernel
theorem dX3_takeBlock_53 : decode cX3_takeBlock 53 = .ok (.if_icmp .lt 28, 3) := by decide +kernel
theorem dX3_takeBlock_56 : decode cX3_takeBlock 56 = .ok (.aload_n 0, 1) := by decide +kernel
theorem dX3_takeBlock_57 : decode cX3_takeBlock 57 = .ok (.getfield 7, 3) := by decide +kernel
theorem dX3_takeBlock_60 : decode cX3_takeBlock 60 = .ok (.sipush 128, 3) := by decide +kernel
theorem dX3_takeBlock_63 : decode cX3_takeBlock 63 = .ok (.iload 4, 2) := by decide +kernel
theorem dX3_takeBlock_65 : decode cX3_takeBlock 65 = .ok (.imul, 1) := by decide +kernel
theorem dX3_takeBlock_66 : decode cX3_takeBlock 66 = .ok (.iload_n 3, 1) := by decide +kernel
theorem dX3_takeBlock_67 : decode cX3_takeBlock 67 = .ok (.iadd, 1) := by decide +kernel
theorem dX3_takeBlock_68 : decode cX3_takeBlock 68 = .ok (.iconst 1, 1) := by decide +kernel
theorem dX3_takeBlock_69 : decode cX3_takeBlock 69 = .ok (.iload 4, 2) := by decide +kernel
theorem dX3_takeBlock_71 : decode cX3_takeBlock 71 = .ok (.ishl, 1) := by decide +kernel
theorem dX3_takeBlock_72 : decode cX3_takeBlock 72 = .ok (.iadd, 1) := by decide +kernel
theorem dX3_takeBlock_73 : decode cX3_takeBlock 73 = .ok (.iconst 1, 1) := by decide +kernel
theorem dX3_takeBlock_74 : decode cX3_takeBlock 74 = .ok (.bastore, 1) := by decide +kernel
theorem dX3_takeBlock_75 : decode cX3_takeBlock 75 = .ok (.iinc 4 (-1), 3) := by decide +kernel
theorem dX3_takeBlock_78 : decode cX3_takeBlock 78 = .ok (.goto (-28), 3) := by decide +kernel
theorem dX3_takeBlock_81 : decode cX3_takeBlock 81 = .ok (.iload_n 3, 1) := by decide +kernel
theorem dX3_takeBlock_82 : decode cX3_takeBlock 82 = .ok (.ireturn, 1) := by decide +kernel
theorem dX3_takeBlock_83 : decode cX3_takeBlock 83 = .ok (.iinc 3 1, 3) := by decide +kernel
theorem dX3_takeBlock_86 : decode cX3_takeBlock 86 = .ok (.goto (-76), 3) := by decide +kernel
theorem dX3_takeBlock_89 : decode cX3_takeBlock 89 = .ok (.iinc 2 1, 3) := by decide +kernel
theorem dX3_takeBlock_92 : decode cX3_takeBlock 92 = .ok (.goto (-90), 3) := by decide +kernel
theorem dX3_takeBlock_95 : decode cX3_takeBlock 95 = .ok (.iconst (-1), 1) := by decide +kernel
theorem dX3_takeBlock_96 : decode cX3_takeBlock 96 = .ok (.ireturn, 1) := by decide +kernel
theorem dX3_giveBlock_0 : decode cX3_giveBlock 0 = .ok (.iload_n 1, 1) := by decide +kernel
theorem dX3_giveBlock_1 : decode cX3_giveBlock 1 = .ok (.istore_n 3, 1) := by decide +kernel
theorem dX3_giveBlock_2 : decode cX3_giveBlock 2 = .ok (.iload_n 2, 1) := by decide +kernel
theorem dX3_giveBlock_3 : decode cX3_giveBlock 3 = .ok (.istore 4, 2) := by decide +kernel
theorem dX3_giveBlock_5 : decode cX3_giveBlock 5 = .ok (.iload_n 1, 1) := by decide +kernel
theorem dX3_giveBlock_6 : decode cX3_giveBlock 6 = .ok (.istore 5, 2) := by decide +kernel
theorem dX3_giveBlock_8 : decode cX3_giveBlock 8 = .ok (.iload 5, 2) := by decide +kernel
theorem dX3_giveBlock_10 : decode cX3_giveBlock 10 = .ok (.iload_n 1, 1) := by decide +kernel
theorem dX3_giveBlock_11 : decode cX3_giveBlock 11 = .ok (.iconst 1, 1) := by decide +kernel
theorem dX3_giveBlock_12 : decode cX3_giveBlock 12 = .ok (.iload_n 2, 1) := by decide +kernel
theorem dX3_giveBlock_13 : decode cX3_giveBlock 13 = .ok (.ishl, 1) := by decide +kernel
theorem dX3_giveBlock_14 : decode cX3_giveBlock 14 = .ok (.iadd, 1) := by decide +kernel
theorem dX3_giveBlock_15 : decode cX3_giveBlock 15 = .ok (.if_icmp .ge 17, 3) := by decide +kernel
theorem dX3_giveBlock_18 : decode cX3_giveBlock 18 = .ok (.aload_n 0, 1) := by decide +kernel
theorem dX3_giveBlock_19 : decode cX3_giveBlock 19 = .ok (.getfield 13, 3) := by decide +kernel
theorem dX3_giveBlock_22 : decode cX3_giveBlock 22 = .ok (.iload 5, 2) := by decide +kernel
theorem dX3_giveBlock_24 : decode cX3_giveBlock 24 = .ok (.iconst 0, 1) := by decide +kernel
theorem dX3_giveBlock_25 : decode cX3_giveBlock 25 = .ok (.iastore, 1) := by decide +kernel
theorem dX3_giveBlock_26 : decode cX3_giveBlock 26 = .ok (.iinc 5 1, 3) := by decide +kernel
theorem dX3_giveBlock_29 : decode cX3_giveBlock 29 = .ok (.goto (-21), 3) := by decide +kernel
theorem dX3_giveBlock_32 : decode cX3_giveBlock 32 = .ok (.iload 4, 2) := by decide +kernel
theorem dX3_giveBlock_34 : decode cX3_giveBlock 34 = .ok (.bipush 7, 2) := by decide +kernel
theorem dX3_giveBlock_36 : decode cX3_giveBlock 36 = .ok (.if_icmp .ge 58, 3) := by decide +kernel
theorem dX3_giveBlock_39 : decode cX3_giveBlock 39 = .ok (.aload_n 0, 1) := by decide +kernel
theorem dX3_giveBlock_40 : decode cX3_giveBlock 40 = .ok (.getfield 7, 3) := by decide +kernel
theorem dX3_giveBlock_43 : decode cX3_giveBlock 43 = .ok (.sipush 128, 3) := by decide +kernel
theorem dX3_giveBlock_46 : decode cX3_giveBlock 46 = .ok (.iload 4, 2) := by decide +kernel
theorem dX3_giveBlock_48 : decode cX3_giveBlock 48 = .ok (.imul, 1) := by decide +kernel
theorem dX3_giveBlock_49 : decode cX3_giveBlock 49 = .ok (.iload_n 3, 1) := by decide +kernel
theorem dX3_giveBlock_50 : decode cX3_giveBlock 50 = .ok (.iconst 1, 1) := by decide +kernel
theorem dX3_giveBlock_51 : decode cX3_giveBlock 51 = .ok (.iload 4, 2) := by decide +kernel
theorem dX3_giveBlock_53 : decode cX3_giveBlock 53 = .ok (.ishl, 1) := by decide +kernel
theorem dX3_giveBlock_54 : decode cX3_giveBlock 54 = .ok (.ixor, 1) := by decide +kernel
theorem dX3_giveBlock_55 : decode cX3_giveBlock 55 = .ok (.iadd, 1) := by decide +kernel
theorem dX3_giveBlock_56 : decode cX3_giveBlock 56 = .ok (.baload, 1) := by decide +kernel
theorem dX3_giveBlock_57 : decode cX3_giveBlock 57 = .ok (.ifCond .eq 37, 3) := by decide +kernel
theorem dX3_giveBlock_60 : decode cX3_giveBlock 60 = .ok (.aload_n 0, 1) := by decide +kernel
theorem dX3_giveBlock_61 : decode cX3_giveBlock 61 = .ok (.getfield 7, 3) := by decide +kernel
theorem dX3_giveBlock_64 : decode cX3_giveBlock 64 = .ok (.sipush 128, 3) := by decide +kernel
theorem dX3_giveBlock_67 : decode cX3_giveBlock 67 = .ok (.iload 4, 2) := by decide +kernel
theorem dX3_giveBlock_69 : decode cX3_giveBlock 69 = .ok (.imul, 1) := by decide +kernel
theorem dX3_giveBlock_70 : decode cX3_giveBlock 70 = .ok (.iload_n 3, 1) := by decide +kernel
theorem dX3_giveBlock_71 : decode cX3_giveBlock 71 = .ok (.iconst 1, 1) := by decide +kernel
theorem dX3_giveBlock_72 : decode cX3_giveBlock 72 = .ok (.iload 4, 2) := by decide +kernel
theorem dX3_giveBlock_74 : decode cX3_giveBlock 74 = .ok (.ishl, 1) := by decide +kernel
theorem dX3_giveBlock_75 : decode cX3_giveBlock 75 = .ok (.ixor, 1) := by decide +kernel
theorem dX3_giveBlock_76 : decode cX3_giveBlock 76 = .ok (.iadd, 1) := by decide +kernel
theorem dX3_giveBlock_77 : decode cX3_giveBlock 77 = .ok (.iconst 0, 1) := by decide +kernel
theorem dX3_giveBlock_78 : decode cX3_giveBlock 78 = .ok (.bastore, 1) := by decide +kernel
theorem dX3_giveBlock_79 : decode cX3_giveBlock 79 = .ok (.iload_n 3, 1) := by decide +kernel
theorem dX3_giveBlock_80 : decode cX3_giveBlock 80 = .ok (.iconst 1, 1) := by decide +kernel
theorem dX3_giveBlock_81 : decode cX3_giveBlock 81 = .ok (.iload 4, 2) := by decide +kernel
theorem dX3_giveBlock_83 : decode cX3_giveBlock 83 = .ok (.ishl, 1) := by decide +kernel
theorem dX3_giveBlock_84 : decode cX3_giveBlock 84 = .ok (.iconst (-1), 1) := by decide +kernel
theorem dX3_giveBlock_85 : decode cX3_giveBlock 85 = .ok (.ixor, 1) := by decide +kernel
theorem dX3_giveBlock_86 : decode cX3_giveBlock 86 = .ok (.iand, 1) := by decide +kernel
theorem dX3_giveBlock_87 : decode cX3_giveBlock 87 = .ok (.istore_n 3, 1) := by decide +kernel
theorem dX3_giveBlock_88 : decode cX3_giveBlock 88 = .ok (.iinc 4 1, 3) := by decide +kernel
theorem dX3_giveBlock_91 : decode cX3_giveBlock 91 = .ok (.goto (-59), 3) := by decide +kernel
theorem dX3_giveBlock_94 : decode cX3_giveBlock 94 = .ok (.aload_n 0, 1) := by decide +kernel
theorem dX3_giveBlock_95 : decode cX3_giveBlock 95 = .ok (.getfield 7, 3) := by decide +kernel
theorem dX3_giveBlock_98 : decode cX3_giveBlock 98 = .ok (.sipush 128, 3) := by decide +kernel
theorem dX3_giveBlock_101 : decode cX3_giveBlock 101 = .ok (.iload 4, 2) := by decide +kernel
theorem dX3_giveBlock_103 : decode cX3_giveBlock 103 = .ok (.imul, 1) := by decide +kernel
theorem dX3_giveBlock_104 : decode cX3_giveBlock 104 = .ok (.iload_n 3, 1) := by decide +kernel
theorem dX3_giveBlock_105 : decode cX3_giveBlock 105 = .ok (.iadd, 1) := by decide +kernel
theorem dX3_giveBlock_106 : decode cX3_giveBlock 106 = .ok (.iconst 1, 1) := by decide +kernel
theorem dX3_giveBlock_107 : decode cX3_giveBlock 107 = .ok (.bastore, 1) := by decide +kernel
theorem dX3_giveBlock_108 : decode cX3_giveBlock 108 = .ok (.return_, 1) := by decide +kernel
theorem dX3_takeFrame_0 : decode cX3_takeFrame 0 = .ok (.aload_n 0, 1) := by decide +kernel
theorem dX3_takeFrame_1 : decode cX3_takeFrame 1 = .ok (.iconst 0, 1) := by decide +kernel
theorem dX3_takeFrame_2 : decode cX3_takeFrame 2 = .ok (.invokevirtual 59, 3) := by decide +kernel
theorem dX3_takeFrame_5 : decode cX3_takeFrame 5 = .ok (.istore_n 2, 1) := by decide +kernel
theorem dX3_takeFrame_6 : decode cX3_takeFrame 6 = .ok (.iload_n 2, 1) := by decide +kernel
theorem dX3_takeFrame_7 : decode cX3_takeFrame 7 = .ok (.ifCond .lt 10, 3) := by decide +kernel
theorem dX3_takeFrame_10 : decode cX3_takeFrame 10 = .ok (.aload_n 0, 1) := by decide +kernel
theorem dX3_takeFrame_11 : decode cX3_takeFrame 11 = .ok (.getfield 13, 3) := by decide +kernel
theorem dX3_takeFrame_14 : decode cX3_takeFrame 14 = .ok (.iload_n 2, 1) := by decide +kernel
theorem dX3_takeFrame_15 : decode cX3_takeFrame 15 = .ok (.iload_n 1, 1) := by decide +kernel
theorem dX3_takeFrame_16 : decode cX3_takeFrame 16 = .ok (.iastore, 1) := by decide +kernel
theorem dX3_takeFrame_17 : decode cX3_takeFrame 17 = .ok (.iload_n 2, 1) := by decide +kernel
theorem dX3_takeFrame_18 : decode cX3_takeFrame 18 = .ok (.ireturn, 1) := by decide +kernel
theorem dX3_layAside_0 : decode cX3_layAside 0 = .ok (.iconst 0, 1) := by decide +kernel
theorem dX3_layAside_1 : decode cX3_layAside 1 = .ok (.istore_n 1, 1) := by decide +kernel
theorem dX3_layAside_2 : decode cX3_layAside 2 = .ok (.iload_n 1, 1) := by decide +kernel
theorem dX3_layAside_3 : decode cX3_layAside 3 = .ok (.sipush 1024, 3) := by decide +kernel
theorem dX3_layAside_6 : decode cX3_layAside 6 = .ok (.if_icmp .ge 21, 3) := by decide +kernel
theorem dX3_layAside_9 : decode cX3_layAside 9 = .ok (.aload_n 0, 1) := by decide +kernel
theorem dX3_layAside_10 : decode cX3_layAside 10 = .ok (.getfield 50, 3) := by decide +kernel
theorem dX3_layAside_13 : decode cX3_layAside 13 = .ok (.iload_n 1, 1) := by decide +kernel
theorem dX3_layAside_14 : decode cX3_layAside 14 = .ok (.aload_n 0, 1) := by decide +kernel
theorem dX3_layAside_15 : decode cX3_layAside 15 = .ok (.getfield 7, 3) := by decide +kernel
theorem dX3_layAside_18 : decode cX3_layAside 18 = .ok (.iload_n 1, 1) := by decide +kernel
theorem dX3_layAside_19 : decode cX3_layAside 19 = .ok (.baload, 1) := by decide +kernel
theorem dX3_layAside_20 : decode cX3_layAside 20 = .ok (.bastore, 1) := by decide +kernel
theorem dX3_layAside_21 : decode cX3_layAside 21 = .ok (.iinc 1 1, 3) := by decide +kernel
theorem dX3_layAside_24 : decode cX3_layAside 24 = .ok (.goto (-22), 3) := by decide +kernel
theorem dX3_layAside_27 : decode cX3_layAside 27 = .ok (.iconst 0, 1) := by decide +kernel
theorem dX3_layAside_28 : decode cX3_layAside 28 = .ok (.istore_n 1, 1) := by decide +kernel
theorem dX3_layAside_29 : decode cX3_layAside 29 = .ok (.iload_n 1, 1) := by decide +kernel
theorem dX3_layAside_30 : decode cX3_layAside 30 = .ok (.sipush 128, 3) := by decide +kernel
theorem dX3_layAside_33 : decode cX3_layAside 33 = .ok (.if_icmp .ge 21, 3) := by decide +kernel
theorem dX3_layAside_36 : decode cX3_layAside 36 = .ok (.aload_n 0, 1) := by decide +kernel
theorem dX3_layAside_37 : decode cX3_layAside 37 = .ok (.getfield 53, 3) := by decide +kernel
theorem dX3_layAside_40 : decode cX3_layAside 40 = .ok (.iload_n 1, 1) := by decide +kernel
theorem dX3_layAside_41 : decode cX3_layAside 41 = .ok (.aload_n 0, 1) := by decide +kernel
theorem dX3_layAside_42 : decode cX3_layAside 42 = .ok (.getfield 13, 3) := by decide +kernel
theorem dX3_layAside_45 : decode cX3_layAside 45 = .ok (.iload_n 1, 1) := by decide +kernel
theorem dX3_layAside_46 : decode cX3_layAside 46 = .ok (.iaload, 1) := by decide +kernel
theorem dX3_layAside_47 : decode cX3_layAside 47 = .ok (.iastore, 1) := by decide +kernel
theorem dX3_layAside_48 : decode cX3_layAside 48 = .ok (.iinc 1 1, 3) := by decide +kernel
theorem dX3_layAside_51 : decode cX3_layAside 51 = .ok (.goto (-22), 3) := by decide +kernel
theorem dX3_layAside_54 : decode cX3_layAside 54 = .ok (.iconst 0, 1) := by decide +kernel
theorem dX3_layAside_55 : decode cX3_layAside 55 = .ok (.istore_n 1, 1) := by decide +kernel
theorem dX3_layAside_56 : decode cX3_layAside 56 = .ok (.iload_n 1, 1) := by decide +kernel
theorem dX3_layAside_57 : decode cX3_layAside 57 = .ok (.sipush 512, 3) := by decide +kernel
theorem dX3_layAside_60 : decode cX3_layAside 60 = .ok (.if_icmp .ge 21, 3) := by decide +kernel
theorem dX3_layAside_63 : decode cX3_layAside 63 = .ok (.aload_n 0, 1) := by decide +kernel
theorem dX3_layAside_64 : decode cX3_layAside 64 = .ok (.getfield 56, 3) := by decide +kernel
theorem dX3_layAside_67 : decode cX3_layAside 67 = .ok (.iload_n 1, 1) := by decide +kernel
theorem dX3_layAside_68 : decode cX3_layAside 68 = .ok (.aload_n 0, 1) := by decide +kernel
theorem dX3_layAside_69 : decode cX3_layAside 69 = .ok (.getfield 17, 3) := by decide +kernel
theorem dX3_layAside_72 : decode cX3_layAside 72 = .ok (.iload_n 1, 1) := by decide +kernel
theorem dX3_layAside_73 : decode cX3_layAside 73 = .ok (.baload, 1) := by decide +kernel
theorem dX3_layAside_74 : decode cX3_layAside 74 = .ok (.bastore, 1) := by decide +kernel
theorem dX3_layAside_75 : decode cX3_layAside 75 = .ok (.iinc 1 1, 3) := by decide +kernel
theorem dX3_layAside_78 : decode cX3_layAside 78 = .ok (.goto (-22), 3) := by decide +kernel
theorem dX3_layAside_81 : decode cX3_layAside 81 = .ok (.return_, 1) := by decide +kernel
theorem dX3_fail_0 : decode cX3_fail 0 = .ok (.iconst 0, 1) := by decide +kernel
theorem dX3_fail_1 : decode cX3_fail 1 = .ok (.istore_n 1, 1) := by decide +kernel
theorem dX3_fail_2 : decode cX3_fail 2 = .ok (.iload_n 1, 1) := by decide +kernel
theorem dX3_fail_3 : decode cX3_fail 3 = .ok (.sipush 1024, 3) := by decide +kernel
theorem dX3_fail_6 : decode cX3_fail 6 = .ok (.if_icmp .ge 21, 3) := by decide +kernel
theorem dX3_fail_9 : decode cX3_fail 9 = .ok (.aload_n 0, 1) := by decide +kernel
theorem dX3_fail_10 : decode cX3_fail 10 = .ok (.getfield 7, 3) := by decide +kernel
theorem dX3_fail_13 : decode cX3_fail 13 = .ok (.iload_n 1, 1) := by decide +kernel
theorem dX3_fail_14 : decode cX3_fail 14 = .ok (.aload_n 0, 1) := by decide +kernel
theorem dX3_fail_15 : decode cX3_fail 15 = .ok (.getfield 50, 3) := by decide +kernel
theorem dX3_fail_18 : decode cX3_fail 18 = .ok (.iload_n 1, 1) := by decide +kernel
theorem dX3_fail_19 : decode cX3_fail 19 = .ok (.baload, 1) := by decide +kernel
theorem dX3_fail_20 : decode cX3_fail 20 = .ok (.bastore, 1) := by decide +kernel
theorem dX3_fail_21 : decode cX3_fail 21 = .ok (.iinc 1 1, 3) := by decide +kernel
theorem dX3_fail_24 : decode cX3_fail 24 = .ok (.goto (-22), 3) := by decide +kernel
theorem dX3_fail_27 : decode cX3_fail 27 = .ok (.iconst 0, 1) := by decide +kernel
theorem dX3_fail_28 : decode cX3_fail 28 = .ok (.istore_n 1, 1) := by decide +kernel
theorem dX3_fail_29 : decode cX3_fail 29 = .ok (.iload_n 1, 1) := by decide +kernel
theorem dX3_fail_30 : decode cX3_fail 30 = .ok (.sipush 128, 3) := by decide +kernel
theorem dX3_fail_33 : decode cX3_fail 33 = .ok (.if_icmp .ge 21, 3) := by decide +kernel
theorem dX3_fail_36 : decode cX3_fail 36 = .ok (.aload_n 0, 1) := by decide +kernel
theorem dX3_fail_37 : decode cX3_fail 37 = .ok (.getfield 13, 3) := by decide +kernel
theorem dX3_fail_40 : decode cX3_fail 40 = .ok (.iload_n 1, 1) := by decide +kernel
theorem dX3_fail_41 : decode cX3_fail 41 = .ok (.aload_n 0, 1) := by decide +kernel
theorem dX3_fail_42 : decode cX3_fail 42 = .ok (.getfield 53, 3) := by decide +kernel
theorem dX3_fail_45 : decode cX3_fail 45 = .ok (.iload_n 1, 1) := by decide +kernel
theorem dX3_fail_46 : decode cX3_fail 46 = .ok (.iaload, 1) := by decide +kernel
theorem dX3_fail_47 : decode cX3_fail 47 = .ok (.iastore, 1) := by decide +kernel
theorem dX3_fail_48 : decode cX3_fail 48 = .ok (.iinc 1 1, 3) := by decide +kernel
theorem dX3_fail_51 : decode cX3_fail 51 = .ok (.goto (-22), 3) := by decide +kernel
theorem dX3_fail_54 : decode cX3_fail 54 = .ok (.iconst 0, 1) := by decide +kernel
theorem dX3_fail_55 : decode cX3_fail 55 = .ok (.istore_n 1, 1) := by decide +kernel
theorem dX3_fail_56 : decode cX3_fail 56 = .ok (.iload_n 1, 1) := by decide +kernel
theorem dX3_fail_57 : decode cX3_fail 57 = .ok (.sipush 512, 3) := by decide +kernel
theorem dX3_fail_60 : decode cX3_fail 60 = .ok (.if_icmp .ge 21, 3) := by decide +kernel
theorem dX3_fail_63 : decode cX3_fail 63 = .ok (.aload_n 0, 1) := by decide +kernel
theorem dX3_fail_64 : decode cX3_fail 64 = .ok (.getfield 17, 3) := by decide +kernel
theorem dX3_fail_67 : decode cX3_fail 67 = .ok (.iload_n 1, 1) := by decide +kernel
theorem dX3_fail_68 : decode cX3_fail 68 = .ok (.aload_n 0, 1) := by decide +kernel
theorem dX3_fail_69 : decode cX3_fail 69 = .ok (.getfield 56, 3) := by decide +kernel
theorem dX3_fail_72 : decode cX3_fail 72 = .ok (.iload_n 1, 1) := by decide +kernel
theorem dX3_fail_73 : decode cX3_fail 73 = .ok (.baload, 1) := by decide +kernel
theorem dX3_fail_74 : decode cX3_fail 74 = .ok (.bastore, 1) := by decide +kernel
theorem dX3_fail_75 : decode cX3_fail 75 = .ok (.iinc 1 1, 3) := by decide +kernel
theorem dX3_fail_78 : decode cX3_fail 78 = .ok (.goto (-22), 3) := by decide +kernel
theorem dX3_fail_81 : decode cX3_fail 81 = .ok (.aload_n 0, 1) := by decide +kernel
theorem dX3_fail_82 : decode cX3_fail 82 = .ok (.dup, 1) := by decide +kernel
theorem dX3_fail_83 : decode cX3_fail 83 = .ok (.getfield 63, 3) := by decide +kernel
theorem dX3_fail_86 : decode cX3_fail 86 = .ok (.iconst 1, 1) := by decide +kernel
theorem dX3_fail_87 : decode cX3_fail 87 = .ok (.iadd, 1) := by decide +kernel
theorem dX3_fail_88 : decode cX3_fail 88 = .ok (.putfield 63, 3) := by decide +kernel
theorem dX3_fail_91 : decode cX3_fail 91 = .ok (.bipush (-3), 2) := by decide +kernel
theorem dX3_fail_93 : decode cX3_fail 93 = .ok (.ireturn, 1) := by decide +kernel
theorem dX3_freePlace_0 : decode cX3_freePlace 0 = .ok (.iconst 4, 1) := by decide +kernel
theorem dX3_freePlace_1 : decode cX3_freePlace 1 = .ok (.iload_n 1, 1) := by decide +kernel
theorem dX3_freePlace_2 : decode cX3_freePlace 2 = .ok (.imul, 1) := by decide +kernel
theorem dX3_freePlace_3 : decode cX3_freePlace 3 = .ok (.istore_n 2, 1) := by decide +kernel
theorem dX3_freePlace_4 : decode cX3_freePlace 4 = .ok (.iload_n 2, 1) := by decide +kernel
theorem dX3_freePlace_5 : decode cX3_freePlace 5 = .ok (.iconst 4, 1) := by decide +kernel
theorem dX3_freePlace_6 : decode cX3_freePlace 6 = .ok (.iload_n 1, 1) := by decide +kernel
theorem dX3_freePlace_7 : decode cX3_freePlace 7 = .ok (.imul, 1) := by decide +kernel
theorem dX3_freePlace_8 : decode cX3_freePlace 8 = .ok (.iconst 4, 1) := by decide +kernel
theorem dX3_freePlace_9 : decode cX3_freePlace 9 = .ok (.iadd, 1) := by decide +kernel
theorem dX3_freePlace_10 : decode cX3_freePlace 10 = .ok (.if_icmp .ge 20, 3) := by decide +kernel
theorem dX3_freePlace_13 : decode cX3_freePlace 13 = .ok (.aload_n 0, 1) := by decide +kernel
theorem dX3_freePlace_14 : decode cX3_freePlace 14 = .ok (.getfield 17, 3) := by decide +kernel
theorem dX3_freePlace_17 : decode cX3_freePlace 17 = .ok (.iload_n 2, 1) := by decide +kernel
theorem dX3_freePlace_18 : decode cX3_freePlace 18 = .ok (.baload, 1) := by decide +kernel
theorem dX3_freePlace_19 : decode cX3_freePlace 19 = .ok (.ifCond .ne 5, 3) := by decide +kernel
theorem dX3_freePlace_22 : decode cX3_freePlace 22 = .ok (.iload_n 2, 1) := by decide +kernel
theorem dX3_freePlace_23 : decode cX3_freePlace 23 = .ok (.ireturn, 1) := by decide +kernel
theorem dX3_freePlace_24 : decode cX3_freePlace 24 = .ok (.iinc 2 1, 3) := by decide +kernel
theorem dX3_freePlace_27 : decode cX3_freePlace 27 = .ok (.goto (-23), 3) := by decide +kernel
theorem dX3_freePlace_30 : decode cX3_freePlace 30 = .ok (.iconst (-1), 1) := by decide +kernel
theorem dX3_freePlace_31 : decode cX3_freePlace 31 = .ok (.ireturn, 1) := by decide +kernel
theorem dX3_takeSmall_0 : decode cX3_takeSmall 0 = .ok (.iconst (-1), 1) := by decide +kernel
theorem dX3_takeSmall_1 : decode cX3_takeSmall 1 = .ok (.istore_n 2, 1) := by decide +kernel
theorem dX3_takeSmall_2 : decode cX3_takeSmall 2 = .ok (.iconst 0, 1) := by decide +kernel
theorem dX3_takeSmall_3 : decode cX3_takeSmall 3 = .ok (.istore_n 3, 1) := by decide +kernel
theorem dX3_takeSmall_4 : decode cX3_takeSmall 4 = .ok (.iload_n 3, 1) := by decide +kernel
theorem dX3_takeSmall_5 : decode cX3_takeSmall 5 = .ok (.sipush 128, 3) := by decide +kernel
theorem dX3_takeSmall_8 : decode cX3_takeSmall 8 = .ok (.if_icmp .ge 33, 3) := by decide +kernel
theorem dX3_takeSmall_11 : decode cX3_takeSmall 11 = .ok (.iload_n 2, 1) := by decide +kernel
theorem dX3_takeSmall_12 : decode cX3_takeSmall 12 = .ok (.ifCond .ge 29, 3) := by decide +kernel
theorem dX3_takeSmall_15 : decode cX3_takeSmall 15 = .ok (.aload_n 0, 1) := by decide +kernel
theorem dX3_takeSmall_16 : decode cX3_takeSmall 16 = .ok (.getfield 13, 3) := by decide +kernel
theorem dX3_takeSmall_19 : decode cX3_takeSmall 19 = .ok (.iload_n 3, 1) := by decide +kernel
theorem dX3_takeSmall_20 : decode cX3_takeSmall 20 = .ok (.iaload, 1) := by decide +kernel
theorem dX3_takeSmall_21 : decode cX3_takeSmall 21 = .ok (.iload_n 1, 1) := by decide +kernel
theorem dX3_takeSmall_22 : decode cX3_takeSmall 22 = .ok (.if_icmp .ne 11, 3) := by decide +kernel
theorem dX3_takeSmall_25 : decode cX3_takeSmall 25 = .ok (.aload_n 0, 1) := by decide +kernel
theorem dX3_takeSmall_26 : decode cX3_takeSmall 26 = .ok (.iload_n 3, 1) := by decide +kernel
theorem dX3_takeSmall_27 : decode cX3_takeSmall 27 = .ok (.invokevirtual 67, 3) := by decide +kernel
theorem dX3_takeSmall_30 : decode cX3_takeSmall 30 = .ok (.goto 4, 3) := by decide +kernel
theorem dX3_takeSmall_33 : decode cX3_takeSmall 33 = .ok (.iconst (-1), 1) := by decide +kernel
theorem dX3_takeSmall_34 : decode cX3_takeSmall 34 = .ok (.istore_n 2, 1) := by decide +kernel
theorem dX3_takeSmall_35 : decode cX3_takeSmall 35 = .ok (.iinc 3 1, 3) := by decide +kernel
theorem dX3_takeSmall_38 : decode cX3_takeSmall 38 = .ok (.goto (-34), 3) := by decide +kernel
theorem dX3_takeSmall_41 : decode cX3_takeSmall 41 = .ok (.iload_n 2, 1) := by decide +kernel
theorem dX3_takeSmall_42 : decode cX3_takeSmall 42 = .ok (.ifCond .ge 21, 3) := by decide +kernel
theorem dX3_takeSmall_45 : decode cX3_takeSmall 45 = .ok (.aload_n 0, 1) := by decide +kernel
theorem dX3_takeSmall_46 : decode cX3_takeSmall 46 = .ok (.iload_n 1, 1) := by decide +kernel
theorem dX3_takeSmall_47 : decode cX3_takeSmall 47 = .ok (.invokevirtual 70, 3) := by decide +kernel
theorem dX3_takeSmall_50 : decode cX3_takeSmall 50 = .ok (.istore_n 3, 1) := by decide +kernel
theorem dX3_takeSmall_51 : decode cX3_takeSmall 51 = .ok (.iload_n 3, 1) := by decide +kernel
theorem dX3_takeSmall_52 : decode cX3_takeSmall 52 = .ok (.ifCond .ge 7, 3) := by decide +kernel
theorem dX3_takeSmall_55 : decode cX3_takeSmall 55 = .ok (.iconst (-1), 1) := by decide +kernel
theorem dX3_takeSmall_56 : decode cX3_takeSmall 56 = .ok (.goto 6, 3) := by decide +kernel
theorem dX3_takeSmall_59 : decode cX3_takeSmall 59 = .ok (.iconst 4, 1) := by decide +kernel
theorem dX3_takeSmall_60 : decode cX3_takeSmall 60 = .ok (.iload_n 3, 1) := by decide +kernel
theorem dX3_takeSmall_61 : decode cX3_takeSmall 61 = .ok (.imul, 1) := by decide +kernel
theorem dX3_takeSmall_62 : decode cX3_takeSmall 62 = .ok (.istore_n 2, 1) := by decide +kernel
theorem dX3_takeSmall_63 : decode cX3_takeSmall 63 = .ok (.iload_n 2, 1) := by decide +kernel
theorem dX3_takeSmall_64 : decode cX3_takeSmall 64 = .ok (.ifCond .lt 10, 3) := by decide +kernel
theorem dX3_takeSmall_67 : decode cX3_takeSmall 67 = .ok (.aload_n 0, 1) := by decide +kernel
theorem dX3_takeSmall_68 : decode cX3_takeSmall 68 = .ok (.getfield 17, 3) := by decide +kernel
theorem dX3_takeSmall_71 : decode cX3_takeSmall 71 = .ok (.iload_n 2, 1) := by decide +kernel
theorem dX3_takeSmall_72 : decode cX3_takeSmall 72 = .ok (.iconst 1, 1) := by decide +kernel
theorem dX3_takeSmall_73 : decode cX3_takeSmall 73 = .ok (.bastore, 1) := by decide +kernel
theorem dX3_takeSmall_74 : decode cX3_takeSmall 74 = .ok (.iload_n 2, 1) := by decide +kernel
theorem dX3_takeSmall_75 : decode cX3_takeSmall 75 = .ok (.ireturn, 1) := by decide +kernel
theorem dX3_smallIn_0 : decode cX3_smallIn 0 = .ok (.iconst 0, 1) := by decide +kernel
theorem dX3_smallIn_1 : decode cX3_smallIn 1 = .ok (.istore_n 2, 1) := by decide +kernel
theorem dX3_smallIn_2 : decode cX3_smallIn 2 = .ok (.iconst 4, 1) := by decide +kernel
theorem dX3_smallIn_3 : decode cX3_smallIn 3 = .ok (.iload_n 1, 1) := by decide +kernel
theorem dX3_smallIn_4 : decode cX3_smallIn 4 = .ok (.imul, 1) := by decide +kernel
theorem dX3_smallIn_5 : decode cX3_smallIn 5 = .ok (.istore_n 3, 1) := by decide +kernel
theorem dX3_smallIn_6 : decode cX3_smallIn 6 = .ok (.iload_n 3, 1) := by decide +kernel
theorem dX3_smallIn_7 : decode cX3_smallIn 7 = .ok (.iconst 4, 1) := by decide +kernel
theorem dX3_smallIn_8 : decode cX3_smallIn 8 = .ok (.iload_n 1, 1) := by decide +kernel
theorem dX3_smallIn_9 : decode cX3_smallIn 9 = .ok (.imul, 1) := by decide +kernel
theorem dX3_smallIn_10 : decode cX3_smallIn 10 = .ok (.iconst 4, 1) := by decide +kernel
theorem dX3_smallIn_11 : decode cX3_smallIn 11 = .ok (.iadd, 1) := by decide +kernel
theorem dX3_smallIn_12 : decode cX3_smallIn 12 = .ok (.if_icmp .ge 26, 3) := by decide +kernel
theorem dX3_smallIn_15 : decode cX3_smallIn 15 = .ok (.iload_n 2, 1) := by decide +kernel
theorem dX3_smallIn_16 : decode cX3_smallIn 16 = .ok (.aload_n 0, 1) := by decide +kernel
theorem dX3_smallIn_17 : decode cX3_smallIn 17 = .ok (.getfield 17, 3) := by decide +kernel
theorem dX3_smallIn_20 : decode cX3_smallIn 20 = .ok (.iload_n 3, 1) := by decide +kernel
theorem dX3_smallIn_21 : decode cX3_smallIn 21 = .ok (.baload, 1) := by decide +kernel
theorem dX3_smallIn_22 : decode cX3_smallIn 22 = .ok (.ifCond .eq 7, 3) := by decide +kernel
theorem dX3_smallIn_25 : decode cX3_smallIn 25 = .ok (.iconst 1, 1) := by decide +kernel
theorem dX3_smallIn_26 : decode cX3_smallIn 26 = .ok (.goto 4, 3) := by decide +kernel
theorem dX3_smallIn_29 : decode cX3_smallIn 29 = .ok (.iconst 0, 1) := by decide +kernel
theorem dX3_smallIn_30 : decode cX3_smallIn 30 = .ok (.iadd, 1) := by decide +kernel
theorem dX3_smallIn_31 : decode cX3_smallIn 31 = .ok (.istore_n 2, 1) := by decide +kernel
theorem dX3_smallIn_32 : decode cX3_smallIn 32 = .ok (.iinc 3 1, 3) := by decide +kernel
theorem dX3_smallIn_35 : decode cX3_smallIn 35 = .ok (.goto (-29), 3) := by decide +kernel
theorem dX3_smallIn_38 : decode cX3_smallIn 38 = .ok (.iload_n 2, 1) := by decide +kernel
theorem dX3_smallIn_39 : decode cX3_smallIn 39 = .ok (.ireturn, 1) := by decide +kernel
theorem dX3_giveSmall_0 : decode cX3_giveSmall 0 = .ok (.aload_n 0, 1) := by decide +kernel
theorem dX3_giveSmall_1 : decode cX3_giveSmall 1 = .ok (.getfield 17, 3) := by decide +kernel
theorem dX3_giveSmall_4 : decode cX3_giveSmall 4 = .ok (.iload_n 1, 1) := by decide +kernel
theorem dX3_giveSmall_5 : decode cX3_giveSmall 5 = .ok (.iconst 0, 1) := by decide +kernel
theorem dX3_giveSmall_6 : decode cX3_giveSmall 6 = .ok (.bastore, 1) := by decide +kernel
theorem dX3_giveSmall_7 : decode cX3_giveSmall 7 = .ok (.aload_n 0, 1) := by decide +kernel
theorem dX3_giveSmall_8 : decode cX3_giveSmall 8 = .ok (.iload_n 1, 1) := by decide +kernel
theorem dX3_giveSmall_9 : decode cX3_giveSmall 9 = .ok (.iconst 4, 1) := by decide +kernel
theorem dX3_giveSmall_10 : decode cX3_giveSmall 10 = .ok (.idiv, 1) := by decide +kernel
theorem dX3_giveSmall_11 : decode cX3_giveSmall 11 = .ok (.invokevirtual 73, 3) := by decide +kernel
theorem dX3_giveSmall_14 : decode cX3_giveSmall 14 = .ok (.ifCond .ne 11, 3) := by decide +kernel
theorem dX3_giveSmall_17 : decode cX3_giveSmall 17 = .ok (.aload_n 0, 1) := by decide +kernel
theorem dX3_giveSmall_18 : decode cX3_giveSmall 18 = .ok (.iload_n 1, 1) := by decide +kernel
theorem dX3_giveSmall_19 : decode cX3_giveSmall 19 = .ok (.iconst 4, 1) := by decide +kernel
theorem dX3_giveSmall_20 : decode cX3_giveSmall 20 = .ok (.idiv, 1) := by decide +kernel
theorem dX3_giveSmall_21 : decode cX3_giveSmall 21 = .ok (.iconst 0, 1) := by decide +kernel
theorem dX3_giveSmall_22 : decode cX3_giveSmall 22 = .ok (.invokevirtual 76, 3) := by decide +kernel
theorem dX3_giveSmall_25 : decode cX3_giveSmall 25 = .ok (.return_, 1) := by decide +kernel
theorem dX3_isLive_0 : decode cX3_isLive 0 = .ok (.iload_n 1, 1) := by decide +kernel
theorem dX3_isLive_1 : decode cX3_isLive 1 = .ok (.ifCond .lt 23, 3) := by decide +kernel
theorem dX3_isLive_4 : decode cX3_isLive 4 = .ok (.iload_n 1, 1) := by decide +kernel
theorem dX3_isLive_5 : decode cX3_isLive 5 = .ok (.bipush 16, 2) := by decide +kernel
theorem dX3_isLive_7 : decode cX3_isLive 7 = .ok (.if_icmp .ge 17, 3) := by decide +kernel
theorem dX3_isLive_10 : decode cX3_isLive 10 = .ok (.aload_n 0, 1) := by decide +kernel
theorem dX3_isLive_11 : decode cX3_isLive 11 = .ok (.getfield 26, 3) := by decide +kernel
theorem dX3_isLive_14 : decode cX3_isLive 14 = .ok (.iload_n 1, 1) := by decide +kernel
theorem dX3_isLive_15 : decode cX3_isLive 15 = .ok (.iaload, 1) := by decide +kernel
theorem dX3_isLive_16 : decode cX3_isLive 16 = .ok (.iconst 1, 1) := by decide +kernel
theorem dX3_isLive_17 : decode cX3_isLive 17 = .ok (.if_icmp .ne 7, 3) := by decide +kernel
theorem dX3_isLive_20 : decode cX3_isLive 20 = .ok (.iconst 1, 1) := by decide +kernel
theorem dX3_isLive_21 : decode cX3_isLive 21 = .ok (.goto 4, 3) := by decide +kernel
theorem dX3_isLive_24 : decode cX3_isLive 24 = .ok (.iconst 0, 1) := by decide +kernel
theorem dX3_isLive_25 : decode cX3_isLive 25 = .ok (.ireturn, 1) := by decide +kernel
theorem dX3_unusedNumber_0 : decode cX3_unusedNumber 0 = .ok (.iconst 0, 1) := by decide +kernel
theorem dX3_unusedNumber_1 : decode cX3_unusedNumber 1 = .ok (.istore_n 1, 1) := by decide +kernel
theorem dX3_unusedNumber_2 : decode cX3_unusedNumber 2 = .ok (.iload_n 1, 1) := by decide +kernel
theorem dX3_unusedNumber_3 : decode cX3_unusedNumber 3 = .ok (.bipush 16, 2) := by decide +kernel
theorem dX3_unusedNumber_5 : decode cX3_unusedNumber 5 = .ok (.if_icmp .ge 20, 3) := by decide +kernel
theorem dX3_unusedNumber_8 : decode cX3_unusedNumber 8 = .ok (.aload_n 0, 1) := by decide +kernel
theorem dX3_unusedNumber_9 : decode cX3_unusedNumber 9 = .ok (.getfield 26, 3) := by decide +kernel
theorem dX3_unusedNumber_12 : decode cX3_unusedNumber 12 = .ok (.iload_n 1, 1) := by decide +kernel
theorem dX3_unusedNumber_13 : decode cX3_unusedNumber 13 = .ok (.iaload, 1) := by decide +kernel
theorem dX3_unusedNumber_14 : decode cX3_unusedNumber 14 = .ok (.ifCond .ne 5, 3) := by decide +kernel
theorem dX3_unusedNumber_17 : decode cX3_unusedNumber 17 = .ok (.iload_n 1, 1) := by decide +kernel
theorem dX3_unusedNumber_18 : decode cX3_unusedNumber 18 = .ok (.ireturn, 1) := by decide +kernel
theorem dX3_unusedNumber_19 : decode cX3_unusedNumber 19 = .ok (.iinc 1 1, 3) := by decide +kernel
theorem dX3_unusedNumber_22 : decode cX3_unusedNumber 22 = .ok (.goto (-20), 3) := by decide +kernel
theorem dX3_unusedNumber_25 : decode cX3_unusedNumber 25 = .ok (.iconst (-1), 1) := by decide +kernel
theorem dX3_unusedNumber_26 : decode cX3_unusedNumber 26 = .ok (.ireturn, 1) := by decide +kernel
theorem dX3_begin_0 : decode cX3_begin 0 = .ok (.aload_n 0, 1) := by decide +kernel
theorem dX3_begin_1 : decode cX3_begin 1 = .ok (.getfield 26, 3) := by decide +kernel
theorem dX3_begin_4 : decode cX3_begin 4 = .ok (.iload_n 1, 1) := by decide +kernel
theorem dX3_begin_5 : decode cX3_begin 5 = .ok (.iconst 1, 1) := by decide +kernel
theorem dX3_begin_6 : decode cX3_begin 6 = .ok (.iastore, 1) := by decide +kernel
theorem dX3_begin_7 : decode cX3_begin 7 = .ok (.aload_n 0, 1) := by decide +kernel
theorem dX3_begin_8 : decode cX3_begin 8 = .ok (.getfield 38, 3) := by decide +kernel
theorem dX3_begin_11 : decode cX3_begin 11 = .ok (.iload_n 1, 1) := by decide +kernel
theorem dX3_begin_12 : decode cX3_begin 12 = .ok (.iload_n 2, 1) := by decide +kernel
theorem dX3_begin_13 : decode cX3_begin 13 = .ok (.iastore, 1) := by decide +kernel
theorem dX3_begin_14 : decode cX3_begin 14 = .ok (.aload_n 0, 1) := by decide +kernel
theorem dX3_begin_15 : decode cX3_begin 15 = .ok (.getfield 32, 3) := by decide +kernel
theorem dX3_begin_18 : decode cX3_begin 18 = .ok (.iload_n 1, 1) := by decide +kernel
theorem dX3_begin_19 : decode cX3_begin 19 = .ok (.iload_n 3, 1) := by decide +kernel
theorem dX3_begin_20 : decode cX3_begin 20 = .ok (.iastore, 1) := by decide +kernel
theorem dX3_begin_21 : decode cX3_begin 21 = .ok (.aload_n 0, 1) := by decide +kernel
theorem dX3_begin_22 : decode cX3_begin 22 = .ok (.getfield 29, 3) := by decide +kernel
theorem dX3_begin_25 : decode cX3_begin 25 = .ok (.iload_n 1, 1) := by decide +kernel
theorem dX3_begin_26 : decode cX3_begin 26 = .ok (.iconst 0, 1) := by decide +kernel
theorem dX3_begin_27 : decode cX3_begin 27 = .ok (.iastore, 1) := by decide +kernel
theorem dX3_begin_28 : decode cX3_begin 28 = .ok (.aload_n 0, 1) := by decide +kernel
theorem dX3_begin_29 : decode cX3_begin 29 = .ok (.getfield 47, 3) := by decide +kernel
theorem dX3_begin_32 : decode cX3_begin 32 = .ok (.aload_n 0, 1) := by decide +kernel
theorem dX3_begin_33 : decode cX3_begin 33 = .ok (.getfield 80, 3) := by decide +kernel
theorem dX3_begin_36 : decode cX3_begin 36 = .ok (.iload_n 1, 1) := by decide +kernel
theorem dX3_begin_37 : decode cX3_begin 37 = .ok (.iastore, 1) := by decide +kernel
theorem dX3_begin_38 : decode cX3_begin 38 = .ok (.aload_n 0, 1) := by decide +kernel
theorem dX3_begin_39 : decode cX3_begin 39 = .ok (.dup, 1) := by decide +kernel
theorem dX3_begin_40 : decode cX3_begin 40 = .ok (.getfield 80, 3) := by decide +kernel
theorem dX3_begin_43 : decode cX3_begin 43 = .ok (.iconst 1, 1) := by decide +kernel
theorem dX3_begin_44 : decode cX3_begin 44 = .ok (.iadd, 1) := by decide +kernel
theorem dX3_begin_45 : decode cX3_begin 45 = .ok (.putfield 80, 3) := by decide +kernel
theorem dX3_begin_48 : decode cX3_begin 48 = .ok (.return_, 1) := by decide +kernel
theorem dX3_spawn_0 : decode cX3_spawn 0 = .ok (.aload_n 0, 1) := by decide +kernel
theorem dX3_spawn_1 : decode cX3_spawn 1 = .ok (.invokevirtual 83, 3) := by decide +kernel
theorem dX3_spawn_4 : decode cX3_spawn 4 = .ok (.istore_n 1, 1) := by decide +kernel
theorem dX3_spawn_5 : decode cX3_spawn 5 = .ok (.iload_n 1, 1) := by decide +kernel
theorem dX3_spawn_6 : decode cX3_spawn 6 = .ok (.ifCond .ge 6, 3) := by decide +kernel
theorem dX3_spawn_9 : decode cX3_spawn 9 = .ok (.bipush (-4), 2) := by decide +kernel
theorem dX3_spawn_11 : decode cX3_spawn 11 = .ok (.ireturn, 1) := by decide +kernel
theorem dX3_spawn_12 : decode cX3_spawn 12 = .ok (.aload_n 0, 1) := by decide +kernel
theorem dX3_spawn_13 : decode cX3_spawn 13 = .ok (.invokevirtual 87, 3) := by decide +kernel
theorem dX3_spawn_16 : decode cX3_spawn 16 = .ok (.aload_n 0, 1) := by decide +kernel
theorem dX3_spawn_17 : decode cX3_spawn 17 = .ok (.iconst 1, 1) := by decide +kernel
theorem dX3_spawn_18 : decode cX3_spawn 18 = .ok (.invokevirtual 90, 3) := by decide +kernel
theorem dX3_spawn_21 : decode cX3_spawn 21 = .ok (.istore_n 2, 1) := by decide +kernel
theorem dX3_spawn_22 : decode cX3_spawn 22 = .ok (.iload_n 2, 1) := by decide +kernel
theorem dX3_spawn_23 : decode cX3_spawn 23 = .ok (.ifCond .ge 8, 3) := by decide +kernel
theorem dX3_spawn_26 : decode cX3_spawn 26 = .ok (.aload_n 0, 1) := by decide +kernel
theorem dX3_spawn_27 : decode cX3_spawn 27 = .ok (.invokevirtual 93, 3) := by decide +kernel
theorem dX3_spawn_30 : decode cX3_spawn 30 = .ok (.ireturn, 1) := by decide +kernel
theorem dX3_spawn_31 : decode cX3_spawn 31 = .ok (.aload_n 0, 1) := by decide +kernel
theorem dX3_spawn_32 : decode cX3_spawn 32 = .ok (.iload_n 1, 1) := by decide +kernel
theorem dX3_spawn_33 : decode cX3_spawn 33 = .ok (.iload_n 2, 1) := by decide +kernel
theorem dX3_spawn_34 : decode cX3_spawn 34 = .ok (.iconst (-1), 1) := by decide +kernel
theorem dX3_spawn_35 : decode cX3_spawn 35 = .ok (.invokevirtual 96, 3) := by decide +kernel
theorem dX3_spawn_38 : decode cX3_spawn 38 = .ok (.iload_n 1, 1) := by decide +kernel
theorem dX3_spawn_39 : decode cX3_spawn 39 = .ok (.ireturn, 1) := by decide +kernel
theorem dX3_fork_0 : decode cX3_fork 0 = .ok (.aload_n 0, 1) := by decide +kernel
theorem dX3_fork_1 : decode cX3_fork 1 = .ok (.iload_n 1, 1) := by decide +kernel
theorem dX3_fork_2 : decode cX3_fork 2 = .ok (.invokevirtual 100, 3) := by decide +kernel
theorem dX3_fork_5 : decode cX3_fork 5 = .ok (.ifCond .ne 6, 3) := by decide +kernel
theorem dX3_fork_8 : decode cX3_fork 8 = .ok (.bipush (-2), 2) := by decide +kernel
theorem dX3_fork_10 : decode cX3_fork 10 = .ok (.ireturn, 1) := by decide +kernel
theorem dX3_fork_11 : decode cX3_fork 11 = .ok (.aload_n 0, 1) := by decide +kernel
theorem dX3_fork_12 : decode cX3_fork 12 = .ok (.invokevirtual 83, 3) := by decide +kernel
theorem dX3_fork_15 : decode cX3_fork 15 = .ok (.istore_n 2, 1) := by decide +kernel
theorem dX3_fork_16 : decode cX3_fork 16 = .ok (.iload_n 2, 1) := by decide +kernel
theorem dX3_fork_17 : decode cX3_fork 17 = .ok (.ifCond .ge 6, 3) := by decide +kernel
theorem dX3_fork_20 : decode cX3_fork 20 = .ok (.bipush (-4), 2) := by decide +kernel
theorem dX3_fork_22 : decode cX3_fork 22 = .ok (.ireturn, 1) := by decide +kernel
theorem dX3_fork_23 : decode cX3_fork 23 = .ok (.aload_n 0, 1) := by decide +kernel
theorem dX3_fork_24 : decode cX3_fork 24 = .ok (.invokevirtual 87, 3) := by decide +kernel
theorem dX3_fork_27 : decode cX3_fork 27 = .ok (.aload_n 0, 1) := by decide +kernel
theorem dX3_fork_28 : decode cX3_fork 28 = .ok (.iconst 1, 1) := by decide +kernel
theorem dX3_fork_29 : decode cX3_fork 29 = .ok (.invokevirtual 90, 3) := by decide +kernel
theorem dX3_fork_32 : decode cX3_fork 32 = .ok (.istore_n 3, 1) := by decide +kernel
theorem dX3_fork_33 : decode cX3_fork 33 = .ok (.iload_n 3, 1) := by decide +kernel
theorem dX3_fork_34 : decode cX3_fork 34 = .ok (.ifCond .ge 8, 3) := by decide +kernel
theorem dX3_fork_37 : decode cX3_fork 37 = .ok (.aload_n 0, 1) := by decide +kernel
theorem dX3_fork_38 : decode cX3_fork 38 = .ok (.invokevirtual 93, 3) := by decide +kernel
theorem dX3_fork_41 : decode cX3_fork 41 = .ok (.ireturn, 1) := by decide +kernel
theorem dX3_fork_42 : decode cX3_fork 42 = .ok (.aload_n 0, 1) := by decide +kernel
theorem dX3_fork_43 : decode cX3_fork 43 = .ok (.getfield 29, 3) := by decide +kernel
theorem dX3_fork_46 : decode cX3_fork 46 = .ok (.iload_n 1, 1) := by decide +kernel
theorem dX3_fork_47 : decode cX3_fork 47 = .ok (.iaload, 1) := by decide +kernel
theorem dX3_fork_48 : decode cX3_fork 48 = .ok (.bipush 15, 2) := by decide +kernel
theorem dX3_fork_50 : decode cX3_fork 50 = .ok (.iadd, 1) := by decide +kernel
theorem dX3_fork_51 : decode cX3_fork 51 = .ok (.bipush 16, 2) := by decide +kernel
theorem dX3_fork_53 : decode cX3_fork 53 = .ok (.idiv, 1) := by decide +kernel
theorem dX3_fork_54 : decode cX3_fork 54 = .ok (.istore 4, 2) := by decide +kernel
theorem dX3_fork_56 : decode cX3_fork 56 = .ok (.iconst 0, 1) := by decide +kernel
theorem dX3_fork_57 : decode cX3_fork 57 = .ok (.istore 5, 2) := by decide +kernel
theorem dX3_fork_59 : decode cX3_fork 59 = .ok (.iload 5, 2) := by decide +kernel
theorem dX3_fork_61 : decode cX3_fork 61 = .ok (.iload 4, 2) := by decide +kernel
theorem dX3_fork_63 : decode cX3_fork 63 = .ok (.if_icmp .ge 46, 3) := by decide +kernel
theorem dX3_fork_66 : decode cX3_fork 66 = .ok (.aload_n 0, 1) := by decide +kernel
theorem dX3_fork_67 : decode cX3_fork 67 = .ok (.getfield 44, 3) := by decide +kernel
theorem dX3_fork_70 : decode cX3_fork 70 = .ok (.bipush 16, 2) := by decide +kernel
theorem dX3_fork_72 : decode cX3_fork 72 = .ok (.iload_n 2, 1) := by decide +kernel
theorem dX3_fork_73 : decode cX3_fork 73 = .ok (.imul, 1) := by decide +kernel
theorem dX3_fork_74 : decode cX3_fork 74 = .ok (.iload 5, 2) := by decide +kernel
theorem dX3_fork_76 : decode cX3_fork 76 = .ok (.iadd, 1) := by decide +kernel
theorem dX3_fork_77 : decode cX3_fork 77 = .ok (.aload_n 0, 1) := by decide +kernel
theorem dX3_fork_78 : decode cX3_fork 78 = .ok (.iconst 2, 1) := by decide +kernel
theorem dX3_fork_79 : decode cX3_fork 79 = .ok (.invokevirtual 90, 3) := by decide +kernel
theorem dX3_fork_82 : decode cX3_fork 82 = .ok (.iastore, 1) := by decide +kernel
theorem dX3_fork_83 : decode cX3_fork 83 = .ok (.aload_n 0, 1) := by decide +kernel
theorem dX3_fork_84 : decode cX3_fork 84 = .ok (.getfield 44, 3) := by decide +kernel
theorem dX3_fork_87 : decode cX3_fork 87 = .ok (.bipush 16, 2) := by decide +kernel
theorem dX3_fork_89 : decode cX3_fork 89 = .ok (.iload_n 2, 1) := by decide +kernel
theorem dX3_fork_90 : decode cX3_fork 90 = .ok (.imul, 1) := by decide +kernel
theorem dX3_fork_91 : decode cX3_fork 91 = .ok (.iload 5, 2) := by decide +kernel
theorem dX3_fork_93 : decode cX3_fork 93 = .ok (.iadd, 1) := by decide +kernel
theorem dX3_fork_94 : decode cX3_fork 94 = .ok (.iaload, 1) := by decide +kernel
theorem dX3_fork_95 : decode cX3_fork 95 = .ok (.ifCond .ge 8, 3) := by decide +kernel
theorem dX3_fork_98 : decode cX3_fork 98 = .ok (.aload_n 0, 1) := by decide +kernel
theorem dX3_fork_99 : decode cX3_fork 99 = .ok (.invokevirtual 93, 3) := by decide +kernel
theorem dX3_fork_102 : decode cX3_fork 102 = .ok (.ireturn, 1) := by decide +kernel
theorem dX3_fork_103 : decode cX3_fork 103 = .ok (.iinc 5 1, 3) := by decide +kernel
theorem dX3_fork_106 : decode cX3_fork 106 = .ok (.goto (-47), 3) := by decide +kernel
theorem dX3_fork_109 : decode cX3_fork 109 = .ok (.aload_n 0, 1) := by decide +kernel
theorem dX3_fork_110 : decode cX3_fork 110 = .ok (.iload_n 2, 1) := by decide +kernel
theorem dX3_fork_111 : decode cX3_fork 111 = .ok (.iload_n 3, 1) := by decide +kernel
theorem dX3_fork_112 : decode cX3_fork 112 = .ok (.iload_n 1, 1) := by decide +kernel
theorem dX3_fork_113 : decode cX3_fork 113 = .ok (.invokevirtual 96, 3) := by decide +kernel
theorem dX3_fork_116 : decode cX3_fork 116 = .ok (.aload_n 0, 1) := by decide +kernel
theorem dX3_fork_117 : decode cX3_fork 117 = .ok (.getfield 29, 3) := by decide +kernel
theorem dX3_fork_120 : decode cX3_fork 120 = .ok (.iload_n 2, 1) := by decide +kernel
theorem dX3_fork_121 : decode cX3_fork 121 = .ok (.aload_n 0, 1) := by decide +kernel
theorem dX3_fork_122 : decode cX3_fork 122 = .ok (.getfield 29, 3) := by decide +kernel
theorem dX3_fork_125 : decode cX3_fork 125 = .ok (.iload_n 1, 1) := by decide +kernel
theorem dX3_fork_126 : decode cX3_fork 126 = .ok (.iaload, 1) := by decide +kernel
theorem dX3_fork_127 : decode cX3_fork 127 = .ok (.iastore, 1) := by decide +kernel
theorem dX3_fork_128 : decode cX3_fork 128 = .ok (.iconst 0, 1) := by decide +kernel
theorem dX3_fork_129 : decode cX3_fork 129 = .ok (.istore 5, 2) := by decide +kernel
theorem dX3_fork_131 : decode cX3_fork 131 = .ok (.iload 5, 2) := by decide +kernel
theorem dX3_fork_133 : decode cX3_fork 133 = .ok (.aload_n 0, 1) := by decide +kernel
theorem dX3_fork_134 : decode cX3_fork 134 = .ok (.getfield 29, 3) := by decide +kernel
theorem dX3_fork_137 : decode cX3_fork 137 = .ok (.iload_n 2, 1) := by decide +kernel
theorem dX3_fork_138 : decode cX3_fork 138 = .ok (.iaload, 1) := by decide +kernel
theorem dX3_fork_139 : decode cX3_fork 139 = .ok (.if_icmp .ge 35, 3) := by decide +kernel
theorem dX3_fork_142 : decode cX3_fork 142 = .ok (.aload_n 0, 1) := by decide +kernel
theorem dX3_fork_143 : decode cX3_fork 143 = .ok (.getfield 41, 3) := by decide +kernel
theorem dX3_fork_146 : decode cX3_fork 146 = .ok (.sipush 256, 3) := by decide +kernel
theorem dX3_fork_149 : decode cX3_fork 149 = .ok (.iload_n 2, 1) := by decide +kernel
theorem dX3_fork_150 : decode cX3_fork 150 = .ok (.imul, 1) := by decide +kernel
theorem dX3_fork_151 : decode cX3_fork 151 = .ok (.iload 5, 2) := by decide +kernel
theorem dX3_fork_153 : decode cX3_fork 153 = .ok (.iadd, 1) := by decide +kernel
theorem dX3_fork_154 : decode cX3_fork 154 = .ok (.aload_n 0, 1) := by decide +kernel
theorem dX3_fork_155 : decode cX3_fork 155 = .ok (.getfield 41, 3) := by decide +kernel
theorem dX3_fork_158 : decode cX3_fork 158 = .ok (.sipush 256, 3) := by decide +kernel
theorem dX3_fork_161 : decode cX3_fork 161 = .ok (.iload_n 1, 1) := by decide +kernel
theorem dX3_fork_162 : decode cX3_fork 162 = .ok (.imul, 1) := by decide +kernel
theorem dX3_fork_163 : decode cX3_fork 163 = .ok (.iload 5, 2) := by decide +kernel
theorem dX3_fork_165 : decode cX3_fork 165 = .ok (.iadd, 1) := by decide +kernel
theorem dX3_fork_166 : decode cX3_fork 166 = .ok (.iaload, 1) := by decide +kernel
theorem dX3_fork_167 : decode cX3_fork 167 = .ok (.iastore, 1) := by decide +kernel
theorem dX3_fork_168 : decode cX3_fork 168 = .ok (.iinc 5 1, 3) := by decide +kernel
theorem dX3_fork_171 : decode cX3_fork 171 = .ok (.goto (-40), 3) := by decide +kernel
theorem dX3_fork_174 : decode cX3_fork 174 = .ok (.iload_n 2, 1) := by decide +kernel
theorem dX3_fork_175 : decode cX3_fork 175 = .ok (.ireturn, 1) := by decide +kernel
theorem dX3_users_0 : decode cX3_users 0 = .ok (.iconst 0, 1) := by decide +kernel
theorem dX3_users_1 : decode cX3_users 1 = .ok (.istore_n 2, 1) := by decide +kernel
theorem dX3_users_2 : decode cX3_users 2 = .ok (.iconst 0, 1) := by decide +kernel
theorem dX3_users_3 : decode cX3_users 3 = .ok (.istore_n 3, 1) := by decide +kernel
theorem dX3_users_4 : decode cX3_users 4 = .ok (.iload_n 3, 1) := by decide +kernel
theorem dX3_users_5 : decode cX3_users 5 = .ok (.bipush 16, 2) := by decide +kernel
theorem dX3_users_7 : decode cX3_users 7 = .ok (.if_icmp .ge 64, 3) := by decide +kernel
theorem dX3_users_10 : decode cX3_users 10 = .ok (.iconst 0, 1) := by decide +kernel
theorem dX3_users_11 : decode cX3_users 11 = .ok (.istore 4, 2) := by decide +kernel
theorem dX3_users_13 : decode cX3_users 13 = .ok (.iload 4, 2) := by decide +kernel
theorem dX3_users_15 : decode cX3_users 15 = .ok (.aload_n 0, 1) := by decide +kernel
theorem dX3_users_16 : decode cX3_users 16 = .ok (.getfield 29, 3) := by decide +kernel
theorem dX3_users_19 : decode cX3_users 19 = .ok (.iload_n 3, 1) := by decide +kernel
theorem dX3_users_20 : decode cX3_users 20 = .ok (.iaload, 1) := by decide +kernel
theorem dX3_users_21 : decode cX3_users 21 = .ok (.if_icmp .ge 44, 3) := by decide +kernel
theorem dX3_users_24 : decode cX3_users 24 = .ok (.aload_n 0, 1) := by decide +kernel
theorem dX3_users_25 : decode cX3_users 25 = .ok (.getfield 26, 3) := by decide +kernel
theorem dX3_users_28 : decode cX3_users 28 = .ok (.iload_n 3, 1) := by decide +kernel
theorem dX3_users_29 : decode cX3_users 29 = .ok (.iaload, 1) := by decide +kernel
theorem dX3_users_30 : decode cX3_users 30 = .ok (.iconst 1, 1) := by decide +kernel
theorem dX3_users_31 : decode cX3_users 31 = .ok (.if_icmp .ne 34, 3) := by decide +kernel
theorem dX3_users_34 : decode cX3_users 34 = .ok (.iload_n 2, 1) := by decide +kernel
theorem dX3_users_35 : decode cX3_users 35 = .ok (.aload_n 0, 1) := by decide +kernel
theorem dX3_users_36 : decode cX3_users 36 = .ok (.getfield 41, 3) := by decide +kernel
theorem dX3_users_39 : decode cX3_users 39 = .ok (.sipush 256, 3) := by decide +kernel
theorem dX3_users_42 : decode cX3_users 42 = .ok (.iload_n 3, 1) := by decide +kernel
theorem dX3_users_43 : decode cX3_users 43 = .ok (.imul, 1) := by decide +kernel
theorem dX3_users_44 : decode cX3_users 44 = .ok (.iload 4, 2) := by decide +kernel
theorem dX3_users_46 : decode cX3_users 46 = .ok (.iadd, 1) := by decide +kernel
theorem dX3_users_47 : decode cX3_users 47 = .ok (.iaload, 1) := by decide +kernel
theorem dX3_users_48 : decode cX3_users 48 = .ok (.iload_n 1, 1) := by decide +kernel
theorem dX3_users_49 : decode cX3_users 49 = .ok (.if_icmp .ne 7, 3) := by decide +kernel
theorem dX3_users_52 : decode cX3_users 52 = .ok (.iconst 1, 1) := by decide +kernel
theorem dX3_users_53 : decode cX3_users 53 = .ok (.goto 4, 3) := by decide +kernel
theorem dX3_users_56 : decode cX3_users 56 = .ok (.iconst 0, 1) := by decide +kernel
theorem dX3_users_57 : decode cX3_users 57 = .ok (.iadd, 1) := by decide +kernel
theorem dX3_users_58 : decode cX3_users 58 = .ok (.istore_n 2, 1) := by decide +kernel
theorem dX3_users_59 : decode cX3_users 59 = .ok (.iinc 4 1, 3) := by decide +kernel
theorem dX3_users_62 : decode cX3_users 62 = .ok (.goto (-49), 3) := by decide +kernel
theorem dX3_users_65 : decode cX3_users 65 = .ok (.iinc 3 1, 3) := by decide +kernel
theorem dX3_users_68 : decode cX3_users 68 = .ok (.goto (-64), 3) := by decide +kernel
theorem dX3_users_71 : decode cX3_users 71 = .ok (.iload_n 2, 1) := by decide +kernel
theorem dX3_users_72 : decode cX3_users 72 = .ok (.ireturn, 1) := by decide +kernel
theorem dX3_dropPage_0 : decode cX3_dropPage 0 = .ok (.aload_n 0, 1) := by decide +kernel
theorem dX3_dropPage_1 : decode cX3_dropPage 1 = .ok (.getfield 29, 3) := by decide +kernel
theorem dX3_dropPage_4 : decode cX3_dropPage 4 = .ok (.iload_n 1, 1) := by decide +kernel
theorem dX3_dropPage_5 : decode cX3_dropPage 5 = .ok (.iaload, 1) := by decide +kernel
theorem dX3_dropPage_6 : decode cX3_dropPage 6 = .ok (.iconst 1, 1) := by decide +kernel
theorem dX3_dropPage_7 : decode cX3_dropPage 7 = .ok (.isub, 1) := by decide +kernel
theorem dX3_dropPage_8 : decode cX3_dropPage 8 = .ok (.istore_n 2, 1) := by decide +kernel
theorem dX3_dropPage_9 : decode cX3_dropPage 9 = .ok (.aload_n 0, 1) := by decide +kernel
theorem dX3_dropPage_10 : decode cX3_dropPage 10 = .ok (.getfield 41, 3) := by decide +kernel
theorem dX3_dropPage_13 : decode cX3_dropPage 13 = .ok (.sipush 256, 3) := by decide +kernel
theorem dX3_dropPage_16 : decode cX3_dropPage 16 = .ok (.iload_n 1, 1) := by decide +kernel
theorem dX3_dropPage_17 : decode cX3_dropPage 17 = .ok (.imul, 1) := by decide +kernel
theorem dX3_dropPage_18 : decode cX3_dropPage 18 = .ok (.iload_n 2, 1) := by decide +kernel
theorem dX3_dropPage_19 : decode cX3_dropPage 19 = .ok (.iadd, 1) := by decide +kernel
theorem dX3_dropPage_20 : decode cX3_dropPage 20 = .ok (.iaload, 1) := by decide +kernel
theorem dX3_dropPage_21 : decode cX3_dropPage 21 = .ok (.istore_n 3, 1) := by decide +kernel
theorem dX3_dropPage_22 : decode cX3_dropPage 22 = .ok (.aload_n 0, 1) := by decide +kernel
theorem dX3_dropPage_23 : decode cX3_dropPage 23 = .ok (.iload_n 3, 1) := by decide +kernel
theorem dX3_dropPage_24 : decode cX3_dropPage 24 = .ok (.invokevirtual 104, 3) := by decide +kernel
theorem dX3_dropPage_27 : decode cX3_dropPage 27 = .ok (.iconst 1, 1) := by decide +kernel
theorem dX3_dropPage_28 : decode cX3_dropPage 28 = .ok (.if_icmp .ne 9, 3) := by decide +kernel
theorem dX3_dropPage_31 : decode cX3_dropPage 31 = .ok (.aload_n 0, 1) := by decide +kernel
theorem dX3_dropPage_32 : decode cX3_dropPage 32 = .ok (.iload_n 3, 1) := by decide +kernel
theorem dX3_dropPage_33 : decode cX3_dropPage 33 = .ok (.iconst 0, 1) := by decide +kernel
theorem dX3_dropPage_34 : decode cX3_dropPage 34 = .ok (.invokevirtual 76, 3) := by decide +kernel
theorem dX3_dropPage_37 : decode cX3_dropPage 37 = .ok (.aload_n 0, 1) := by decide +kernel
theorem dX3_dropPage_38 : decode cX3_dropPage 38 = .ok (.getfield 29, 3) := by decide +kernel
theorem dX3_dropPage_41 : decode cX3_dropPage 41 = .ok (.iload_n 1, 1) := by decide +kernel
theorem dX3_dropPage_42 : decode cX3_dropPage 42 = .ok (.iload_n 2, 1) := by decide +kernel
theorem dX3_dropPage_43 : decode cX3_dropPage 43 = .ok (.iastore, 1) := by decide +kernel
theorem dX3_dropPage_44 : decode cX3_dropPage 44 = .ok (.iload_n 2, 1) := by decide +kernel
theorem dX3_dropPage_45 : decode cX3_dropPage 45 = .ok (.bipush 16, 2) := by decide +kernel
theorem dX3_dropPage_47 : decode cX3_dropPage 47 = .ok (.irem, 1) := by decide +kernel
theorem dX3_dropPage_48 : decode cX3_dropPage 48 = .ok (.ifCond .ne 21, 3) := by decide +kernel
theorem dX3_dropPage_51 : decode cX3_dropPage 51 = .ok (.aload_n 0, 1) := by decide +kernel
theorem dX3_dropPage_52 : decode cX3_dropPage 52 = .ok (.aload_n 0, 1) := by decide +kernel
theorem dX3_dropPage_53 : decode cX3_dropPage 53 = .ok (.getfield 44, 3) := by decide +kernel
theorem dX3_dropPage_56 : decode cX3_dropPage 56 = .ok (.bipush 16, 2) := by decide +kernel
theorem dX3_dropPage_58 : decode cX3_dropPage 58 = .ok (.iload_n 1, 1) := by decide +kernel
theorem dX3_dropPage_59 : decode cX3_dropPage 59 = .ok (.imul, 1) := by decide +kernel
theorem dX3_dropPage_60 : decode cX3_dropPage 60 = .ok (.iload_n 2, 1) := by decide +kernel
theorem dX3_dropPage_61 : decode cX3_dropPage 61 = .ok (.bipush 16, 2) := by decide +kernel
theorem dX3_dropPage_63 : decode cX3_dropPage 63 = .ok (.idiv, 1) := by decide +kernel
theorem dX3_dropPage_64 : decode cX3_dropPage 64 = .ok (.iadd, 1) := by decide +kernel
theorem dX3_dropPage_65 : decode cX3_dropPage 65 = .ok (.iaload, 1) := by decide +kernel
theorem dX3_dropPage_66 : decode cX3_dropPage 66 = .ok (.invokevirtual 107, 3) := by decide +kernel
theorem dX3_dropPage_69 : decode cX3_dropPage 69 = .ok (.return_, 1) := by decide +kernel
theorem dX3_grow_0 : decode cX3_grow 0 = .ok (.aload_n 0, 1) := by decide +kernel
theorem dX3_grow_1 : decode cX3_grow 1 = .ok (.iload_n 1, 1) := by decide +kernel
theorem dX3_grow_2 : decode cX3_grow 2 = .ok (.invokevirtual 100, 3) := by decide +kernel
theorem dX3_grow_5 : decode cX3_grow 5 = .ok (.ifCond .eq 16, 3) := by decide +kernel
theorem dX3_grow_8 : decode cX3_grow 8 = .ok (.aload_n 0, 1) := by decide +kernel
theorem dX3_grow_9 : decode cX3_grow 9 = .ok (.getfield 29, 3) := by decide +kernel
theorem dX3_grow_12 : decode cX3_grow 12 = .ok (.iload_n 1, 1) := by decide +kernel
theorem dX3_grow_13 : decode cX3_grow 13 = .ok (.iaload, 1) := by decide +kernel
theorem dX3_grow_14 : decode cX3_grow 14 = .ok (.i2l, 1) := by decide +kernel
theorem dX3_grow_15 : decode cX3_grow 15 = .ok (.iload_n 2, 1) := by decide +kernel
theorem dX3_grow_16 : decode cX3_grow 16 = .ok (.i2l, 1) := by decide +kernel
theorem dX3_grow_17 : decode cX3_grow 17 = .ok (.ladd, 1) := by decide +kernel
theorem dX3_grow_18 : decode cX3_grow 18 = .ok (.goto 6, 3) := by decide +kernel
theorem dX3_grow_21 : decode cX3_grow 21 = .ok (.ldc2_w 111, 3) := by decide +kernel
theorem dX3_grow_24 : decode cX3_grow 24 = .ok (.lstore_n 3, 1) := by decide +kernel
theorem dX3_grow_25 : decode cX3_grow 25 = .ok (.lload_n 3, 1) := by decide +kernel
theorem dX3_grow_26 : decode cX3_grow 26 = .ok (.lconst 0, 1) := by decide +kernel
theorem dX3_grow_27 : decode cX3_grow 27 = .ok (.lcmp, 1) := by decide +kernel
theorem dX3_grow_28 : decode cX3_grow 28 = .ok (.ifCond .lt 11, 3) := by decide +kernel
theorem dX3_grow_31 : decode cX3_grow 31 = .ok (.lload_n 3, 1) := by decide +kernel
theorem dX3_grow_32 : decode cX3_grow 32 = .ok (.ldc2_w 113, 3) := by decide +kernel
theorem dX3_grow_35 : decode cX3_grow 35 = .ok (.lcmp, 1) := by decide +kernel
theorem dX3_grow_36 : decode cX3_grow 36 = .ok (.ifCond .le 6, 3) := by decide +kernel
theorem dX3_grow_39 : decode cX3_grow 39 = .ok (.bipush (-2), 2) := by decide +kernel
theorem dX3_grow_41 : decode cX3_grow 41 = .ok (.ireturn, 1) := by decide +kernel
theorem dX3_grow_42 : decode cX3_grow 42 = .ok (.aload_n 0, 1) := by decide +kernel
theorem dX3_grow_43 : decode cX3_grow 43 = .ok (.getfield 29, 3) := by decide +kernel
theorem dX3_grow_46 : decode cX3_grow 46 = .ok (.iload_n 1, 1) := by decide +kernel
theorem dX3_grow_47 : decode cX3_grow 47 = .ok (.iaload, 1) := by decide +kernel
theorem dX3_grow_48 : decode cX3_grow 48 = .ok (.istore 5, 2) := by decide +kernel
theorem dX3_grow_50 : decode cX3_grow 50 = .ok (.iload_n 2, 1) := by decide +kernel
theorem dX3_grow_51 : decode cX3_grow 51 = .ok (.ifCond .gt 26, 3) := by decide +kernel
theorem dX3_grow_54 : decode cX3_grow 54 = .ok (.aload_n 0, 1) := by decide +kernel
theorem dX3_grow_55 : decode cX3_grow 55 = .ok (.getfield 29, 3) := by decide +kernel
theorem dX3_grow_58 : decode cX3_grow 58 = .ok (.iload_n 1, 1) := by decide +kernel
theorem dX3_grow_59 : decode cX3_grow 59 = .ok (.iaload, 1) := by decide +kernel
theorem dX3_grow_60 : decode cX3_grow 60 = .ok (.i2l, 1) := by decide +kernel
theorem dX3_grow_61 : decode cX3_grow 61 = .ok (.lload_n 3, 1) := by decide +kernel
theorem dX3_grow_62 : decode cX3_grow 62 = .ok (.lcmp, 1) := by decide +kernel
theorem dX3_grow_63 : decode cX3_grow 63 = .ok (.ifCond .le 11, 3) := by decide +kernel
theorem dX3_grow_66 : decode cX3_grow 66 = .ok (.aload_n 0, 1) := by decide +kernel
theorem dX3_grow_67 : decode cX3_grow 67 = .ok (.iload_n 1, 1) := by decide +kernel
theorem dX3_grow_68 : decode cX3_grow 68 = .ok (.invokevirtual 115, 3) := by decide +kernel
theorem dX3_grow_71 : decode cX3_grow 71 = .ok (.goto (-17), 3) := by decide +kernel
theorem dX3_grow_74 : decode cX3_grow 74 = .ok (.iload 5, 2) := by decide +kernel
theorem dX3_grow_76 : decode cX3_grow 76 = .ok (.ireturn, 1) := by decide +kernel
theorem dX3_grow_77 : decode cX3_grow 77 = .ok (.aload_n 0, 1) := by decide +kernel
theorem dX3_grow_78 : decode cX3_grow 78 = .ok (.invokevirtual 87, 3) := by decide +kernel
theorem dX3_grow_81 : decode cX3_grow 81 = .ok (.iload 5, 2) := by decide +kernel
theorem dX3_grow_83 : decode cX3_grow 83 = .ok (.istore 6, 2) := by decide +kernel
theorem dX3_grow_85 : decode cX3_grow 85 = .ok (.iload 6, 2) := by decide +kernel
theorem dX3_grow_87 : decode cX3_grow 87 = .ok (.i2l, 1) := by decide +kernel
theorem dX3_grow_88 : decode cX3_grow 88 = .ok (.lload_n 3, 1) := by decide +kernel
theorem dX3_grow_89 : decode cX3_grow 89 = .ok (.lcmp, 1) := by decide +kernel
theorem dX3_grow_90 : decode cX3_grow 90 = .ok (.ifCond .ge 92, 3) := by decide +kernel
theorem dX3_grow_93 : decode cX3_grow 93 = .ok (.iload 6, 2) := by decide +kernel
theorem dX3_grow_95 : decode cX3_grow 95 = .ok (.bipush 16, 2) := by decide +kernel
theorem dX3_grow_97 : decode cX3_grow 97 = .ok (.irem, 1) := by decide +kernel
theorem dX3_grow_98 : decode cX3_grow 98 = .ok (.ifCond .ne 46, 3) := by decide +kernel
theorem dX3_grow_101 : decode cX3_grow 101 = .ok (.aload_n 0, 1) := by decide +kernel
theorem dX3_grow_102 : decode cX3_grow 102 = .ok (.getfield 44, 3) := by decide +kernel
theorem dX3_grow_105 : decode cX3_grow 105 = .ok (.bipush 16, 2) := by decide +kernel
theorem dX3_grow_107 : decode cX3_grow 107 = .ok (.iload_n 1, 1) := by decide +kernel
theorem dX3_grow_108 : decode cX3_grow 108 = .ok (.imul, 1) := by decide +kernel
theorem dX3_grow_109 : decode cX3_grow 109 = .ok (.iload 6, 2) := by decide +kernel
theorem dX3_grow_111 : decode cX3_grow 111 = .ok (.bipush 16, 2) := by decide +kernel
theorem dX3_grow_113 : decode cX3_grow 113 = .ok (.idiv, 1) := by decide +kernel
theorem dX3_grow_114 : decode cX3_grow 114 = .ok (.iadd, 1) := by decide +kernel
theorem dX3_grow_115 : decode cX3_grow 115 = .ok (.aload_n 0, 1) := by decide +kernel
theorem dX3_grow_116 : decode cX3_grow 116 = .ok (.iconst 2, 1) := by decide +kernel
theorem dX3_grow_117 : decode cX3_grow 117 = .ok (.invokevirtual 90, 3) := by decide +kernel
theorem dX3_grow_120 : decode cX3_grow 120 = .ok (.iastore, 1) := by decide +kernel
theorem dX3_grow_121 : decode cX3_grow 121 = .ok (.aload_n 0, 1) := by decide +kernel
theorem dX3_grow_122 : decode cX3_grow 122 = .ok (.getfield 44, 3) := by decide +kernel
theorem dX3_grow_125 : decode cX3_grow 125 = .ok (.bipush 16, 2) := by decide +kernel
theorem dX3_grow_127 : decode cX3_grow 127 = .ok (.iload_n 1, 1) := by decide +kernel
theorem dX3_grow_128 : decode cX3_grow 128 = .ok (.imul, 1) := by decide +kernel
theorem dX3_grow_129 : decode cX3_grow 129 = .ok (.iload 6, 2) := by decide +kernel
theorem dX3_grow_131 : decode cX3_grow 131 = .ok (.bipush 16, 2) := by decide +kernel
theorem dX3_grow_133 : decode cX3_grow 133 = .ok (.idiv, 1) := by decide +kernel
theorem dX3_grow_134 : decode cX3_grow 134 = .ok (.iadd, 1) := by decide +kernel
theorem dX3_grow_135 : decode cX3_grow 135 = .ok (.iaload, 1) := by decide +kernel
theorem dX3_grow_136 : decode cX3_grow 136 = .ok (.ifCond .ge 8, 3) := by decide +kernel
theorem dX3_grow_139 : decode cX3_grow 139 = .ok (.aload_n 0, 1) := by decide +kernel
theorem dX3_grow_140 : decode cX3_grow 140 = .ok (.invokevirtual 93, 3) := by decide +kernel
theorem dX3_grow_143 : decode cX3_grow 143 = .ok (.ireturn, 1) := by decide +kernel
theorem dX3_grow_144 : decode cX3_grow 144 = .ok (.aload_n 0, 1) := by decide +kernel
theorem dX3_grow_145 : decode cX3_grow 145 = .ok (.iconst 3, 1) := by decide +kernel
theorem dX3_grow_146 : decode cX3_grow 146 = .ok (.invokevirtual 70, 3) := by decide +kernel
theorem dX3_grow_149 : decode cX3_grow 149 = .ok (.istore 7, 2) := by decide +kernel
theorem dX3_grow_151 : decode cX3_grow 151 = .ok (.iload 7, 2) := by decide +kernel
theorem dX3_grow_153 : decode cX3_grow 153 = .ok (.ifCond .ge 8, 3) := by decide +kernel
theorem dX3_grow_156 : decode cX3_grow 156 = .ok (.aload_n 0, 1) := by decide +kernel
theorem dX3_grow_157 : decode cX3_grow 157 = .ok (.invokevirtual 93, 3) := by decide +kernel
theorem dX3_grow_160 : decode cX3_grow 160 = .ok (.ireturn, 1) := by decide +kernel
theorem dX3_grow_161 : decode cX3_grow 161 = .ok (.aload_n 0, 1) := by decide +kernel
theorem dX3_grow_162 : decode cX3_grow 162 = .ok (.getfield 41, 3) := by decide +kernel
theorem dX3_grow_165 : decode cX3_grow 165 = .ok (.sipush 256, 3) := by decide +kernel
theorem dX3_grow_168 : decode cX3_grow 168 = .ok (.iload_n 1, 1) := by decide +kernel
theorem dX3_grow_169 : decode cX3_grow 169 = .ok (.imul, 1) := by decide +kernel
theorem dX3_grow_170 : decode cX3_grow 170 = .ok (.iload 6, 2) := by decide +kernel
theorem dX3_grow_172 : decode cX3_grow 172 = .ok (.iadd, 1) := by decide +kernel
theorem dX3_grow_173 : decode cX3_grow 173 = .ok (.iload 7, 2) := by decide +kernel
theorem dX3_grow_175 : decode cX3_grow 175 = .ok (.iastore, 1) := by decide +kernel
theorem dX3_grow_176 : decode cX3_grow 176 = .ok (.iinc 6 1, 3) := by decide +kernel
theorem dX3_grow_179 : decode cX3_grow 179 = .ok (.goto (-94), 3) := by decide +kernel
theorem dX3_grow_182 : decode cX3_grow 182 = .ok (.iload 5, 2) := by decide +kernel
theorem dX3_grow_184 : decode cX3_grow 184 = .ok (.istore 6, 2) := by decide +kernel
theorem dX3_grow_186 : decode cX3_grow 186 = .ok (.iload 6, 2) := by decide +kernel
theorem dX3_grow_188 : decode cX3_grow 188 = .ok (.i2l, 1) := by decide +kernel
theorem dX3_grow_189 : decode cX3_grow 189 = .ok (.lload_n 3, 1) := by decide +kernel
theorem dX3_grow_190 : decode cX3_grow 190 = .ok (.lcmp, 1) := by decide +kernel
theorem dX3_grow_191 : decode cX3_grow 191 = .ok (.ifCond .ge 50, 3) := by decide +kernel
theorem dX3_grow_194 : decode cX3_grow 194 = .ok (.iconst 0, 1) := by decide +kernel
theorem dX3_grow_195 : decode cX3_grow 195 = .ok (.istore 7, 2) := by decide +kernel
theorem dX3_grow_197 : decode cX3_grow 197 = .ok (.iload 7, 2) := by decide +kernel
theorem dX3_grow_199 : decode cX3_grow 199 = .ok (.bipush 64, 2) := by decide +kernel
theorem dX3_grow_201 : decode cX3_grow 201 = .ok (.if_icmp .ge 34, 3) := by decide +kernel
theorem dX3_grow_204 : decode cX3_grow 204 = .ok (.aload_n 0, 1) := by decide +kernel
theorem dX3_grow_205 : decode cX3_grow 205 = .ok (.getfield 20, 3) := by decide +kernel
theorem dX3_grow_208 : decode cX3_grow 208 = .ok (.bipush 64, 2) := by decide +kernel
theorem dX3_grow_210 : decode cX3_grow 210 = .ok (.aload_n 0, 1) := by decide +kernel
theorem dX3_grow_211 : decode cX3_grow 211 = .ok (.getfield 41, 3) := by decide +kernel
theorem dX3_grow_214 : decode cX3_grow 214 = .ok (.sipush 256, 3) := by decide +kernel
theorem dX3_grow_217 : decode cX3_grow 217 = .ok (.iload_n 1, 1) := by decide +kernel
theorem dX3_grow_218 : decode cX3_grow 218 = .ok (.imul, 1) := by decide +kernel
theorem dX3_grow_219 : decode cX3_grow 219 = .ok (.iload 6, 2) := by decide +kernel
theorem dX3_grow_221 : decode cX3_grow 221 = .ok (.iadd, 1) := by decide +kernel
theorem dX3_grow_222 : decode cX3_grow 222 = .ok (.iaload, 1) := by decide +kernel
theorem dX3_grow_223 : decode cX3_grow 223 = .ok (.imul, 1) := by decide +kernel
theorem dX3_grow_224 : decode cX3_grow 224 = .ok (.iload 7, 2) := by decide +kernel
theorem dX3_grow_226 : decode cX3_grow 226 = .ok (.iadd, 1) := by decide +kernel
theorem dX3_grow_227 : decode cX3_grow 227 = .ok (.iconst 0, 1) := by decide +kernel
theorem dX3_grow_228 : decode cX3_grow 228 = .ok (.iastore, 1) := by decide +kernel
theorem dX3_grow_229 : decode cX3_grow 229 = .ok (.iinc 7 1, 3) := by decide +kernel
theorem dX3_grow_232 : decode cX3_grow 232 = .ok (.goto (-35), 3) := by decide +kernel
theorem dX3_grow_235 : decode cX3_grow 235 = .ok (.iinc 6 1, 3) := by decide +kernel
theorem dX3_grow_238 : decode cX3_grow 238 = .ok (.goto (-52), 3) := by decide +kernel
theorem dX3_grow_241 : decode cX3_grow 241 = .ok (.aload_n 0, 1) := by decide +kernel
theorem dX3_grow_242 : decode cX3_grow 242 = .ok (.getfield 29, 3) := by decide +kernel
theorem dX3_grow_245 : decode cX3_grow 245 = .ok (.iload_n 1, 1) := by decide +kernel
theorem dX3_grow_246 : decode cX3_grow 246 = .ok (.lload_n 3, 1) := by decide +kernel
theorem dX3_grow_247 : decode cX3_grow 247 = .ok (.l2i, 1) := by decide +kernel
theorem dX3_grow_248 : decode cX3_grow 248 = .ok (.iastore, 1) := by decide +kernel
theorem dX3_grow_249 : decode cX3_grow 249 = .ok (.iload 5, 2) := by decide +kernel
theorem dX3_grow_251 : decode cX3_grow 251 = .ok (.ireturn, 1) := by decide +kernel
theorem dX3_has_0 : decode cX3_has 0 = .ok (.aload_n 0, 1) := by decide +kernel
theorem dX3_has_1 : decode cX3_has 1 = .ok (.iload_n 1, 1) := by decide +kernel
theorem dX3_has_2 : decode cX3_has 2 = .ok (.invokevirtual 100, 3) := by decide +kernel
theorem dX3_has_5 : decode cX3_has 5 = .ok (.ifCond .eq 24, 3) := by decide +kernel
theorem dX3_has_8 : decode cX3_has 8 = .ok (.iload_n 2, 1) := by decide +kernel
theorem dX3_has_9 : decode cX3_has 9 = .ok (.ifCond .lt 20, 3) := by decide +kernel
theorem dX3_has_12 : decode cX3_has 12 = .ok (.iload_n 2, 1) := by decide +kernel
theorem dX3_has_13 : decode cX3_has 13 = .ok (.bipush 64, 2) := by decide +kernel
theorem dX3_has_15 : decode cX3_has 15 = .ok (.idiv, 1) := by decide +kernel
theorem dX3_has_16 : decode cX3_has 16 = .ok (.aload_n 0, 1) := by decide +kernel
theorem dX3_has_17 : decode cX3_has 17 = .ok (.getfield 29, 3) := by decide +kernel
theorem dX3_has_20 : decode cX3_has 20 = .ok (.iload_n 1, 1) := by decide +kernel
theorem dX3_has_21 : decode cX3_has 21 = .ok (.iaload, 1) := by decide +kernel
theorem dX3_has_22 : decode cX3_has 22 = .ok (.if_icmp .ge 7, 3) := by decide +kernel
theorem dX3_has_25 : decode cX3_has 25 = .ok (.iconst 1, 1) := by decide +kernel
theorem dX3_has_26 : decode cX3_has 26 = .ok (.goto 4, 3) := by decide +kernel
theorem dX3_has_29 : decode cX3_has 29 = .ok (.iconst 0, 1) := by decide +kernel
theorem dX3_has_30 : decode cX3_has 30 = .ok (.ireturn, 1) := by decide +kernel
theorem dX3_load_0 : decode cX3_load 0 = .ok (.aload_n 0, 1) := by decide +kernel
theorem dX3_load_1 : decode cX3_load 1 = .ok (.iload_n 1, 1) := by decide +kernel
theorem dX3_load_2 : decode cX3_load 2 = .ok (.iload_n 2, 1) := by decide +kernel
theorem dX3_load_3 : decode cX3_load 3 = .ok (.invokevirtual 118, 3) := by decide +kernel
theorem dX3_load_6 : decode cX3_load 6 = .ok (.ifCond .eq 34, 3) := by decide +kernel
theorem dX3_load_9 : decode cX3_load 9 = .ok (.aload_n 0, 1) := by decide +kernel
theorem dX3_load_10 : decode cX3_load 10 = .ok (.getfield 20, 3) := by decide +kernel
theorem dX3_load_13 : decode cX3_load 13 = .ok (.bipush 64, 2) := by decide +kernel
theorem dX3_load_15 : decode cX3_load 15 = .ok (.aload_n 0, 1) := by decide +kernel
theorem dX3_load_16 : decode cX3_load 16 = .ok (.getfield 41, 3) := by decide +kernel
theorem dX3_load_19 : decode cX3_load 19 = .ok (.sipush 256, 3) := by decide +kernel
theorem dX3_load_22 : decode cX3_load 22 = .ok (.iload_n 1, 1) := by decide +kernel
theorem dX3_load_23 : decode cX3_load 23 = .ok (.imul, 1) := by decide +kernel
theorem dX3_load_24 : decode cX3_load 24 = .ok (.iload_n 2, 1) := by decide +kernel
theorem dX3_load_25 : decode cX3_load 25 = .ok (.bipush 64, 2) := by decide +kernel
theorem dX3_load_27 : decode cX3_load 27 = .ok (.idiv, 1) := by decide +kernel
theorem dX3_load_28 : decode cX3_load 28 = .ok (.iadd, 1) := by decide +kernel
theorem dX3_load_29 : decode cX3_load 29 = .ok (.iaload, 1) := by decide +kernel
theorem dX3_load_30 : decode cX3_load 30 = .ok (.imul, 1) := by decide +kernel
theorem dX3_load_31 : decode cX3_load 31 = .ok (.iload_n 2, 1) := by decide +kernel
theorem dX3_load_32 : decode cX3_load 32 = .ok (.bipush 64, 2) := by decide +kernel
theorem dX3_load_34 : decode cX3_load 34 = .ok (.irem, 1) := by decide +kernel
theorem dX3_load_35 : decode cX3_load 35 = .ok (.iadd, 1) := by decide +kernel
theorem dX3_load_36 : decode cX3_load 36 = .ok (.iaload, 1) := by decide +kernel
theorem dX3_load_37 : decode cX3_load 37 = .ok (.goto 4, 3) := by decide +kernel
theorem dX3_load_40 : decode cX3_load 40 = .ok (.iconst 0, 1) := by decide +kernel
theorem dX3_load_41 : decode cX3_load 41 = .ok (.ireturn, 1) := by decide +kernel
theorem dX3_store_0 : decode cX3_store 0 = .ok (.aload_n 0, 1) := by decide +kernel
theorem dX3_store_1 : decode cX3_store 1 = .ok (.iload_n 1, 1) := by decide +kernel
theorem dX3_store_2 : decode cX3_store 2 = .ok (.invokevirtual 100, 3) := by decide +kernel
theorem dX3_store_5 : decode cX3_store 5 = .ok (.ifCond .ne 6, 3) := by decide +kernel
theorem dX3_store_8 : decode cX3_store 8 = .ok (.bipush (-2), 2) := by decide +kernel
theorem dX3_store_10 : decode cX3_store 10 = .ok (.ireturn, 1) := by decide +kernel
theorem dX3_store_11 : decode cX3_store 11 = .ok (.aload_n 0, 1) := by decide +kernel
theorem dX3_store_12 : decode cX3_store 12 = .ok (.iload_n 1, 1) := by decide +kernel
theorem dX3_store_13 : decode cX3_store 13 = .ok (.iload_n 2, 1) := by decide +kernel
theorem dX3_store_14 : decode cX3_store 14 = .ok (.invokevirtual 118, 3) := by decide +kernel
theorem dX3_store_17 : decode cX3_store 17 = .ok (.ifCond .ne 6, 3) := by decide +kernel
theorem dX3_store_20 : decode cX3_store 20 = .ok (.bipush (-5), 2) := by decide +kernel
theorem dX3_store_22 : decode cX3_store 22 = .ok (.ireturn, 1) := by decide +kernel
theorem dX3_store_23 : decode cX3_store 23 = .ok (.sipush 256, 3) := by decide +kernel
theorem dX3_store_26 : decode cX3_store 26 = .ok (.iload_n 1, 1) := by decide +kernel
theorem dX3_store_27 : decode cX3_store 27 = .ok (.imul, 1) := by decide +kernel
theorem dX3_store_28 : decode cX3_store 28 = .ok (.iload_n 2, 1) := by decide +kernel
theorem dX3_store_29 : decode cX3_store 29 = .ok (.bipush 64, 2) := by decide +kernel
theorem dX3_store_31 : decode cX3_store 31 = .ok (.idiv, 1) := by decide +kernel
theorem dX3_store_32 : decode cX3_store 32 = .ok (.iadd, 1) := by decide +kernel
theorem dX3_store_33 : decode cX3_store 33 = .ok (.istore 4, 2) := by decide +kernel
theorem dX3_store_35 : decode cX3_store 35 = .ok (.aload_n 0, 1) := by decide +kernel
theorem dX3_store_36 : decode cX3_store 36 = .ok (.getfield 41, 3) := by decide +kernel
theorem dX3_store_39 : decode cX3_store 39 = .ok (.iload 4, 2) := by decide +kernel
theorem dX3_store_41 : decode cX3_store 41 = .ok (.iaload, 1) := by decide +kernel
theorem dX3_store_42 : decode cX3_store 42 = .ok (.istore 5, 2) := by decide +kernel
theorem dX3_store_44 : decode cX3_store 44 = .ok (.aload_n 0, 1) := by decide +kernel
theorem dX3_store_45 : decode cX3_store 45 = .ok (.iload 5, 2) := by decide +kernel
theorem dX3_store_47 : decode cX3_store 47 = .ok (.invokevirtual 104, 3) := by decide +kernel
theorem dX3_store_50 : decode cX3_store 50 = .ok (.iconst 1, 1) := by decide +kernel
theorem dX3_store_51 : decode cX3_store 51 = .ok (.if_icmp .le 89, 3) := by decide +kernel
theorem dX3_store_54 : decode cX3_store 54 = .ok (.aload_n 0, 1) := by decide +kernel
theorem dX3_store_55 : decode cX3_store 55 = .ok (.invokevirtual 87, 3) := by decide +kernel
theorem dX3_store_58 : decode cX3_store 58 = .ok (.aload_n 0, 1) := by decide +kernel
theorem dX3_store_59 : decode cX3_store 59 = .ok (.iconst 3, 1) := by decide +kernel
theorem dX3_store_60 : decode cX3_store 60 = .ok (.invokevirtual 70, 3) := by decide +kernel
theorem dX3_store_63 : decode cX3_store 63 = .ok (.istore 6, 2) := by decide +kernel
theorem dX3_store_65 : decode cX3_store 65 = .ok (.iload 6, 2) := by decide +kernel
theorem dX3_store_67 : decode cX3_store 67 = .ok (.ifCond .ge 8, 3) := by decide +kernel
theorem dX3_store_70 : decode cX3_store 70 = .ok (.aload_n 0, 1) := by decide +kernel
theorem dX3_store_71 : decode cX3_store 71 = .ok (.invokevirtual 93, 3) := by decide +kernel
theorem dX3_store_74 : decode cX3_store 74 = .ok (.ireturn, 1) := by decide +kernel
theorem dX3_store_75 : decode cX3_store 75 = .ok (.iconst 0, 1) := by decide +kernel
theorem dX3_store_76 : decode cX3_store 76 = .ok (.istore 7, 2) := by decide +kernel
theorem dX3_store_78 : decode cX3_store 78 = .ok (.iload 7, 2) := by decide +kernel
theorem dX3_store_80 : decode cX3_store 80 = .ok (.bipush 64, 2) := by decide +kernel
theorem dX3_store_82 : decode cX3_store 82 = .ok (.if_icmp .ge 35, 3) := by decide +kernel
theorem dX3_store_85 : decode cX3_store 85 = .ok (.aload_n 0, 1) := by decide +kernel
theorem dX3_store_86 : decode cX3_store 86 = .ok (.getfield 20, 3) := by decide +kernel
theorem dX3_store_89 : decode cX3_store 89 = .ok (.bipush 64, 2) := by decide +kernel
theorem dX3_store_91 : decode cX3_store 91 = .ok (.iload 6, 2) := by decide +kernel
theorem dX3_store_93 : decode cX3_store 93 = .ok (.imul, 1) := by decide +kernel
theorem dX3_store_94 : decode cX3_store 94 = .ok (.iload 7, 2) := by decide +kernel
theorem dX3_store_96 : decode cX3_store 96 = .ok (.iadd, 1) := by decide +kernel
theorem dX3_store_97 : decode cX3_store 97 = .ok (.aload_n 0, 1) := by decide +kernel
theorem dX3_store_98 : decode cX3_store 98 = .ok (.getfield 20, 3) := by decide +kernel
theorem dX3_store_101 : decode cX3_store 101 = .ok (.bipush 64, 2) := by decide +kernel
theorem dX3_store_103 : decode cX3_store 103 = .ok (.iload 5, 2) := by decide +kernel
theorem dX3_store_105 : decode cX3_store 105 = .ok (.imul, 1) := by decide +kernel
theorem dX3_store_106 : decode cX3_store 106 = .ok (.iload 7, 2) := by decide +kernel
theorem dX3_store_108 : decode cX3_store 108 = .ok (.iadd, 1) := by decide +kernel
theorem dX3_store_109 : decode cX3_store 109 = .ok (.iaload, 1) := by decide +kernel
theorem dX3_store_110 : decode cX3_store 110 = .ok (.iastore, 1) := by decide +kernel
theorem dX3_store_111 : decode cX3_store 111 = .ok (.iinc 7 1, 3) := by decide +kernel
theorem dX3_store_114 : decode cX3_store 114 = .ok (.goto (-36), 3) := by decide +kernel
theorem dX3_store_117 : decode cX3_store 117 = .ok (.aload_n 0, 1) := by decide +kernel
theorem dX3_store_118 : decode cX3_store 118 = .ok (.dup, 1) := by decide +kernel
theorem dX3_store_119 : decode cX3_store 119 = .ok (.getfield 122, 3) := by decide +kernel
theorem dX3_store_122 : decode cX3_store 122 = .ok (.iconst 1, 1) := by decide +kernel
theorem dX3_store_123 : decode cX3_store 123 = .ok (.iadd, 1) := by decide +kernel
theorem dX3_store_124 : decode cX3_store 124 = .ok (.putfield 122, 3) := by decide +kernel
theorem dX3_store_127 : decode cX3_store 127 = .ok (.aload_n 0, 1) := by decide +kernel
theorem dX3_store_128 : decode cX3_store 128 = .ok (.getfield 41, 3) := by decide +kernel
theorem dX3_store_131 : decode cX3_store 131 = .ok (.iload 4, 2) := by decide +kernel
theorem dX3_store_133 : decode cX3_store 133 = .ok (.iload 6, 2) := by decide +kernel
theorem dX3_store_135 : decode cX3_store 135 = .ok (.iastore, 1) := by decide +kernel
theorem dX3_store_136 : decode cX3_store 136 = .ok (.iload 6, 2) := by decide +kernel
theorem dX3_store_138 : decode cX3_store 138 = .ok (.istore 5, 2) := by decide +kernel
theorem dX3_store_140 : decode cX3_store 140 = .ok (.aload_n 0, 1) := by decide +kernel
theorem dX3_store_141 : decode cX3_store 141 = .ok (.getfield 20, 3) := by decide +kernel
theorem dX3_store_144 : decode cX3_store 144 = .ok (.bipush 64, 2) := by decide +kernel
theorem dX3_store_146 : decode cX3_store 146 = .ok (.iload 5, 2) := by decide +kernel
theorem dX3_store_148 : decode cX3_store 148 = .ok (.imul, 1) := by decide +kernel
theorem dX3_store_149 : decode cX3_store 149 = .ok (.iload_n 2, 1) := by decide +kernel
theorem dX3_store_150 : decode cX3_store 150 = .ok (.bipush 64, 2) := by decide +kernel
theorem dX3_store_152 : decode cX3_store 152 = .ok (.irem, 1) := by decide +kernel
theorem dX3_store_153 : decode cX3_store 153 = .ok (.iadd, 1) := by decide +kernel
theorem dX3_store_154 : decode cX3_store 154 = .ok (.iload_n 3, 1) := by decide +kernel
theorem dX3_store_155 : decode cX3_store 155 = .ok (.iastore, 1) := by decide +kernel
theorem dX3_store_156 : decode cX3_store 156 = .ok (.iconst 0, 1) := by decide +kernel
theorem dX3_store_157 : decode cX3_store 157 = .ok (.ireturn, 1) := by decide +kernel
theorem dX3_placeInRow_0 : decode cX3_placeInRow 0 = .ok (.iconst 0, 1) := by decide +kernel
theorem dX3_placeInRow_1 : decode cX3_placeInRow 1 = .ok (.istore_n 2, 1) := by decide +kernel
theorem dX3_placeInRow_2 : decode cX3_placeInRow 2 = .ok (.iload_n 2, 1) := by decide +kernel
theorem dX3_placeInRow_3 : decode cX3_placeInRow 3 = .ok (.aload_n 0, 1) := by decide +kernel
theorem dX3_placeInRow_4 : decode cX3_placeInRow 4 = .ok (.getfield 80, 3) := by decide +kernel
theorem dX3_placeInRow_7 : decode cX3_placeInRow 7 = .ok (.if_icmp .ge 21, 3) := by decide +kernel
theorem dX3_placeInRow_10 : decode cX3_placeInRow 10 = .ok (.aload_n 0, 1) := by decide +kernel
theorem dX3_placeInRow_11 : decode cX3_placeInRow 11 = .ok (.getfield 47, 3) := by decide +kernel
theorem dX3_placeInRow_14 : decode cX3_placeInRow 14 = .ok (.iload_n 2, 1) := by decide +kernel
theorem dX3_placeInRow_15 : decode cX3_placeInRow 15 = .ok (.iaload, 1) := by decide +kernel
theorem dX3_placeInRow_16 : decode cX3_placeInRow 16 = .ok (.iload_n 1, 1) := by decide +kernel
theorem dX3_placeInRow_17 : decode cX3_placeInRow 17 = .ok (.if_icmp .ne 5, 3) := by decide +kernel
theorem dX3_placeInRow_20 : decode cX3_placeInRow 20 = .ok (.iload_n 2, 1) := by decide +kernel
theorem dX3_placeInRow_21 : decode cX3_placeInRow 21 = .ok (.ireturn, 1) := by decide +kernel
theorem dX3_placeInRow_22 : decode cX3_placeInRow 22 = .ok (.iinc 2 1, 3) := by decide +kernel
theorem dX3_placeInRow_25 : decode cX3_placeInRow 25 = .ok (.goto (-23), 3) := by decide +kernel
theorem dX3_placeInRow_28 : decode cX3_placeInRow 28 = .ok (.iconst (-1), 1) := by decide +kernel
theorem dX3_placeInRow_29 : decode cX3_placeInRow 29 = .ok (.ireturn, 1) := by decide +kernel
theorem dX3_vanish_0 : decode cX3_vanish 0 = .ok (.aload_n 0, 1) := by decide +kernel
theorem dX3_vanish_1 : decode cX3_vanish 1 = .ok (.getfield 26, 3) := by decide +kernel
theorem dX3_vanish_4 : decode cX3_vanish 4 = .ok (.iload_n 1, 1) := by decide +kernel
theorem dX3_vanish_5 : decode cX3_vanish 5 = .ok (.iconst 0, 1) := by decide +kernel
theorem dX3_vanish_6 : decode cX3_vanish 6 = .ok (.iastore, 1) := by decide +kernel
theorem dX3_vanish_7 : decode cX3_vanish 7 = .ok (.aload_n 0, 1) := by decide +kernel
theorem dX3_vanish_8 : decode cX3_vanish 8 = .ok (.aload_n 0, 1) := by decide +kernel
theorem dX3_vanish_9 : decode cX3_vanish 9 = .ok (.getfield 38, 3) := by decide +kernel
theorem dX3_vanish_12 : decode cX3_vanish 12 = .ok (.iload_n 1, 1) := by decide +kernel
theorem dX3_vanish_13 : decode cX3_vanish 13 = .ok (.iaload, 1) := by decide +kernel
theorem dX3_vanish_14 : decode cX3_vanish 14 = .ok (.invokevirtual 107, 3) := by decide +kernel
theorem dX3_vanish_17 : decode cX3_vanish 17 = .ok (.return_, 1) := by decide +kernel
theorem dX3_exit_0 : decode cX3_exit 0 = .ok (.aload_n 0, 1) := by decide +kernel
theorem dX3_exit_1 : decode cX3_exit 1 = .ok (.iload_n 1, 1) := by decide +kernel
theorem dX3_exit_2 : decode cX3_exit 2 = .ok (.invokevirtual 100, 3) := by decide +kernel
theorem dX3_exit_5 : decode cX3_exit 5 = .ok (.ifCond .ne 6, 3) := by decide +kernel
theorem dX3_exit_8 : decode cX3_exit 8 = .ok (.bipush (-2), 2) := by decide +kernel
theorem dX3_exit_10 : decode cX3_exit 10 = .ok (.ireturn, 1) := by decide +kernel
theorem dX3_exit_11 : decode cX3_exit 11 = .ok (.aload_n 0, 1) := by decide +kernel
theorem dX3_exit_12 : decode cX3_exit 12 = .ok (.iload_n 1, 1) := by decide +kernel
theorem dX3_exit_13 : decode cX3_exit 13 = .ok (.invokevirtual 125, 3) := by decide +kernel
theorem dX3_exit_16 : decode cX3_exit 16 = .ok (.istore_n 3, 1) := by decide +kernel
theorem dX3_exit_17 : decode cX3_exit 17 = .ok (.aload_n 0, 1) := by decide +kernel
theorem dX3_exit_18 : decode cX3_exit 18 = .ok (.dup, 1) := by decide +kernel
theorem dX3_exit_19 : decode cX3_exit 19 = .ok (.getfield 80, 3) := by decide +kernel
theorem dX3_exit_22 : decode cX3_exit 22 = .ok (.iconst 1, 1) := by decide +kernel
theorem dX3_exit_23 : decode cX3_exit 23 = .ok (.isub, 1) := by decide +kernel
theorem dX3_exit_24 : decode cX3_exit 24 = .ok (.putfield 80, 3) := by decide +kernel
theorem dX3_exit_27 : decode cX3_exit 27 = .ok (.iload_n 3, 1) := by decide +kernel
theorem dX3_exit_28 : decode cX3_exit 28 = .ok (.istore 4, 2) := by decide +kernel
theorem dX3_exit_30 : decode cX3_exit 30 = .ok (.iload 4, 2) := by decide +kernel
theorem dX3_exit_32 : decode cX3_exit 32 = .ok (.aload_n 0, 1) := by decide +kernel
theorem dX3_exit_33 : decode cX3_exit 33 = .ok (.getfield 80, 3) := by decide +kernel
theorem dX3_exit_36 : decode cX3_exit 36 = .ok (.if_icmp .ge 25, 3) := by decide +kernel
theorem dX3_exit_39 : decode cX3_exit 39 = .ok (.aload_n 0, 1) := by decide +kernel
theorem dX3_exit_40 : decode cX3_exit 40 = .ok (.getfield 47, 3) := by decide +kernel
theorem dX3_exit_43 : decode cX3_exit 43 = .ok (.iload 4, 2) := by decide +kernel
theorem dX3_exit_45 : decode cX3_exit 45 = .ok (.aload_n 0, 1) := by decide +kernel
theorem dX3_exit_46 : decode cX3_exit 46 = .ok (.getfield 47, 3) := by decide +kernel
theorem dX3_exit_49 : decode cX3_exit 49 = .ok (.iload 4, 2) := by decide +kernel
theorem dX3_exit_51 : decode cX3_exit 51 = .ok (.iconst 1, 1) := by decide +kernel
theorem dX3_exit_52 : decode cX3_exit 52 = .ok (.iadd, 1) := by decide +kernel
theorem dX3_exit_53 : decode cX3_exit 53 = .ok (.iaload, 1) := by decide +kernel
theorem dX3_exit_54 : decode cX3_exit 54 = .ok (.iastore, 1) := by decide +kernel
theorem dX3_exit_55 : decode cX3_exit 55 = .ok (.iinc 4 1, 3) := by decide +kernel
theorem dX3_exit_58 : decode cX3_exit 58 = .ok (.goto (-28), 3) := by decide +kernel
theorem dX3_exit_61 : decode cX3_exit 61 = .ok (.aload_n 0, 1) := by decide +kernel
theorem dX3_exit_62 : decode cX3_exit 62 = .ok (.getfield 29, 3) := by decide +kernel
theorem dX3_exit_65 : decode cX3_exit 65 = .ok (.iload_n 1, 1) := by decide +kernel
theorem dX3_exit_66 : decode cX3_exit 66 = .ok (.iaload, 1) := by decide +kernel
theorem dX3_exit_67 : decode cX3_exit 67 = .ok (.ifCond .le 11, 3) := by decide +kernel
theorem dX3_exit_70 : decode cX3_exit 70 = .ok (.aload_n 0, 1) := by decide +kernel
theorem dX3_exit_71 : decode cX3_exit 71 = .ok (.iload_n 1, 1) := by decide +kernel
theorem dX3_exit_72 : decode cX3_exit 72 = .ok (.invokevirtual 115, 3) := by decide +kernel
theorem dX3_exit_75 : decode cX3_exit 75 = .ok (.goto (-14), 3) := by decide +kernel
theorem dX3_exit_78 : decode cX3_exit 78 = .ok (.iconst 0, 1) := by decide +kernel
theorem dX3_exit_79 : decode cX3_exit 79 = .ok (.istore 4, 2) := by decide +kernel
theorem dX3_exit_81 : decode cX3_exit 81 = .ok (.iload 4, 2) := by decide +kernel
theorem dX3_exit_83 : decode cX3_exit 83 = .ok (.bipush 16, 2) := by decide +kernel
theorem dX3_exit_85 : decode cX3_exit 85 = .ok (.if_icmp .ge 55, 3) := by decide +kernel
theorem dX3_exit_88 : decode cX3_exit 88 = .ok (.aload_n 0, 1) := by decide +kernel
theorem dX3_exit_89 : decode cX3_exit 89 = .ok (.getfield 26, 3) := by decide +kernel
theorem dX3_exit_92 : decode cX3_exit 92 = .ok (.iload 4, 2) := by decide +kernel
theorem dX3_exit_94 : decode cX3_exit 94 = .ok (.iaload, 1) := by decide +kernel
theorem dX3_exit_95 : decode cX3_exit 95 = .ok (.ifCond .eq 39, 3) := by decide +kernel
theorem dX3_exit_98 : decode cX3_exit 98 = .ok (.aload_n 0, 1) := by decide +kernel
theorem dX3_exit_99 : decode cX3_exit 99 = .ok (.getfield 32, 3) := by decide +kernel
theorem dX3_exit_102 : decode cX3_exit 102 = .ok (.iload 4, 2) := by decide +kernel
theorem dX3_exit_104 : decode cX3_exit 104 = .ok (.iaload, 1) := by decide +kernel
theorem dX3_exit_105 : decode cX3_exit 105 = .ok (.iload_n 1, 1) := by decide +kernel
theorem dX3_exit_106 : decode cX3_exit 106 = .ok (.if_icmp .ne 28, 3) := by decide +kernel
theorem dX3_exit_109 : decode cX3_exit 109 = .ok (.aload_n 0, 1) := by decide +kernel
theorem dX3_exit_110 : decode cX3_exit 110 = .ok (.getfield 26, 3) := by decide +kernel
theorem dX3_exit_113 : decode cX3_exit 113 = .ok (.iload 4, 2) := by decide +kernel
theorem dX3_exit_115 : decode cX3_exit 115 = .ok (.iaload, 1) := by decide +kernel
theorem dX3_exit_116 : decode cX3_exit 116 = .ok (.iconst 2, 1) := by decide +kernel
theorem dX3_exit_117 : decode cX3_exit 117 = .ok (.if_icmp .ne 9, 3) := by decide +kernel
theorem dX3_exit_120 : decode cX3_exit 120 = .ok (.aload_n 0, 1) := by decide +kernel
theorem dX3_exit_121 : decode cX3_exit 121 = .ok (.iload 4, 2) := by decide +kernel
theorem dX3_exit_123 : decode cX3_exit 123 = .ok (.invokevirtual 128, 3) := by decide +kernel
theorem dX3_exit_126 : decode cX3_exit 126 = .ok (.aload_n 0, 1) := by decide +kernel
theorem dX3_exit_127 : decode cX3_exit 127 = .ok (.getfield 32, 3) := by decide +kernel
theorem dX3_exit_130 : decode cX3_exit 130 = .ok (.iload 4, 2) := by decide +kernel
theorem dX3_exit_132 : decode cX3_exit 132 = .ok (.iconst (-1), 1) := by decide +kernel
theorem dX3_exit_133 : decode cX3_exit 133 = .ok (.iastore, 1) := by decide +kernel
theorem dX3_exit_134 : decode cX3_exit 134 = .ok (.iinc 4 1, 3) := by decide +kernel
theorem dX3_exit_137 : decode cX3_exit 137 = .ok (.goto (-56), 3) := by decide +kernel
theorem dX3_exit_140 : decode cX3_exit 140 = .ok (.aload_n 0, 1) := by decide +kernel
theorem dX3_exit_141 : decode cX3_exit 141 = .ok (.getfield 32, 3) := by decide +kernel
theorem dX3_exit_144 : decode cX3_exit 144 = .ok (.iload_n 1, 1) := by decide +kernel
theorem dX3_exit_145 : decode cX3_exit 145 = .ok (.iaload, 1) := by decide +kernel
theorem dX3_exit_146 : decode cX3_exit 146 = .ok (.iconst (-1), 1) := by decide +kernel
theorem dX3_exit_147 : decode cX3_exit 147 = .ok (.if_icmp .ne 11, 3) := by decide +kernel
theorem dX3_exit_150 : decode cX3_exit 150 = .ok (.aload_n 0, 1) := by decide +kernel
theorem dX3_exit_151 : decode cX3_exit 151 = .ok (.iload_n 1, 1) := by decide +kernel
theorem dX3_exit_152 : decode cX3_exit 152 = .ok (.invokevirtual 128, 3) := by decide +kernel
theorem dX3_exit_155 : decode cX3_exit 155 = .ok (.goto 17, 3) := by decide +kernel
theorem dX3_exit_158 : decode cX3_exit 158 = .ok (.aload_n 0, 1) := by decide +kernel
theorem dX3_exit_159 : decode cX3_exit 159 = .ok (.getfield 26, 3) := by decide +kernel
theorem dX3_exit_162 : decode cX3_exit 162 = .ok (.iload_n 1, 1) := by decide +kernel
theorem dX3_exit_163 : decode cX3_exit 163 = .ok (.iconst 2, 1) := by decide +kernel
theorem dX3_exit_164 : decode cX3_exit 164 = .ok (.iastore, 1) := by decide +kernel
theorem dX3_exit_165 : decode cX3_exit 165 = .ok (.aload_n 0, 1) := by decide +kernel
theorem dX3_exit_166 : decode cX3_exit 166 = .ok (.getfield 35, 3) := by decide +kernel
theorem dX3_exit_169 : decode cX3_exit 169 = .ok (.iload_n 1, 1) := by decide +kernel
theorem dX3_exit_170 : decode cX3_exit 170 = .ok (.iload_n 2, 1) := by decide +kernel
theorem dX3_exit_171 : decode cX3_exit 171 = .ok (.iastore, 1) := by decide +kernel
theorem dX3_exit_172 : decode cX3_exit 172 = .ok (.iconst 0, 1) := by decide +kernel
theorem dX3_exit_173 : decode cX3_exit 173 = .ok (.ireturn, 1) := by decide +kernel
theorem dX3_reap_0 : decode cX3_reap 0 = .ok (.aload_n 0, 1) := by decide +kernel
theorem dX3_reap_1 : decode cX3_reap 1 = .ok (.iload_n 1, 1) := by decide +kernel
theorem dX3_reap_2 : decode cX3_reap 2 = .ok (.invokevirtual 100, 3) := by decide +kernel
theorem dX3_reap_5 : decode cX3_reap 5 = .ok (.ifCond .ne 6, 3) := by decide +kernel
theorem dX3_reap_8 : decode cX3_reap 8 = .ok (.bipush (-2), 2) := by decide +kernel
theorem dX3_reap_10 : decode cX3_reap 10 = .ok (.ireturn, 1) := by decide +kernel
theorem dX3_reap_11 : decode cX3_reap 11 = .ok (.iconst 0, 1) := by decide +kernel
theorem dX3_reap_12 : decode cX3_reap 12 = .ok (.istore_n 2, 1) := by decide +kernel
theorem dX3_reap_13 : decode cX3_reap 13 = .ok (.iconst 0, 1) := by decide +kernel
theorem dX3_reap_14 : decode cX3_reap 14 = .ok (.istore_n 3, 1) := by decide +kernel
theorem dX3_reap_15 : decode cX3_reap 15 = .ok (.iload_n 3, 1) := by decide +kernel
theorem dX3_reap_16 : decode cX3_reap 16 = .ok (.bipush 16, 2) := by decide +kernel
theorem dX3_reap_18 : decode cX3_reap 18 = .ok (.if_icmp .ge 85, 3) := by decide +kernel
theorem dX3_reap_21 : decode cX3_reap 21 = .ok (.aload_n 0, 1) := by decide +kernel
theorem dX3_reap_22 : decode cX3_reap 22 = .ok (.getfield 26, 3) := by decide +kernel
theorem dX3_reap_25 : decode cX3_reap 25 = .ok (.iload_n 3, 1) := by decide +kernel
theorem dX3_reap_26 : decode cX3_reap 26 = .ok (.iaload, 1) := by decide +kernel
theorem dX3_reap_27 : decode cX3_reap 27 = .ok (.ifCond .eq 17, 3) := by decide +kernel
theorem dX3_reap_30 : decode cX3_reap 30 = .ok (.aload_n 0, 1) := by decide +kernel
theorem dX3_reap_31 : decode cX3_reap 31 = .ok (.getfield 32, 3) := by decide +kernel
theorem dX3_reap_34 : decode cX3_reap 34 = .ok (.iload_n 3, 1) := by decide +kernel
theorem dX3_reap_35 : decode cX3_reap 35 = .ok (.iaload, 1) := by decide +kernel
theorem dX3_reap_36 : decode cX3_reap 36 = .ok (.iload_n 1, 1) := by decide +kernel
theorem dX3_reap_37 : decode cX3_reap 37 = .ok (.if_icmp .ne 7, 3) := by decide +kernel
theorem dX3_reap_40 : decode cX3_reap 40 = .ok (.iconst 1, 1) := by decide +kernel
theorem dX3_reap_41 : decode cX3_reap 41 = .ok (.goto 4, 3) := by decide +kernel
theorem dX3_reap_44 : decode cX3_reap 44 = .ok (.iconst 0, 1) := by decide +kernel
theorem dX3_reap_45 : decode cX3_reap 45 = .ok (.istore 4, 2) := by decide +kernel
theorem dX3_reap_47 : decode cX3_reap 47 = .ok (.iload 4, 2) := by decide +kernel
theorem dX3_reap_49 : decode cX3_reap 49 = .ok (.ifCond .eq 35, 3) := by decide +kernel
theorem dX3_reap_52 : decode cX3_reap 52 = .ok (.aload_n 0, 1) := by decide +kernel
theorem dX3_reap_53 : decode cX3_reap 53 = .ok (.getfield 26, 3) := by decide +kernel
theorem dX3_reap_56 : decode cX3_reap 56 = .ok (.iload_n 3, 1) := by decide +kernel
theorem dX3_reap_57 : decode cX3_reap 57 = .ok (.iaload, 1) := by decide +kernel
theorem dX3_reap_58 : decode cX3_reap 58 = .ok (.iconst 2, 1) := by decide +kernel
theorem dX3_reap_59 : decode cX3_reap 59 = .ok (.if_icmp .ne 25, 3) := by decide +kernel
theorem dX3_reap_62 : decode cX3_reap 62 = .ok (.aload_n 0, 1) := by decide +kernel
theorem dX3_reap_63 : decode cX3_reap 63 = .ok (.iload_n 3, 1) := by decide +kernel
theorem dX3_reap_64 : decode cX3_reap 64 = .ok (.invokevirtual 128, 3) := by decide +kernel
theorem dX3_reap_67 : decode cX3_reap 67 = .ok (.sipush 256, 3) := by decide +kernel
theorem dX3_reap_70 : decode cX3_reap 70 = .ok (.iload_n 3, 1) := by decide +kernel
theorem dX3_reap_71 : decode cX3_reap 71 = .ok (.imul, 1) := by decide +kernel
theorem dX3_reap_72 : decode cX3_reap 72 = .ok (.aload_n 0, 1) := by decide +kernel
theorem dX3_reap_73 : decode cX3_reap 73 = .ok (.getfield 35, 3) := by decide +kernel
theorem dX3_reap_76 : decode cX3_reap 76 = .ok (.iload_n 3, 1) := by decide +kernel
theorem dX3_reap_77 : decode cX3_reap 77 = .ok (.iaload, 1) := by decide +kernel
theorem dX3_reap_78 : decode cX3_reap 78 = .ok (.sipush 255, 3) := by decide +kernel
theorem dX3_reap_81 : decode cX3_reap 81 = .ok (.iand, 1) := by decide +kernel
theorem dX3_reap_82 : decode cX3_reap 82 = .ok (.iadd, 1) := by decide +kernel
theorem dX3_reap_83 : decode cX3_reap 83 = .ok (.ireturn, 1) := by decide +kernel
theorem dX3_reap_84 : decode cX3_reap 84 = .ok (.iload_n 2, 1) := by decide +kernel
theorem dX3_reap_85 : decode cX3_reap 85 = .ok (.iload 4, 2) := by decide +kernel
theorem dX3_reap_87 : decode cX3_reap 87 = .ok (.ifCond .eq 7, 3) := by decide +kernel
theorem dX3_reap_90 : decode cX3_reap 90 = .ok (.iconst 1, 1) := by decide +kernel
theorem dX3_reap_91 : decode cX3_reap 91 = .ok (.goto 4, 3) := by decide +kernel
theorem dX3_reap_94 : decode cX3_reap 94 = .ok (.iconst 0, 1) := by decide +kernel
theorem dX3_reap_95 : decode cX3_reap 95 = .ok (.iadd, 1) := by decide +kernel
theorem dX3_reap_96 : decode cX3_reap 96 = .ok (.istore_n 2, 1) := by decide +kernel
theorem dX3_reap_97 : decode cX3_reap 97 = .ok (.iinc 3 1, 3) := by decide +kernel
theorem dX3_reap_100 : decode cX3_reap 100 = .ok (.goto (-85), 3) := by decide +kernel
theorem dX3_reap_103 : decode cX3_reap 103 = .ok (.iload_n 2, 1) := by decide +kernel
theorem dX3_reap_104 : decode cX3_reap 104 = .ok (.ifCond .ne 8, 3) := by decide +kernel
theorem dX3_reap_107 : decode cX3_reap 107 = .ok (.bipush (-6), 2) := by decide +kernel
theorem dX3_reap_109 : decode cX3_reap 109 = .ok (.goto 5, 3) := by decide +kernel
theorem dX3_reap_112 : decode cX3_reap 112 = .ok (.bipush (-7), 2) := by decide +kernel
theorem dX3_reap_114 : decode cX3_reap 114 = .ok (.ireturn, 1) := by decide +kernel
theorem dX3_tick_0 : decode cX3_tick 0 = .ok (.aload_n 0, 1) := by decide +kernel
theorem dX3_tick_1 : decode cX3_tick 1 = .ok (.getfield 80, 3) := by decide +kernel
theorem dX3_tick_4 : decode cX3_tick 4 = .ok (.ifCond .ne 5, 3) := by decide +kernel
theorem dX3_tick_7 : decode cX3_tick 7 = .ok (.iconst (-1), 1) := by decide +kernel
theorem dX3_tick_8 : decode cX3_tick 8 = .ok (.ireturn, 1) := by decide +kernel
theorem dX3_tick_9 : decode cX3_tick 9 = .ok (.aload_n 0, 1) := by decide +kernel
theorem dX3_tick_10 : decode cX3_tick 10 = .ok (.dup, 1) := by decide +kernel
theorem dX3_tick_11 : decode cX3_tick 11 = .ok (.getfield 131, 3) := by decide +kernel
theorem dX3_tick_14 : decode cX3_tick 14 = .ok (.iconst 1, 1) := by decide +kernel
theorem dX3_tick_15 : decode cX3_tick 15 = .ok (.iadd, 1) := by decide +kernel
theorem dX3_tick_16 : decode cX3_tick 16 = .ok (.putfield 131, 3) := by decide +kernel
theorem dX3_tick_19 : decode cX3_tick 19 = .ok (.aload_n 0, 1) := by decide +kernel
theorem dX3_tick_20 : decode cX3_tick 20 = .ok (.getfield 47, 3) := by decide +kernel
theorem dX3_tick_23 : decode cX3_tick 23 = .ok (.iconst 0, 1) := by decide +kernel
theorem dX3_tick_24 : decode cX3_tick 24 = .ok (.iaload, 1) := by decide +kernel
theorem dX3_tick_25 : decode cX3_tick 25 = .ok (.istore_n 1, 1) := by decide +kernel
theorem dX3_tick_26 : decode cX3_tick 26 = .ok (.iconst 0, 1) := by decide +kernel
theorem dX3_tick_27 : decode cX3_tick 27 = .ok (.istore_n 2, 1) := by decide +kernel
theorem dX3_tick_28 : decode cX3_tick 28 = .ok (.iload_n 2, 1) := by decide +kernel
theorem dX3_tick_29 : decode cX3_tick 29 = .ok (.iconst 1, 1) := by decide +kernel
theorem dX3_tick_30 : decode cX3_tick 30 = .ok (.iadd, 1) := by decide +kernel
theorem dX3_tick_31 : decode cX3_tick 31 = .ok (.aload_n 0, 1) := by decide +kernel
theorem dX3_tick_32 : decode cX3_tick 32 = .ok (.getfield 80, 3) := by decide +kernel
theorem dX3_tick_35 : decode cX3_tick 35 = .ok (.if_icmp .ge 23, 3) := by decide +kernel
theorem dX3_tick_38 : decode cX3_tick 38 = .ok (.aload_n 0, 1) := by decide +kernel
theorem dX3_tick_39 : decode cX3_tick 39 = .ok (.getfield 47, 3) := by decide +kernel
theorem dX3_tick_42 : decode cX3_tick 42 = .ok (.iload_n 2, 1) := by decide +kernel
theorem dX3_tick_43 : decode cX3_tick 43 = .ok (.aload_n 0, 1) := by decide +kernel
theorem dX3_tick_44 : decode cX3_tick 44 = .ok (.getfield 47, 3) := by decide +kernel
theorem dX3_tick_47 : decode cX3_tick 47 = .ok (.iload_n 2, 1) := by decide +kernel
theorem dX3_tick_48 : decode cX3_tick 48 = .ok (.iconst 1, 1) := by decide +kernel
theorem dX3_tick_49 : decode cX3_tick 49 = .ok (.iadd, 1) := by decide +kernel
theorem dX3_tick_50 : decode cX3_tick 50 = .ok (.iaload, 1) := by decide +kernel
theorem dX3_tick_51 : decode cX3_tick 51 = .ok (.iastore, 1) := by decide +kernel
theorem dX3_tick_52 : decode cX3_tick 52 = .ok (.iinc 2 1, 3) := by decide +kernel
theorem dX3_tick_55 : decode cX3_tick 55 = .ok (.goto (-27), 3) := by decide +kernel
theorem dX3_tick_58 : decode cX3_tick 58 = .ok (.aload_n 0, 1) := by decide +kernel
theorem dX3_tick_59 : decode cX3_tick 59 = .ok (.getfield 47, 3) := by decide +kernel
theorem dX3_tick_62 : decode cX3_tick 62 = .ok (.aload_n 0, 1) := by decide +kernel
theorem dX3_tick_63 : decode cX3_tick 63 = .ok (.getfield 80, 3) := by decide +kernel
theorem dX3_tick_66 : decode cX3_tick 66 = .ok (.iconst 1, 1) := by decide +kernel
theorem dX3_tick_67 : decode cX3_tick 67 = .ok (.isub, 1) := by decide +kernel
theorem dX3_tick_68 : decode cX3_tick 68 = .ok (.iload_n 1, 1) := by decide +kernel
theorem dX3_tick_69 : decode cX3_tick 69 = .ok (.iastore, 1) := by decide +kernel
theorem dX3_tick_70 : decode cX3_tick 70 = .ok (.aload_n 0, 1) := by decide +kernel
theorem dX3_tick_71 : decode cX3_tick 71 = .ok (.getfield 47, 3) := by decide +kernel
theorem dX3_tick_74 : decode cX3_tick 74 = .ok (.iconst 0, 1) := by decide +kernel
theorem dX3_tick_75 : decode cX3_tick 75 = .ok (.iaload, 1) := by decide +kernel
theorem dX3_tick_76 : decode cX3_tick 76 = .ok (.ireturn, 1) := by decide +kernel
theorem dX3_current_0 : decode cX3_current 0 = .ok (.aload_n 0, 1) := by decide +kernel
theorem dX3_current_1 : decode cX3_current 1 = .ok (.getfield 80, 3) := by decide +kernel
theorem dX3_current_4 : decode cX3_current 4 = .ok (.ifCond .ne 7, 3) := by decide +kernel
theorem dX3_current_7 : decode cX3_current 7 = .ok (.iconst (-1), 1) := by decide +kernel
theorem dX3_current_8 : decode cX3_current 8 = .ok (.goto 9, 3) := by decide +kernel
theorem dX3_current_11 : decode cX3_current 11 = .ok (.aload_n 0, 1) := by decide +kernel
theorem dX3_current_12 : decode cX3_current 12 = .ok (.getfield 47, 3) := by decide +kernel
theorem dX3_current_15 : decode cX3_current 15 = .ok (.iconst 0, 1) := by decide +kernel
theorem dX3_current_16 : decode cX3_current 16 = .ok (.iaload, 1) := by decide +kernel
theorem dX3_current_17 : decode cX3_current 17 = .ok (.ireturn, 1) := by decide +kernel
theorem dX3_block_0 : decode cX3_block 0 = .ok (.iload_n 1, 1) := by decide +kernel
theorem dX3_block_1 : decode cX3_block 1 = .ok (.ifCond .lt 9, 3) := by decide +kernel
theorem dX3_block_4 : decode cX3_block 4 = .ok (.iload_n 1, 1) := by decide +kernel
theorem dX3_block_5 : decode cX3_block 5 = .ok (.bipush 8, 2) := by decide +kernel
theorem dX3_block_7 : decode cX3_block 7 = .ok (.if_icmp .lt 6, 3) := by decide +kernel
theorem dX3_block_10 : decode cX3_block 10 = .ok (.bipush (-2), 2) := by decide +kernel
theorem dX3_block_12 : decode cX3_block 12 = .ok (.ireturn, 1) := by decide +kernel
theorem dX3_block_13 : decode cX3_block 13 = .ok (.aload_n 0, 1) := by decide +kernel
theorem dX3_block_14 : decode cX3_block 14 = .ok (.invokevirtual 87, 3) := by decide +kernel
theorem dX3_block_17 : decode cX3_block 17 = .ok (.aload_n 0, 1) := by decide +kernel
theorem dX3_block_18 : decode cX3_block 18 = .ok (.iload_n 1, 1) := by decide +kernel
theorem dX3_block_19 : decode cX3_block 19 = .ok (.invokevirtual 59, 3) := by decide +kernel
theorem dX3_block_22 : decode cX3_block 22 = .ok (.istore_n 2, 1) := by decide +kernel
theorem dX3_block_23 : decode cX3_block 23 = .ok (.iload_n 2, 1) := by decide +kernel
theorem dX3_block_24 : decode cX3_block 24 = .ok (.ifCond .ge 8, 3) := by decide +kernel
theorem dX3_block_27 : decode cX3_block 27 = .ok (.aload_n 0, 1) := by decide +kernel
theorem dX3_block_28 : decode cX3_block 28 = .ok (.invokevirtual 93, 3) := by decide +kernel
theorem dX3_block_31 : decode cX3_block 31 = .ok (.ireturn, 1) := by decide +kernel
theorem dX3_block_32 : decode cX3_block 32 = .ok (.aload_n 0, 1) := by decide +kernel
theorem dX3_block_33 : decode cX3_block 33 = .ok (.getfield 23, 3) := by decide +kernel
theorem dX3_block_36 : decode cX3_block 36 = .ok (.iload_n 2, 1) := by decide +kernel
theorem dX3_block_37 : decode cX3_block 37 = .ok (.iload_n 1, 1) := by decide +kernel
theorem dX3_block_38 : decode cX3_block 38 = .ok (.iastore, 1) := by decide +kernel
theorem dX3_block_39 : decode cX3_block 39 = .ok (.iload_n 2, 1) := by decide +kernel
theorem dX3_block_40 : decode cX3_block 40 = .ok (.istore_n 3, 1) := by decide +kernel
theorem dX3_block_41 : decode cX3_block 41 = .ok (.iload_n 3, 1) := by decide +kernel
theorem dX3_block_42 : decode cX3_block 42 = .ok (.iload_n 2, 1) := by decide +kernel
theorem dX3_block_43 : decode cX3_block 43 = .ok (.iconst 1, 1) := by decide +kernel
theorem dX3_block_44 : decode cX3_block 44 = .ok (.iload_n 1, 1) := by decide +kernel
theorem dX3_block_45 : decode cX3_block 45 = .ok (.ishl, 1) := by decide +kernel
theorem dX3_block_46 : decode cX3_block 46 = .ok (.iadd, 1) := by decide +kernel
theorem dX3_block_47 : decode cX3_block 47 = .ok (.if_icmp .ge 16, 3) := by decide +kernel
theorem dX3_block_50 : decode cX3_block 50 = .ok (.aload_n 0, 1) := by decide +kernel
theorem dX3_block_51 : decode cX3_block 51 = .ok (.getfield 13, 3) := by decide +kernel
theorem dX3_block_54 : decode cX3_block 54 = .ok (.iload_n 3, 1) := by decide +kernel
theorem dX3_block_55 : decode cX3_block 55 = .ok (.iconst 4, 1) := by decide +kernel
theorem dX3_block_56 : decode cX3_block 56 = .ok (.iastore, 1) := by decide +kernel
theorem dX3_block_57 : decode cX3_block 57 = .ok (.iinc 3 1, 3) := by decide +kernel
theorem dX3_block_60 : decode cX3_block 60 = .ok (.goto (-19), 3) := by decide +kernel
theorem dX3_block_63 : decode cX3_block 63 = .ok (.iload_n 2, 1) := by decide +kernel
theorem dX3_block_64 : decode cX3_block 64 = .ok (.ireturn, 1) := by decide +kernel
theorem dX3_unblock_0 : decode cX3_unblock 0 = .ok (.iload_n 1, 1) := by decide +kernel
theorem dX3_unblock_1 : decode cX3_unblock 1 = .ok (.ifCond .lt 19, 3) := by decide +kernel
theorem dX3_unblock_4 : decode cX3_unblock 4 = .ok (.iload_n 1, 1) := by decide +kernel
theorem dX3_unblock_5 : decode cX3_unblock 5 = .ok (.sipush 128, 3) := by decide +kernel
theorem dX3_unblock_8 : decode cX3_unblock 8 = .ok (.if_icmp .ge 12, 3) := by decide +kernel
theorem dX3_unblock_11 : decode cX3_unblock 11 = .ok (.aload_n 0, 1) := by decide +kernel
theorem dX3_unblock_12 : decode cX3_unblock 12 = .ok (.getfield 23, 3) := by decide +kernel
theorem dX3_unblock_15 : decode cX3_unblock 15 = .ok (.iload_n 1, 1) := by decide +kernel
theorem dX3_unblock_16 : decode cX3_unblock 16 = .ok (.iaload, 1) := by decide +kernel
theorem dX3_unblock_17 : decode cX3_unblock 17 = .ok (.ifCond .ge 6, 3) := by decide +kernel
theorem dX3_unblock_20 : decode cX3_unblock 20 = .ok (.bipush (-2), 2) := by decide +kernel
theorem dX3_unblock_22 : decode cX3_unblock 22 = .ok (.ireturn, 1) := by decide +kernel
theorem dX3_unblock_23 : decode cX3_unblock 23 = .ok (.aload_n 0, 1) := by decide +kernel
theorem dX3_unblock_24 : decode cX3_unblock 24 = .ok (.getfield 23, 3) := by decide +kernel
theorem dX3_unblock_27 : decode cX3_unblock 27 = .ok (.iload_n 1, 1) := by decide +kernel
theorem dX3_unblock_28 : decode cX3_unblock 28 = .ok (.iaload, 1) := by decide +kernel
theorem dX3_unblock_29 : decode cX3_unblock 29 = .ok (.istore_n 2, 1) := by decide +kernel
theorem dX3_unblock_30 : decode cX3_unblock 30 = .ok (.aload_n 0, 1) := by decide +kernel
theorem dX3_unblock_31 : decode cX3_unblock 31 = .ok (.getfield 23, 3) := by decide +kernel
theorem dX3_unblock_34 : decode cX3_unblock 34 = .ok (.iload_n 1, 1) := by decide +kernel
theorem dX3_unblock_35 : decode cX3_unblock 35 = .ok (.iconst (-1), 1) := by decide +kernel
theorem dX3_unblock_36 : decode cX3_unblock 36 = .ok (.iastore, 1) := by decide +kernel
theorem dX3_unblock_37 : decode cX3_unblock 37 = .ok (.aload_n 0, 1) := by decide +kernel
theorem dX3_unblock_38 : decode cX3_unblock 38 = .ok (.iload_n 1, 1) := by decide +kernel
theorem dX3_unblock_39 : decode cX3_unblock 39 = .ok (.iload_n 2, 1) := by decide +kernel
theorem dX3_unblock_40 : decode cX3_unblock 40 = .ok (.invokevirtual 76, 3) := by decide +kernel
theorem dX3_unblock_43 : decode cX3_unblock 43 = .ok (.iload_n 2, 1) := by decide +kernel
theorem dX3_unblock_44 : decode cX3_unblock 44 = .ok (.ireturn, 1) := by decide +kernel
theorem dX3_freeFrames_0 : decode cX3_freeFrames 0 = .ok (.iconst 0, 1) := by decide +kernel
theorem dX3_freeFrames_1 : decode cX3_freeFrames 1 = .ok (.istore_n 1, 1) := by decide +kernel
theorem dX3_freeFrames_2 : decode cX3_freeFrames 2 = .ok (.iconst 0, 1) := by decide +kernel
theorem dX3_freeFrames_3 : decode cX3_freeFrames 3 = .ok (.istore_n 2, 1) := by decide +kernel
theorem dX3_freeFrames_4 : decode cX3_freeFrames 4 = .ok (.iload_n 2, 1) := by decide +kernel
theorem dX3_freeFrames_5 : decode cX3_freeFrames 5 = .ok (.sipush 128, 3) := by decide +kernel
theorem dX3_freeFrames_8 : decode cX3_freeFrames 8 = .ok (.if_icmp .ge 26, 3) := by decide +kernel
theorem dX3_freeFrames_11 : decode cX3_freeFrames 11 = .ok (.iload_n 1, 1) := by decide +kernel
theorem dX3_freeFrames_12 : decode cX3_freeFrames 12 = .ok (.aload_n 0, 1) := by decide +kernel
theorem dX3_freeFrames_13 : decode cX3_freeFrames 13 = .ok (.getfield 13, 3) := by decide +kernel
theorem dX3_freeFrames_16 : decode cX3_freeFrames 16 = .ok (.iload_n 2, 1) := by decide +kernel
theorem dX3_freeFrames_17 : decode cX3_freeFrames 17 = .ok (.iaload, 1) := by decide +kernel
theorem dX3_freeFrames_18 : decode cX3_freeFrames 18 = .ok (.ifCond .ne 7, 3) := by decide +kernel
theorem dX3_freeFrames_21 : decode cX3_freeFrames 21 = .ok (.iconst 1, 1) := by decide +kernel
theorem dX3_freeFrames_22 : decode cX3_freeFrames 22 = .ok (.goto 4, 3) := by decide +kernel
theorem dX3_freeFrames_25 : decode cX3_freeFrames 25 = .ok (.iconst 0, 1) := by decide +kernel
theorem dX3_freeFrames_26 : decode cX3_freeFrames 26 = .ok (.iadd, 1) := by decide +kernel
theorem dX3_freeFrames_27 : decode cX3_freeFrames 27 = .ok (.istore_n 1, 1) := by decide +kernel
theorem dX3_freeFrames_28 : decode cX3_freeFrames 28 = .ok (.iinc 2 1, 3) := by decide +kernel
theorem dX3_freeFrames_31 : decode cX3_freeFrames 31 = .ok (.goto (-27), 3) := by decide +kernel
theorem dX3_freeFrames_34 : decode cX3_freeFrames 34 = .ok (.iload_n 1, 1) := by decide +kernel
theorem dX3_freeFrames_35 : decode cX3_freeFrames 35 = .ok (.ireturn, 1) := by decide +kernel
theorem dX3_free_0 : decode cX3_free 0 = .ok (.iload_n 1, 1) := by decide +kernel
theorem dX3_free_1 : decode cX3_free 1 = .ok (.ifCond .lt 18, 3) := by decide +kernel
theorem dX3_free_4 : decode cX3_free 4 = .ok (.iload_n 1, 1) := by decide +kernel
theorem dX3_free_5 : decode cX3_free 5 = .ok (.bipush 8, 2) := by decide +kernel
theorem dX3_free_7 : decode cX3_free 7 = .ok (.if_icmp .ge 12, 3) := by decide +kernel
theorem dX3_free_10 : decode cX3_free 10 = .ok (.iload_n 2, 1) := by decide +kernel
theorem dX3_free_11 : decode cX3_free 11 = .ok (.ifCond .lt 8, 3) := by decide +kernel
theorem dX3_free_14 : decode cX3_free 14 = .ok (.iload_n 2, 1) := by decide +kernel
theorem dX3_free_15 : decode cX3_free 15 = .ok (.iconst 1, 1) := by decide +kernel
theorem dX3_free_16 : decode cX3_free 16 = .ok (.if_icmp .le 6, 3) := by decide +kernel
theorem dX3_free_19 : decode cX3_free 19 = .ok (.bipush (-2), 2) := by decide +kernel
theorem dX3_free_21 : decode cX3_free 21 = .ok (.ireturn, 1) := by decide +kernel
theorem dX3_free_22 : decode cX3_free 22 = .ok (.iconst 0, 1) := by decide +kernel
theorem dX3_free_23 : decode cX3_free 23 = .ok (.istore_n 3, 1) := by decide +kernel
theorem dX3_free_24 : decode cX3_free 24 = .ok (.iconst (-1), 1) := by decide +kernel
theorem dX3_free_25 : decode cX3_free 25 = .ok (.istore 4, 2) := by decide +kernel
theorem dX3_free_27 : decode cX3_free 27 = .ok (.iconst 0, 1) := by decide +kernel
theorem dX3_free_28 : decode cX3_free 28 = .ok (.istore 5, 2) := by decide +kernel
theorem dX3_free_30 : decode cX3_free 30 = .ok (.iload 5, 2) := by decide +kernel
theorem dX3_free_32 : decode cX3_free 32 = .ok (.sipush 128, 3) := by decide +kernel
theorem dX3_free_35 : decode cX3_free 35 = .ok (.if_icmp .ge 42, 3) := by decide +kernel
theorem dX3_free_38 : decode cX3_free 38 = .ok (.aload_n 0, 1) := by decide +kernel
theorem dX3_free_39 : decode cX3_free 39 = .ok (.getfield 7, 3) := by decide +kernel
theorem dX3_free_42 : decode cX3_free 42 = .ok (.sipush 128, 3) := by decide +kernel
theorem dX3_free_45 : decode cX3_free 45 = .ok (.iload_n 1, 1) := by decide +kernel
theorem dX3_free_46 : decode cX3_free 46 = .ok (.imul, 1) := by decide +kernel
theorem dX3_free_47 : decode cX3_free 47 = .ok (.iload 5, 2) := by decide +kernel
theorem dX3_free_49 : decode cX3_free 49 = .ok (.iadd, 1) := by decide +kernel
theorem dX3_free_50 : decode cX3_free 50 = .ok (.baload, 1) := by decide +kernel
theorem dX3_free_51 : decode cX3_free 51 = .ok (.ifCond .eq 20, 3) := by decide +kernel
theorem dX3_free_54 : decode cX3_free 54 = .ok (.iinc 3 1, 3) := by decide +kernel
theorem dX3_free_57 : decode cX3_free 57 = .ok (.iload 4, 2) := by decide +kernel
theorem dX3_free_59 : decode cX3_free 59 = .ok (.ifCond .ge 8, 3) := by decide +kernel
theorem dX3_free_62 : decode cX3_free 62 = .ok (.iload 5, 2) := by decide +kernel
theorem dX3_free_64 : decode cX3_free 64 = .ok (.goto 5, 3) := by decide +kernel
theorem dX3_free_67 : decode cX3_free 67 = .ok (.iload 4, 2) := by decide +kernel
theorem dX3_free_69 : decode cX3_free 69 = .ok (.istore 4, 2) := by decide +kernel
theorem dX3_free_71 : decode cX3_free 71 = .ok (.iinc 5 1, 3) := by decide +kernel
theorem dX3_free_74 : decode cX3_free 74 = .ok (.goto (-44), 3) := by decide +kernel
theorem dX3_free_77 : decode cX3_free 77 = .ok (.iload_n 2, 1) := by decide +kernel
theorem dX3_free_78 : decode cX3_free 78 = .ok (.ifCond .ne 7, 3) := by decide +kernel
theorem dX3_free_81 : decode cX3_free 81 = .ok (.iload_n 3, 1) := by decide +kernel
theorem dX3_free_82 : decode cX3_free 82 = .ok (.goto 5, 3) := by decide +kernel
theorem dX3_free_85 : decode cX3_free 85 = .ok (.iload 4, 2) := by decide +kernel
theorem dX3_free_87 : decode cX3_free 87 = .ok (.ireturn, 1) := by decide +kernel
theorem dX3_frame_0 : decode cX3_frame 0 = .ok (.aload_n 0, 1) := by decide +kernel
theorem dX3_frame_1 : decode cX3_frame 1 = .ok (.iload_n 1, 1) := by decide +kernel
theorem dX3_frame_2 : decode cX3_frame 2 = .ok (.invokevirtual 100, 3) := by decide +kernel
theorem dX3_frame_5 : decode cX3_frame 5 = .ok (.ifCond .eq 32, 3) := by decide +kernel
theorem dX3_frame_8 : decode cX3_frame 8 = .ok (.iload_n 2, 1) := by decide +kernel
theorem dX3_frame_9 : decode cX3_frame 9 = .ok (.ifCond .lt 28, 3) := by decide +kernel
theorem dX3_frame_12 : decode cX3_frame 12 = .ok (.iload_n 2, 1) := by decide +kernel
theorem dX3_frame_13 : decode cX3_frame 13 = .ok (.aload_n 0, 1) := by decide +kernel
theorem dX3_frame_14 : decode cX3_frame 14 = .ok (.getfield 29, 3) := by decide +kernel
theorem dX3_frame_17 : decode cX3_frame 17 = .ok (.iload_n 1, 1) := by decide +kernel
theorem dX3_frame_18 : decode cX3_frame 18 = .ok (.iaload, 1) := by decide +kernel
theorem dX3_frame_19 : decode cX3_frame 19 = .ok (.if_icmp .ge 18, 3) := by decide +kernel
theorem dX3_frame_22 : decode cX3_frame 22 = .ok (.aload_n 0, 1) := by decide +kernel
theorem dX3_frame_23 : decode cX3_frame 23 = .ok (.getfield 41, 3) := by decide +kernel
theorem dX3_frame_26 : decode cX3_frame 26 = .ok (.sipush 256, 3) := by decide +kernel
theorem dX3_frame_29 : decode cX3_frame 29 = .ok (.iload_n 1, 1) := by decide +kernel
theorem dX3_frame_30 : decode cX3_frame 30 = .ok (.imul, 1) := by decide +kernel
theorem dX3_frame_31 : decode cX3_frame 31 = .ok (.iload_n 2, 1) := by decide +kernel
theorem dX3_frame_32 : decode cX3_frame 32 = .ok (.iadd, 1) := by decide +kernel
theorem dX3_frame_33 : decode cX3_frame 33 = .ok (.iaload, 1) := by decide +kernel
theorem dX3_frame_34 : decode cX3_frame 34 = .ok (.goto 4, 3) := by decide +kernel
theorem dX3_frame_37 : decode cX3_frame 37 = .ok (.iconst (-1), 1) := by decide +kernel
theorem dX3_frame_38 : decode cX3_frame 38 = .ok (.ireturn, 1) := by decide +kernel
theorem dX3_about_0 : decode cX3_about 0 = .ok (.iload_n 1, 1) := by decide +kernel
theorem dX3_about_1 : decode cX3_about 1 = .ok (.ifCond .lt 19, 3) := by decide +kernel
theorem dX3_about_4 : decode cX3_about 4 = .ok (.iload_n 1, 1) := by decide +kernel
theorem dX3_about_5 : decode cX3_about 5 = .ok (.sipush 128, 3) := by decide +kernel
theorem dX3_about_8 : decode cX3_about 8 = .ok (.if_icmp .ge 12, 3) := by decide +kernel
theorem dX3_about_11 : decode cX3_about 11 = .ok (.iload_n 2, 1) := by decide +kernel
theorem dX3_about_12 : decode cX3_about 12 = .ok (.ifCond .lt 8, 3) := by decide +kernel
theorem dX3_about_15 : decode cX3_about 15 = .ok (.iload_n 2, 1) := by decide +kernel
theorem dX3_about_16 : decode cX3_about 16 = .ok (.iconst 1, 1) := by decide +kernel
theorem dX3_about_17 : decode cX3_about 17 = .ok (.if_icmp .le 6, 3) := by decide +kernel
theorem dX3_about_20 : decode cX3_about 20 = .ok (.bipush (-2), 2) := by decide +kernel
theorem dX3_about_22 : decode cX3_about 22 = .ok (.ireturn, 1) := by decide +kernel
theorem dX3_about_23 : decode cX3_about 23 = .ok (.iload_n 2, 1) := by decide +kernel
theorem dX3_about_24 : decode cX3_about 24 = .ok (.ifCond .ne 10, 3) := by decide +kernel
theorem dX3_about_27 : decode cX3_about 27 = .ok (.aload_n 0, 1) := by decide +kernel
theorem dX3_about_28 : decode cX3_about 28 = .ok (.getfield 13, 3) := by decide +kernel
theorem dX3_about_31 : decode cX3_about 31 = .ok (.iload_n 1, 1) := by decide +kernel
theorem dX3_about_32 : decode cX3_about 32 = .ok (.iaload, 1) := by decide +kernel
theorem dX3_about_33 : decode cX3_about 33 = .ok (.ireturn, 1) := by decide +kernel
theorem dX3_about_34 : decode cX3_about 34 = .ok (.aload_n 0, 1) := by decide +kernel
theorem dX3_about_35 : decode cX3_about 35 = .ok (.getfield 13, 3) := by decide +kernel
theorem dX3_about_38 : decode cX3_about 38 = .ok (.iload_n 1, 1) := by decide +kernel
theorem dX3_about_39 : decode cX3_about 39 = .ok (.iaload, 1) := by decide +kernel
theorem dX3_about_40 : decode cX3_about 40 = .ok (.iconst 1, 1) := by decide +kernel
theorem dX3_about_41 : decode cX3_about 41 = .ok (.if_icmp .eq 13, 3) := by decide +kernel
theorem dX3_about_44 : decode cX3_about 44 = .ok (.aload_n 0, 1) := by decide +kernel
theorem dX3_about_45 : decode cX3_about 45 = .ok (.getfield 13, 3) := by decide +kernel
theorem dX3_about_48 : decode cX3_about 48 = .ok (.iload_n 1, 1) := by decide +kernel
theorem dX3_about_49 : decode cX3_about 49 = .ok (.iaload, 1) := by decide +kernel
theorem dX3_about_50 : decode cX3_about 50 = .ok (.iconst 2, 1) := by decide +kernel
theorem dX3_about_51 : decode cX3_about 51 = .ok (.if_icmp .ne 11, 3) := by decide +kernel
theorem dX3_about_54 : decode cX3_about 54 = .ok (.aload_n 0, 1) := by decide +kernel
theorem dX3_about_55 : decode cX3_about 55 = .ok (.iload_n 1, 1) := by decide +kernel
theorem dX3_about_56 : decode cX3_about 56 = .ok (.invokevirtual 73, 3) := by decide +kernel
theorem dX3_about_59 : decode cX3_about 59 = .ok (.goto 22, 3) := by decide +kernel
theorem dX3_about_62 : decode cX3_about 62 = .ok (.aload_n 0, 1) := by decide +kernel
theorem dX3_about_63 : decode cX3_about 63 = .ok (.getfield 13, 3) := by decide +kernel
theorem dX3_about_66 : decode cX3_about 66 = .ok (.iload_n 1, 1) := by decide +kernel
theorem dX3_about_67 : decode cX3_about 67 = .ok (.iaload, 1) := by decide +kernel
theorem dX3_about_68 : decode cX3_about 68 = .ok (.iconst 3, 1) := by decide +kernel
theorem dX3_about_69 : decode cX3_about 69 = .ok (.if_icmp .ne 11, 3) := by decide +kernel
theorem dX3_about_72 : decode cX3_about 72 = .ok (.aload_n 0, 1) := by decide +kernel
theorem dX3_about_73 : decode cX3_about 73 = .ok (.iload_n 1, 1) := by decide +kernel
theorem dX3_about_74 : decode cX3_about 74 = .ok (.invokevirtual 104, 3) := by decide +kernel
theorem dX3_about_77 : decode cX3_about 77 = .ok (.goto 4, 3) := by decide +kernel
theorem dX3_about_80 : decode cX3_about 80 = .ok (.iconst 0, 1) := by decide +kernel
theorem dX3_about_81 : decode cX3_about 81 = .ok (.ireturn, 1) := by decide +kernel
theorem dX3_process_0 : decode cX3_process 0 = .ok (.iload_n 1, 1) := by decide +kernel
theorem dX3_process_1 : decode cX3_process 1 = .ok (.ifCond .lt 18, 3) := by decide +kernel
theorem dX3_process_4 : decode cX3_process 4 = .ok (.iload_n 1, 1) := by decide +kernel
theorem dX3_process_5 : decode cX3_process 5 = .ok (.bipush 16, 2) := by decide +kernel
theorem dX3_process_7 : decode cX3_process 7 = .ok (.if_icmp .ge 12, 3) := by decide +kernel
theorem dX3_process_10 : decode cX3_process 10 = .ok (.iload_n 2, 1) := by decide +kernel
theorem dX3_process_11 : decode cX3_process 11 = .ok (.ifCond .lt 8, 3) := by decide +kernel
theorem dX3_process_14 : decode cX3_process 14 = .ok (.iload_n 2, 1) := by decide +kernel
theorem dX3_process_15 : decode cX3_process 15 = .ok (.iconst 4, 1) := by decide +kernel
theorem dX3_process_16 : decode cX3_process 16 = .ok (.if_icmp .le 6, 3) := by decide +kernel
theorem dX3_process_19 : decode cX3_process 19 = .ok (.bipush (-2), 2) := by decide +kernel
theorem dX3_process_21 : decode cX3_process 21 = .ok (.ireturn, 1) := by decide +kernel
theorem dX3_process_22 : decode cX3_process 22 = .ok (.iconst 0, 1) := by decide +kernel
theorem dX3_process_23 : decode cX3_process 23 = .ok (.istore_n 3, 1) := by decide +kernel
theorem dX3_process_24 : decode cX3_process 24 = .ok (.iconst 0, 1) := by decide +kernel
theorem dX3_process_25 : decode cX3_process 25 = .ok (.istore 4, 2) := by decide +kernel
theorem dX3_process_27 : decode cX3_process 27 = .ok (.iload 4, 2) := by decide +kernel
theorem dX3_process_29 : decode cX3_process 29 = .ok (.bipush 16, 2) := by decide +kernel
theorem dX3_process_31 : decode cX3_process 31 = .ok (.if_icmp .ge 38, 3) := by decide +kernel
theorem dX3_process_34 : decode cX3_process 34 = .ok (.iload_n 3, 1) := by decide +kernel
theorem dX3_process_35 : decode cX3_process 35 = .ok (.aload_n 0, 1) := by decide +kernel
theorem dX3_process_36 : decode cX3_process 36 = .ok (.getfield 26, 3) := by decide +kernel
theorem dX3_process_39 : decode cX3_process 39 = .ok (.iload 4, 2) := by decide +kernel
theorem dX3_process_41 : decode cX3_process 41 = .ok (.iaload, 1) := by decide +kernel
theorem dX3_process_42 : decode cX3_process 42 = .ok (.ifCond .eq 18, 3) := by decide +kernel
theorem dX3_process_45 : decode cX3_process 45 = .ok (.aload_n 0, 1) := by decide +kernel
theorem dX3_process_46 : decode cX3_process 46 = .ok (.getfield 32, 3) := by decide +kernel
theorem dX3_process_49 : decode cX3_process 49 = .ok (.iload 4, 2) := by decide +kernel
theorem dX3_process_51 : decode cX3_process 51 = .ok (.iaload, 1) := by decide +kernel
theorem dX3_process_52 : decode cX3_process 52 = .ok (.iload_n 1, 1) := by decide +kernel
theorem dX3_process_53 : decode cX3_process 53 = .ok (.if_icmp .ne 7, 3) := by decide +kernel
theorem dX3_process_56 : decode cX3_process 56 = .ok (.iconst 1, 1) := by decide +kernel
theorem dX3_process_57 : decode cX3_process 57 = .ok (.goto 4, 3) := by decide +kernel
theorem dX3_process_60 : decode cX3_process 60 = .ok (.iconst 0, 1) := by decide +kernel
theorem dX3_process_61 : decode cX3_process 61 = .ok (.iadd, 1) := by decide +kernel
theorem dX3_process_62 : decode cX3_process 62 = .ok (.istore_n 3, 1) := by decide +kernel
theorem dX3_process_63 : decode cX3_process 63 = .ok (.iinc 4 1, 3) := by decide +kernel
theorem dX3_process_66 : decode cX3_process 66 = .ok (.goto (-39), 3) := by decide +kernel
theorem dX3_process_69 : decode cX3_process 69 = .ok (.iload_n 2, 1) := by decide +kernel
theorem dX3_process_70 : decode cX3_process 70 = .ok (.tableswitch 80 0 3 #[30, 37, 58, 78], 30) := by decide +kernel
theorem dX3_process_100 : decode cX3_process 100 = .ok (.aload_n 0, 1) := by decide +kernel
theorem dX3_process_101 : decode cX3_process 101 = .ok (.getfield 26, 3) := by decide +kernel
theorem dX3_process_104 : decode cX3_process 104 = .ok (.iload_n 1, 1) := by decide +kernel
theorem dX3_process_105 : decode cX3_process 105 = .ok (.iaload, 1) := by decide +kernel
theorem dX3_process_106 : decode cX3_process 106 = .ok (.ireturn, 1) := by decide +kernel
theorem dX3_process_107 : decode cX3_process 107 = .ok (.aload_n 0, 1) := by decide +kernel
theorem dX3_process_108 : decode cX3_process 108 = .ok (.getfield 26, 3) := by decide +kernel
theorem dX3_process_111 : decode cX3_process 111 = .ok (.iload_n 1, 1) := by decide +kernel
theorem dX3_process_112 : decode cX3_process 112 = .ok (.iaload, 1) := by decide +kernel
theorem dX3_process_113 : decode cX3_process 113 = .ok (.iconst 1, 1) := by decide +kernel
theorem dX3_process_114 : decode cX3_process 114 = .ok (.if_icmp .ne 12, 3) := by decide +kernel
theorem dX3_process_117 : decode cX3_process 117 = .ok (.aload_n 0, 1) := by decide +kernel
theorem dX3_process_118 : decode cX3_process 118 = .ok (.getfield 29, 3) := by decide +kernel
theorem dX3_process_121 : decode cX3_process 121 = .ok (.iload_n 1, 1) := by decide +kernel
theorem dX3_process_122 : decode cX3_process 122 = .ok (.iaload, 1) := by decide +kernel
theorem dX3_process_123 : decode cX3_process 123 = .ok (.goto 4, 3) := by decide +kernel
theorem dX3_process_126 : decode cX3_process 126 = .ok (.iconst 0, 1) := by decide +kernel
theorem dX3_process_127 : decode cX3_process 127 = .ok (.ireturn, 1) := by decide +kernel
theorem dX3_process_128 : decode cX3_process 128 = .ok (.aload_n 0, 1) := by decide +kernel
theorem dX3_process_129 : decode cX3_process 129 = .ok (.getfield 26, 3) := by decide +kernel
theorem dX3_process_132 : decode cX3_process 132 = .ok (.iload_n 1, 1) := by decide +kernel
theorem dX3_process_133 : decode cX3_process 133 = .ok (.iaload, 1) := by decide +kernel
theorem dX3_process_134 : decode cX3_process 134 = .ok (.ifCond .ne 7, 3) := by decide +kernel
theorem dX3_process_137 : decode cX3_process 137 = .ok (.iconst (-1), 1) := by decide +kernel
theorem dX3_process_138 : decode cX3_process 138 = .ok (.goto 9, 3) := by decide +kernel
theorem dX3_process_141 : decode cX3_process 141 = .ok (.aload_n 0, 1) := by decide +kernel
theorem dX3_process_142 : decode cX3_process 142 = .ok (.getfield 32, 3) := by decide +kernel
theorem dX3_process_145 : decode cX3_process 145 = .ok (.iload_n 1, 1) := by decide +kernel
theorem dX3_process_146 : decode cX3_process 146 = .ok (.iaload, 1) := by decide +kernel
theorem dX3_process_147 : decode cX3_process 147 = .ok (.ireturn, 1) := by decide +kernel
theorem dX3_process_148 : decode cX3_process 148 = .ok (.iload_n 3, 1) := by decide +kernel
theorem dX3_process_149 : decode cX3_process 149 = .ok (.ireturn, 1) := by decide +kernel
theorem dX3_process_150 : decode cX3_process 150 = .ok (.aload_n 0, 1) := by decide +kernel
theorem dX3_process_151 : decode cX3_process 151 = .ok (.iload_n 1, 1) := by decide +kernel
theorem dX3_process_152 : decode cX3_process 152 = .ok (.invokevirtual 125, 3) := by decide +kernel
theorem dX3_process_155 : decode cX3_process 155 = .ok (.ireturn, 1) := by decide +kernel
theorem dX3_told_0 : decode cX3_told 0 = .ok (.iload_n 1, 1) := by decide +kernel
theorem dX3_told_1 : decode cX3_told 1 = .ok (.ifCond .lt 8, 3) := by decide +kernel
theorem dX3_told_4 : decode cX3_told 4 = .ok (.iload_n 1, 1) := by decide +kernel
theorem dX3_told_5 : decode cX3_told 5 = .ok (.iconst 4, 1) := by decide +kernel
theorem dX3_told_6 : decode cX3_told 6 = .ok (.if_icmp .le 6, 3) := by decide +kernel
theorem dX3_told_9 : decode cX3_told 9 = .ok (.bipush (-2), 2) := by decide +kernel
theorem dX3_told_11 : decode cX3_told 11 = .ok (.ireturn, 1) := by decide +kernel
theorem dX3_told_12 : decode cX3_told 12 = .ok (.iconst 0, 1) := by decide +kernel
theorem dX3_told_13 : decode cX3_told 13 = .ok (.istore_n 2, 1) := by decide +kernel
theorem dX3_told_14 : decode cX3_told 14 = .ok (.iconst 0, 1) := by decide +kernel
theorem dX3_told_15 : decode cX3_told 15 = .ok (.istore_n 3, 1) := by decide +kernel
theorem dX3_told_16 : decode cX3_told 16 = .ok (.iconst 0, 1) := by decide +kernel
theorem dX3_told_17 : decode cX3_told 17 = .ok (.istore 4, 2) := by decide +kernel
theorem dX3_told_19 : decode cX3_told 19 = .ok (.iload 4, 2) := by decide +kernel
theorem dX3_told_21 : decode cX3_told 21 = .ok (.bipush 16, 2) := by decide +kernel
theorem dX3_told_23 : decode cX3_told 23 = .ok (.if_icmp .ge 47, 3) := by decide +kernel
theorem dX3_told_26 : decode cX3_told 26 = .ok (.iload_n 2, 1) := by decide +kernel
theorem dX3_told_27 : decode cX3_told 27 = .ok (.aload_n 0, 1) := by decide +kernel
theorem dX3_told_28 : decode cX3_told 28 = .ok (.getfield 26, 3) := by decide +kernel
theorem dX3_told_31 : decode cX3_told 31 = .ok (.iload 4, 2) := by decide +kernel
theorem dX3_told_33 : decode cX3_told 33 = .ok (.iaload, 1) := by decide +kernel
theorem dX3_told_34 : decode cX3_told 34 = .ok (.iconst 1, 1) := by decide +kernel
theorem dX3_told_35 : decode cX3_told 35 = .ok (.if_icmp .ne 7, 3) := by decide +kernel
theorem dX3_told_38 : decode cX3_told 38 = .ok (.iconst 1, 1) := by decide +kernel
theorem dX3_told_39 : decode cX3_told 39 = .ok (.goto 4, 3) := by decide +kernel
theorem dX3_told_42 : decode cX3_told 42 = .ok (.iconst 0, 1) := by decide +kernel
theorem dX3_told_43 : decode cX3_told 43 = .ok (.iadd, 1) := by decide +kernel
theorem dX3_told_44 : decode cX3_told 44 = .ok (.istore_n 2, 1) := by decide +kernel
theorem dX3_told_45 : decode cX3_told 45 = .ok (.iload_n 3, 1) := by decide +kernel
theorem dX3_told_46 : decode cX3_told 46 = .ok (.aload_n 0, 1) := by decide +kernel
theorem dX3_told_47 : decode cX3_told 47 = .ok (.getfield 26, 3) := by decide +kernel
theorem dX3_told_50 : decode cX3_told 50 = .ok (.iload 4, 2) := by decide +kernel
theorem dX3_told_52 : decode cX3_told 52 = .ok (.iaload, 1) := by decide +kernel
theorem dX3_told_53 : decode cX3_told 53 = .ok (.iconst 2, 1) := by decide +kernel
theorem dX3_told_54 : decode cX3_told 54 = .ok (.if_icmp .ne 7, 3) := by decide +kernel
theorem dX3_told_57 : decode cX3_told 57 = .ok (.iconst 1, 1) := by decide +kernel
theorem dX3_told_58 : decode cX3_told 58 = .ok (.goto 4, 3) := by decide +kernel
theorem dX3_told_61 : decode cX3_told 61 = .ok (.iconst 0, 1) := by decide +kernel
theorem dX3_told_62 : decode cX3_told 62 = .ok (.iadd, 1) := by decide +kernel
theorem dX3_told_63 : decode cX3_told 63 = .ok (.istore_n 3, 1) := by decide +kernel
theorem dX3_told_64 : decode cX3_told 64 = .ok (.iinc 4 1, 3) := by decide +kernel
theorem dX3_told_67 : decode cX3_told 67 = .ok (.goto (-48), 3) := by decide +kernel
theorem dX3_told_70 : decode cX3_told 70 = .ok (.iload_n 1, 1) := by decide +kernel
theorem dX3_told_71 : decode cX3_told 71 = .ok (.ifCond .ne 7, 3) := by decide +kernel
theorem dX3_told_74 : decode cX3_told 74 = .ok (.iload_n 2, 1) := by decide +kernel
theorem dX3_told_75 : decode cX3_told 75 = .ok (.goto 40, 3) := by decide +kernel
theorem dX3_told_78 : decode cX3_told 78 = .ok (.iload_n 1, 1) := by decide +kernel
theorem dX3_told_79 : decode cX3_told 79 = .ok (.iconst 1, 1) := by decide +kernel
theorem dX3_told_80 : decode cX3_told 80 = .ok (.if_icmp .ne 7, 3) := by decide +kernel
theorem dX3_told_83 : decode cX3_told 83 = .ok (.iload_n 3, 1) := by decide +kernel
theorem dX3_told_84 : decode cX3_told 84 = .ok (.goto 31, 3) := by decide +kernel
theorem dX3_told_87 : decode cX3_told 87 = .ok (.iload_n 1, 1) := by decide +kernel
theorem dX3_told_88 : decode cX3_told 88 = .ok (.iconst 2, 1) := by decide +kernel
theorem dX3_told_89 : decode cX3_told 89 = .ok (.if_icmp .ne 10, 3) := by decide +kernel
theorem dX3_told_92 : decode cX3_told 92 = .ok (.aload_n 0, 1) := by decide +kernel
theorem dX3_told_93 : decode cX3_told 93 = .ok (.getfield 122, 3) := by decide +kernel
theorem dX3_told_96 : decode cX3_told 96 = .ok (.goto 19, 3) := by decide +kernel
theorem dX3_told_99 : decode cX3_told 99 = .ok (.iload_n 1, 1) := by decide +kernel
theorem dX3_told_100 : decode cX3_told 100 = .ok (.iconst 3, 1) := by decide +kernel
theorem dX3_told_101 : decode cX3_told 101 = .ok (.if_icmp .ne 10, 3) := by decide +kernel
theorem dX3_told_104 : decode cX3_told 104 = .ok (.aload_n 0, 1) := by decide +kernel
theorem dX3_told_105 : decode cX3_told 105 = .ok (.getfield 63, 3) := by decide +kernel
theorem dX3_told_108 : decode cX3_told 108 = .ok (.goto 7, 3) := by decide +kernel
theorem dX3_told_111 : decode cX3_told 111 = .ok (.aload_n 0, 1) := by decide +kernel
theorem dX3_told_112 : decode cX3_told 112 = .ok (.getfield 131, 3) := by decide +kernel
theorem dX3_told_115 : decode cX3_told 115 = .ok (.ireturn, 1) := by decide +kernel
