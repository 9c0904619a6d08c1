theorem dX2_init_0 : decode cX2_init 0 = .ok (.aload_n 0, 1) := by decide +kernel
theorem dX2_init_1 : decode cX2_init 1 = .ok (.invokespecial 1, 3) := by decide +kernel
theorem dX2_init_4 : decode cX2_init 4 = .ok (.aload_n 0, 1) := by decide +kernel
theorem dX2_init_5 : decode cX2_init 5 = .ok (.new 7, 3) := by decide +kernel
theorem dX2_init_8 : decode cX2_init 8 = .ok (.dup, 1) := by decide +kernel
theorem dX2_init_9 : decode cX2_init 9 = .ok (.invokespecial 9, 3) := by decide +kernel
theorem dX2_init_12 : decode cX2_init 12 = .ok (.putfield 10, 3) := by decide +kernel
theorem dX2_init_15 : decode cX2_init 15 = .ok (.aload_n 0, 1) := by decide +kernel
theorem dX2_init_16 : decode cX2_init 16 = .ok (.new 16, 3) := by decide +kernel
theorem dX2_init_19 : decode cX2_init 19 = .ok (.dup, 1) := by decide +kernel
theorem dX2_init_20 : decode cX2_init 20 = .ok (.aload_n 0, 1) := by decide +kernel
theorem dX2_init_21 : decode cX2_init 21 = .ok (.getfield 10, 3) := by decide +kernel
theorem dX2_init_24 : decode cX2_init 24 = .ok (.invokespecial 18, 3) := by decide +kernel
theorem dX2_init_27 : decode cX2_init 27 = .ok (.putfield 21, 3) := by decide +kernel
theorem dX2_init_30 : decode cX2_init 30 = .ok (.aload_n 0, 1) := by decide +kernel
theorem dX2_init_31 : decode cX2_init 31 = .ok (.new 16, 3) := by decide +kernel
theorem dX2_init_34 : decode cX2_init 34 = .ok (.dup, 1) := by decide +kernel
theorem dX2_init_35 : decode cX2_init 35 = .ok (.aload_n 0, 1) := by decide +kernel
theorem dX2_init_36 : decode cX2_init 36 = .ok (.getfield 10, 3) := by decide +kernel
theorem dX2_init_39 : decode cX2_init 39 = .ok (.invokespecial 18, 3) := by decide +kernel
theorem dX2_init_42 : decode cX2_init 42 = .ok (.putfield 25, 3) := by decide +kernel
theorem dX2_init_45 : decode cX2_init 45 = .ok (.aload_n 0, 1) := by decide +kernel
theorem dX2_init_46 : decode cX2_init 46 = .ok (.sipush 8192, 3) := by decide +kernel
theorem dX2_init_49 : decode cX2_init 49 = .ok (.newarray .int, 2) := by decide +kernel
theorem dX2_init_51 : decode cX2_init 51 = .ok (.putfield 28, 3) := by decide +kernel
theorem dX2_init_54 : decode cX2_init 54 = .ok (.aload_n 0, 1) := by decide +kernel
theorem dX2_init_55 : decode cX2_init 55 = .ok (.sipush 128, 3) := by decide +kernel
theorem dX2_init_58 : decode cX2_init 58 = .ok (.newarray .int, 2) := by decide +kernel
theorem dX2_init_60 : decode cX2_init 60 = .ok (.putfield 32, 3) := by decide +kernel
theorem dX2_init_63 : decode cX2_init 63 = .ok (.aload_n 0, 1) := by decide +kernel
theorem dX2_init_64 : decode cX2_init 64 = .ok (.sipush 128, 3) := by decide +kernel
theorem dX2_init_67 : decode cX2_init 67 = .ok (.newarray .int, 2) := by decide +kernel
theorem dX2_init_69 : decode cX2_init 69 = .ok (.putfield 35, 3) := by decide +kernel
theorem dX2_init_72 : decode cX2_init 72 = .ok (.iconst 0, 1) := by decide +kernel
theorem dX2_init_73 : decode cX2_init 73 = .ok (.istore_n 1, 1) := by decide +kernel
theorem dX2_init_74 : decode cX2_init 74 = .ok (.iload_n 1, 1) := by decide +kernel
theorem dX2_init_75 : decode cX2_init 75 = .ok (.sipush 128, 3) := by decide +kernel
theorem dX2_init_78 : decode cX2_init 78 = .ok (.if_icmp .ge 16, 3) := by decide +kernel
theorem dX2_init_81 : decode cX2_init 81 = .ok (.aload_n 0, 1) := by decide +kernel
theorem dX2_init_82 : decode cX2_init 82 = .ok (.getfield 35, 3) := by decide +kernel
theorem dX2_init_85 : decode cX2_init 85 = .ok (.iload_n 1, 1) := by decide +kernel
theorem dX2_init_86 : decode cX2_init 86 = .ok (.iconst (-1), 1) := by decide +kernel
theorem dX2_init_87 : decode cX2_init 87 = .ok (.iastore, 1) := by decide +kernel
theorem dX2_init_88 : decode cX2_init 88 = .ok (.iinc 1 1, 3) := by decide +kernel
theorem dX2_init_91 : decode cX2_init 91 = .ok (.goto (-17), 3) := by decide +kernel
theorem dX2_init_94 : decode cX2_init 94 = .ok (.aload_n 0, 1) := by decide +kernel
theorem dX2_init_95 : decode cX2_init 95 = .ok (.bipush 16, 2) := by decide +kernel
theorem dX2_init_97 : decode cX2_init 97 = .ok (.newarray .int, 2) := by decide +kernel
theorem dX2_init_99 : decode cX2_init 99 = .ok (.putfield 38, 3) := by decide +kernel
theorem dX2_init_102 : decode cX2_init 102 = .ok (.aload_n 0, 1) := by decide +kernel
theorem dX2_init_103 : decode cX2_init 103 = .ok (.bipush 16, 2) := by decide +kernel
theorem dX2_init_105 : decode cX2_init 105 = .ok (.newarray .int, 2) := by decide +kernel
theorem dX2_init_107 : decode cX2_init 107 = .ok (.putfield 41, 3) := by decide +kernel
theorem dX2_init_110 : decode cX2_init 110 = .ok (.aload_n 0, 1) := by decide +kernel
theorem dX2_init_111 : decode cX2_init 111 = .ok (.bipush 16, 2) := by decide +kernel
theorem dX2_init_113 : decode cX2_init 113 = .ok (.newarray .int, 2) := by decide +kernel
theorem dX2_init_115 : decode cX2_init 115 = .ok (.putfield 44, 3) := by decide +kernel
theorem dX2_init_118 : decode cX2_init 118 = .ok (.aload_n 0, 1) := by decide +kernel
theorem dX2_init_119 : decode cX2_init 119 = .ok (.bipush 16, 2) := by decide +kernel
theorem dX2_init_121 : decode cX2_init 121 = .ok (.newarray .int, 2) := by decide +kernel
theorem dX2_init_123 : decode cX2_init 123 = .ok (.putfield 47, 3) := by decide +kernel
theorem dX2_init_126 : decode cX2_init 126 = .ok (.aload_n 0, 1) := by decide +kernel
theorem dX2_init_127 : decode cX2_init 127 = .ok (.bipush 16, 2) := by decide +kernel
theorem dX2_init_129 : decode cX2_init 129 = .ok (.newarray .int, 2) := by decide +kernel
theorem dX2_init_131 : decode cX2_init 131 = .ok (.putfield 50, 3) := by decide +kernel
theorem dX2_init_134 : decode cX2_init 134 = .ok (.aload_n 0, 1) := by decide +kernel
theorem dX2_init_135 : decode cX2_init 135 = .ok (.bipush 16, 2) := by decide +kernel
theorem dX2_init_137 : decode cX2_init 137 = .ok (.newarray .int, 2) := by decide +kernel
theorem dX2_init_139 : decode cX2_init 139 = .ok (.putfield 53, 3) := by decide +kernel
theorem dX2_init_142 : decode cX2_init 142 = .ok (.iconst 0, 1) := by decide +kernel
theorem dX2_init_143 : decode cX2_init 143 = .ok (.istore_n 1, 1) := by decide +kernel
theorem dX2_init_144 : decode cX2_init 144 = .ok (.iload_n 1, 1) := by decide +kernel
theorem dX2_init_145 : decode cX2_init 145 = .ok (.bipush 16, 2) := by decide +kernel
theorem dX2_init_147 : decode cX2_init 147 = .ok (.if_icmp .ge 23, 3) := by decide +kernel
theorem dX2_init_150 : decode cX2_init 150 = .ok (.aload_n 0, 1) := by decide +kernel
theorem dX2_init_151 : decode cX2_init 151 = .ok (.getfield 38, 3) := by decide +kernel
theorem dX2_init_154 : decode cX2_init 154 = .ok (.iload_n 1, 1) := by decide +kernel
theorem dX2_init_155 : decode cX2_init 155 = .ok (.iconst 0, 1) := by decide +kernel
theorem dX2_init_156 : decode cX2_init 156 = .ok (.iastore, 1) := by decide +kernel
theorem dX2_init_157 : decode cX2_init 157 = .ok (.aload_n 0, 1) := by decide +kernel
theorem dX2_init_158 : decode cX2_init 158 = .ok (.getfield 41, 3) := by decide +kernel
theorem dX2_init_161 : decode cX2_init 161 = .ok (.iload_n 1, 1) := by decide +kernel
theorem dX2_init_162 : decode cX2_init 162 = .ok (.iconst (-1), 1) := by decide +kernel
theorem dX2_init_163 : decode cX2_init 163 = .ok (.iastore, 1) := by decide +kernel
theorem dX2_init_164 : decode cX2_init 164 = .ok (.iinc 1 1, 3) := by decide +kernel
theorem dX2_init_167 : decode cX2_init 167 = .ok (.goto (-23), 3) := by decide +kernel
theorem dX2_init_170 : decode cX2_init 170 = .ok (.return_, 1) := by decide +kernel
theorem dX2_spawn_0 : decode cX2_spawn 0 = .ok (.aload_n 0, 1) := by decide +kernel
theorem dX2_spawn_1 : decode cX2_spawn 1 = .ok (.iconst (-1), 1) := by decide +kernel
theorem dX2_spawn_2 : decode cX2_spawn 2 = .ok (.invokevirtual 56, 3) := by decide +kernel
theorem dX2_spawn_5 : decode cX2_spawn 5 = .ok (.ireturn, 1) := by decide +kernel
theorem dX2_fork_0 : decode cX2_fork 0 = .ok (.aload_n 0, 1) := by decide +kernel
theorem dX2_fork_1 : decode cX2_fork 1 = .ok (.iload_n 1, 1) := by decide +kernel
theorem dX2_fork_2 : decode cX2_fork 2 = .ok (.invokevirtual 60, 3) := by decide +kernel
theorem dX2_fork_5 : decode cX2_fork 5 = .ok (.ifCond .eq 11, 3) := by decide +kernel
theorem dX2_fork_8 : decode cX2_fork 8 = .ok (.aload_n 0, 1) := by decide +kernel
theorem dX2_fork_9 : decode cX2_fork 9 = .ok (.iload_n 1, 1) := by decide +kernel
theorem dX2_fork_10 : decode cX2_fork 10 = .ok (.invokevirtual 56, 3) := by decide +kernel
theorem dX2_fork_13 : decode cX2_fork 13 = .ok (.goto 5, 3) := by decide +kernel
theorem dX2_fork_16 : decode cX2_fork 16 = .ok (.bipush (-2), 2) := by decide +kernel
theorem dX2_fork_18 : decode cX2_fork 18 = .ok (.ireturn, 1) := by decide +kernel
theorem dX2_grow_0 : decode cX2_grow 0 = .ok (.aload_n 0, 1) := by decide +kernel
theorem dX2_grow_1 : decode cX2_grow 1 = .ok (.iload_n 1, 1) := by decide +kernel
theorem dX2_grow_2 : decode cX2_grow 2 = .ok (.invokevirtual 60, 3) := by decide +kernel
theorem dX2_grow_5 : decode cX2_grow 5 = .ok (.ifCond .ne 6, 3) := by decide +kernel
theorem dX2_grow_8 : decode cX2_grow 8 = .ok (.bipush (-2), 2) := by decide +kernel
theorem dX2_grow_10 : decode cX2_grow 10 = .ok (.ireturn, 1) := by decide +kernel
theorem dX2_grow_11 : decode cX2_grow 11 = .ok (.aload_n 0, 1) := by decide +kernel
theorem dX2_grow_12 : decode cX2_grow 12 = .ok (.getfield 47, 3) := by decide +kernel
theorem dX2_grow_15 : decode cX2_grow 15 = .ok (.iload_n 1, 1) := by decide +kernel
theorem dX2_grow_16 : decode cX2_grow 16 = .ok (.iaload, 1) := by decide +kernel
theorem dX2_grow_17 : decode cX2_grow 17 = .ok (.istore_n 3, 1) := by decide +kernel
theorem dX2_grow_18 : decode cX2_grow 18 = .ok (.iload_n 2, 1) := by decide +kernel
theorem dX2_grow_19 : decode cX2_grow 19 = .ok (.iload_n 3, 1) := by decide +kernel
theorem dX2_grow_20 : decode cX2_grow 20 = .ok (.ineg, 1) := by decide +kernel
theorem dX2_grow_21 : decode cX2_grow 21 = .ok (.if_icmp .lt 12, 3) := by decide +kernel
theorem dX2_grow_24 : decode cX2_grow 24 = .ok (.iload_n 2, 1) := by decide +kernel
theorem dX2_grow_25 : decode cX2_grow 25 = .ok (.sipush 256, 3) := by decide +kernel
theorem dX2_grow_28 : decode cX2_grow 28 = .ok (.iload_n 3, 1) := by decide +kernel
theorem dX2_grow_29 : decode cX2_grow 29 = .ok (.isub, 1) := by decide +kernel
theorem dX2_grow_30 : decode cX2_grow 30 = .ok (.if_icmp .le 6, 3) := by decide +kernel
theorem dX2_grow_33 : decode cX2_grow 33 = .ok (.bipush (-2), 2) := by decide +kernel
theorem dX2_grow_35 : decode cX2_grow 35 = .ok (.ireturn, 1) := by decide +kernel
theorem dX2_grow_36 : decode cX2_grow 36 = .ok (.iload_n 3, 1) := by decide +kernel
theorem dX2_grow_37 : decode cX2_grow 37 = .ok (.iload_n 2, 1) := by decide +kernel
theorem dX2_grow_38 : decode cX2_grow 38 = .ok (.iadd, 1) := by decide +kernel
theorem dX2_grow_39 : decode cX2_grow 39 = .ok (.istore 4, 2) := by decide +kernel
theorem dX2_grow_41 : decode cX2_grow 41 = .ok (.iload_n 3, 1) := by decide +kernel
theorem dX2_grow_42 : decode cX2_grow 42 = .ok (.istore 5, 2) := by decide +kernel
theorem dX2_grow_44 : decode cX2_grow 44 = .ok (.iload 5, 2) := by decide +kernel
theorem dX2_grow_46 : decode cX2_grow 46 = .ok (.iload 4, 2) := by decide +kernel
theorem dX2_grow_48 : decode cX2_grow 48 = .ok (.if_icmp .ge 30, 3) := by decide +kernel
theorem dX2_grow_51 : decode cX2_grow 51 = .ok (.aload_n 0, 1) := by decide +kernel
theorem dX2_grow_52 : decode cX2_grow 52 = .ok (.iload_n 1, 1) := by decide +kernel
theorem dX2_grow_53 : decode cX2_grow 53 = .ok (.iload 5, 2) := by decide +kernel
theorem dX2_grow_55 : decode cX2_grow 55 = .ok (.invokevirtual 64, 3) := by decide +kernel
theorem dX2_grow_58 : decode cX2_grow 58 = .ok (.ifCond .ne 14, 3) := by decide +kernel
theorem dX2_grow_61 : decode cX2_grow 61 = .ok (.aload_n 0, 1) := by decide +kernel
theorem dX2_grow_62 : decode cX2_grow 62 = .ok (.iload_n 1, 1) := by decide +kernel
theorem dX2_grow_63 : decode cX2_grow 63 = .ok (.iload_n 3, 1) := by decide +kernel
theorem dX2_grow_64 : decode cX2_grow 64 = .ok (.invokevirtual 68, 3) := by decide +kernel
theorem dX2_grow_67 : decode cX2_grow 67 = .ok (.aload_n 0, 1) := by decide +kernel
theorem dX2_grow_68 : decode cX2_grow 68 = .ok (.invokevirtual 72, 3) := by decide +kernel
theorem dX2_grow_71 : decode cX2_grow 71 = .ok (.ireturn, 1) := by decide +kernel
theorem dX2_grow_72 : decode cX2_grow 72 = .ok (.iinc 5 1, 3) := by decide +kernel
theorem dX2_grow_75 : decode cX2_grow 75 = .ok (.goto (-31), 3) := by decide +kernel
theorem dX2_grow_78 : decode cX2_grow 78 = .ok (.aload_n 0, 1) := by decide +kernel
theorem dX2_grow_79 : decode cX2_grow 79 = .ok (.iload_n 1, 1) := by decide +kernel
theorem dX2_grow_80 : decode cX2_grow 80 = .ok (.iload 4, 2) := by decide +kernel
theorem dX2_grow_82 : decode cX2_grow 82 = .ok (.invokevirtual 68, 3) := by decide +kernel
theorem dX2_grow_85 : decode cX2_grow 85 = .ok (.iload_n 3, 1) := by decide +kernel
theorem dX2_grow_86 : decode cX2_grow 86 = .ok (.ireturn, 1) := by decide +kernel
theorem dX2_load_0 : decode cX2_load 0 = .ok (.aload_n 0, 1) := by decide +kernel
theorem dX2_load_1 : decode cX2_load 1 = .ok (.iload_n 1, 1) := by decide +kernel
theorem dX2_load_2 : decode cX2_load 2 = .ok (.iload_n 2, 1) := by decide +kernel
theorem dX2_load_3 : decode cX2_load 3 = .ok (.invokestatic 76, 3) := by decide +kernel
theorem dX2_load_6 : decode cX2_load 6 = .ok (.invokevirtual 79, 3) := by decide +kernel
theorem dX2_load_9 : decode cX2_load 9 = .ok (.ifCond .ne 5, 3) := by decide +kernel
theorem dX2_load_12 : decode cX2_load 12 = .ok (.iconst 0, 1) := by decide +kernel
theorem dX2_load_13 : decode cX2_load 13 = .ok (.ireturn, 1) := by decide +kernel
theorem dX2_load_14 : decode cX2_load 14 = .ok (.aload_n 0, 1) := by decide +kernel
theorem dX2_load_15 : decode cX2_load 15 = .ok (.aload_n 0, 1) := by decide +kernel
theorem dX2_load_16 : decode cX2_load 16 = .ok (.iload_n 1, 1) := by decide +kernel
theorem dX2_load_17 : decode cX2_load 17 = .ok (.iload_n 2, 1) := by decide +kernel
theorem dX2_load_18 : decode cX2_load 18 = .ok (.invokevirtual 82, 3) := by decide +kernel
theorem dX2_load_21 : decode cX2_load 21 = .ok (.invokevirtual 86, 3) := by decide +kernel
theorem dX2_load_24 : decode cX2_load 24 = .ok (.ireturn, 1) := by decide +kernel
theorem dX2_has_0 : decode cX2_has 0 = .ok (.aload_n 0, 1) := by decide +kernel
theorem dX2_has_1 : decode cX2_has 1 = .ok (.iload_n 1, 1) := by decide +kernel
theorem dX2_has_2 : decode cX2_has 2 = .ok (.iload_n 2, 1) := by decide +kernel
theorem dX2_has_3 : decode cX2_has 3 = .ok (.invokestatic 76, 3) := by decide +kernel
theorem dX2_has_6 : decode cX2_has 6 = .ok (.invokevirtual 79, 3) := by decide +kernel
theorem dX2_has_9 : decode cX2_has 9 = .ok (.ireturn, 1) := by decide +kernel
theorem dX2_store_0 : decode cX2_store 0 = .ok (.aload_n 0, 1) := by decide +kernel
theorem dX2_store_1 : decode cX2_store 1 = .ok (.iload_n 1, 1) := by decide +kernel
theorem dX2_store_2 : decode cX2_store 2 = .ok (.invokevirtual 60, 3) := by decide +kernel
theorem dX2_store_5 : decode cX2_store 5 = .ok (.ifCond .ne 6, 3) := by decide +kernel
theorem dX2_store_8 : decode cX2_store 8 = .ok (.bipush (-2), 2) := by decide +kernel
theorem dX2_store_10 : decode cX2_store 10 = .ok (.ireturn, 1) := by decide +kernel
theorem dX2_store_11 : decode cX2_store 11 = .ok (.aload_n 0, 1) := by decide +kernel
theorem dX2_store_12 : decode cX2_store 12 = .ok (.iload_n 1, 1) := by decide +kernel
theorem dX2_store_13 : decode cX2_store 13 = .ok (.iload_n 2, 1) := by decide +kernel
theorem dX2_store_14 : decode cX2_store 14 = .ok (.invokestatic 76, 3) := by decide +kernel
theorem dX2_store_17 : decode cX2_store 17 = .ok (.invokevirtual 79, 3) := by decide +kernel
theorem dX2_store_20 : decode cX2_store 20 = .ok (.ifCond .ne 6, 3) := by decide +kernel
theorem dX2_store_23 : decode cX2_store 23 = .ok (.bipush (-5), 2) := by decide +kernel
theorem dX2_store_25 : decode cX2_store 25 = .ok (.ireturn, 1) := by decide +kernel
theorem dX2_store_26 : decode cX2_store 26 = .ok (.aload_n 0, 1) := by decide +kernel
theorem dX2_store_27 : decode cX2_store 27 = .ok (.iload_n 1, 1) := by decide +kernel
theorem dX2_store_28 : decode cX2_store 28 = .ok (.iload_n 2, 1) := by decide +kernel
theorem dX2_store_29 : decode cX2_store 29 = .ok (.invokestatic 76, 3) := by decide +kernel
theorem dX2_store_32 : decode cX2_store 32 = .ok (.invokevirtual 89, 3) := by decide +kernel
theorem dX2_store_35 : decode cX2_store 35 = .ok (.ifCond .ne 8, 3) := by decide +kernel
theorem dX2_store_38 : decode cX2_store 38 = .ok (.aload_n 0, 1) := by decide +kernel
theorem dX2_store_39 : decode cX2_store 39 = .ok (.invokevirtual 72, 3) := by decide +kernel
theorem dX2_store_42 : decode cX2_store 42 = .ok (.ireturn, 1) := by decide +kernel
theorem dX2_store_43 : decode cX2_store 43 = .ok (.aload_n 0, 1) := by decide +kernel
theorem dX2_store_44 : decode cX2_store 44 = .ok (.aload_n 0, 1) := by decide +kernel
theorem dX2_store_45 : decode cX2_store 45 = .ok (.iload_n 1, 1) := by decide +kernel
theorem dX2_store_46 : decode cX2_store 46 = .ok (.iload_n 2, 1) := by decide +kernel
theorem dX2_store_47 : decode cX2_store 47 = .ok (.invokevirtual 82, 3) := by decide +kernel
theorem dX2_store_50 : decode cX2_store 50 = .ok (.iload_n 3, 1) := by decide +kernel
theorem dX2_store_51 : decode cX2_store 51 = .ok (.invokevirtual 92, 3) := by decide +kernel
theorem dX2_store_54 : decode cX2_store 54 = .ok (.iconst 0, 1) := by decide +kernel
theorem dX2_store_55 : decode cX2_store 55 = .ok (.ireturn, 1) := by decide +kernel
theorem dX2_exit_0 : decode cX2_exit 0 = .ok (.aload_n 0, 1) := by decide +kernel
theorem dX2_exit_1 : decode cX2_exit 1 = .ok (.iload_n 1, 1) := by decide +kernel
theorem dX2_exit_2 : decode cX2_exit 2 = .ok (.invokevirtual 60, 3) := by decide +kernel
theorem dX2_exit_5 : decode cX2_exit 5 = .ok (.ifCond .ne 6, 3) := by decide +kernel
theorem dX2_exit_8 : decode cX2_exit 8 = .ok (.bipush (-2), 2) := by decide +kernel
theorem dX2_exit_10 : decode cX2_exit 10 = .ok (.ireturn, 1) := by decide +kernel
theorem dX2_exit_11 : decode cX2_exit 11 = .ok (.aload_n 0, 1) := by decide +kernel
theorem dX2_exit_12 : decode cX2_exit 12 = .ok (.iload_n 1, 1) := by decide +kernel
theorem dX2_exit_13 : decode cX2_exit 13 = .ok (.invokevirtual 95, 3) := by decide +kernel
theorem dX2_exit_16 : decode cX2_exit 16 = .ok (.aload_n 0, 1) := by decide +kernel
theorem dX2_exit_17 : decode cX2_exit 17 = .ok (.iload_n 1, 1) := by decide +kernel
theorem dX2_exit_18 : decode cX2_exit 18 = .ok (.iconst 0, 1) := by decide +kernel
theorem dX2_exit_19 : decode cX2_exit 19 = .ok (.invokevirtual 68, 3) := by decide +kernel
theorem dX2_exit_22 : decode cX2_exit 22 = .ok (.aload_n 0, 1) := by decide +kernel
theorem dX2_exit_23 : decode cX2_exit 23 = .ok (.iload_n 1, 1) := by decide +kernel
theorem dX2_exit_24 : decode cX2_exit 24 = .ok (.invokevirtual 99, 3) := by decide +kernel
theorem dX2_exit_27 : decode cX2_exit 27 = .ok (.aload_n 0, 1) := by decide +kernel
theorem dX2_exit_28 : decode cX2_exit 28 = .ok (.getfield 41, 3) := by decide +kernel
theorem dX2_exit_31 : decode cX2_exit 31 = .ok (.iload_n 1, 1) := by decide +kernel
theorem dX2_exit_32 : decode cX2_exit 32 = .ok (.iaload, 1) := by decide +kernel
theorem dX2_exit_33 : decode cX2_exit 33 = .ok (.iconst (-1), 1) := by decide +kernel
theorem dX2_exit_34 : decode cX2_exit 34 = .ok (.if_icmp .ne 11, 3) := by decide +kernel
theorem dX2_exit_37 : decode cX2_exit 37 = .ok (.aload_n 0, 1) := by decide +kernel
theorem dX2_exit_38 : decode cX2_exit 38 = .ok (.iload_n 1, 1) := by decide +kernel
theorem dX2_exit_39 : decode cX2_exit 39 = .ok (.invokevirtual 102, 3) := by decide +kernel
theorem dX2_exit_42 : decode cX2_exit 42 = .ok (.goto 17, 3) := by decide +kernel
theorem dX2_exit_45 : decode cX2_exit 45 = .ok (.aload_n 0, 1) := by decide +kernel
theorem dX2_exit_46 : decode cX2_exit 46 = .ok (.getfield 38, 3) := by decide +kernel
theorem dX2_exit_49 : decode cX2_exit 49 = .ok (.iload_n 1, 1) := by decide +kernel
theorem dX2_exit_50 : decode cX2_exit 50 = .ok (.iconst 2, 1) := by decide +kernel
theorem dX2_exit_51 : decode cX2_exit 51 = .ok (.iastore, 1) := by decide +kernel
theorem dX2_exit_52 : decode cX2_exit 52 = .ok (.aload_n 0, 1) := by decide +kernel
theorem dX2_exit_53 : decode cX2_exit 53 = .ok (.getfield 44, 3) := by decide +kernel
theorem dX2_exit_56 : decode cX2_exit 56 = .ok (.iload_n 1, 1) := by decide +kernel
theorem dX2_exit_57 : decode cX2_exit 57 = .ok (.iload_n 2, 1) := by decide +kernel
theorem dX2_exit_58 : decode cX2_exit 58 = .ok (.iastore, 1) := by decide +kernel
theorem dX2_exit_59 : decode cX2_exit 59 = .ok (.iconst 0, 1) := by decide +kernel
theorem dX2_exit_60 : decode cX2_exit 60 = .ok (.ireturn, 1) := by decide +kernel
theorem dX2_reap_0 : decode cX2_reap 0 = .ok (.aload_n 0, 1) := by decide +kernel
theorem dX2_reap_1 : decode cX2_reap 1 = .ok (.iload_n 1, 1) := by decide +kernel
theorem dX2_reap_2 : decode cX2_reap 2 = .ok (.invokevirtual 60, 3) := by decide +kernel
theorem dX2_reap_5 : decode cX2_reap 5 = .ok (.ifCond .ne 6, 3) := by decide +kernel
theorem dX2_reap_8 : decode cX2_reap 8 = .ok (.bipush (-2), 2) := by decide +kernel
theorem dX2_reap_10 : decode cX2_reap 10 = .ok (.ireturn, 1) := by decide +kernel
theorem dX2_reap_11 : decode cX2_reap 11 = .ok (.aload_n 0, 1) := by decide +kernel
theorem dX2_reap_12 : decode cX2_reap 12 = .ok (.iload_n 1, 1) := by decide +kernel
theorem dX2_reap_13 : decode cX2_reap 13 = .ok (.invokevirtual 105, 3) := by decide +kernel
theorem dX2_reap_16 : decode cX2_reap 16 = .ok (.ifCond .ne 6, 3) := by decide +kernel
theorem dX2_reap_19 : decode cX2_reap 19 = .ok (.bipush (-6), 2) := by decide +kernel
theorem dX2_reap_21 : decode cX2_reap 21 = .ok (.ireturn, 1) := by decide +kernel
theorem dX2_reap_22 : decode cX2_reap 22 = .ok (.iconst 0, 1) := by decide +kernel
theorem dX2_reap_23 : decode cX2_reap 23 = .ok (.istore_n 2, 1) := by decide +kernel
theorem dX2_reap_24 : decode cX2_reap 24 = .ok (.iload_n 2, 1) := by decide +kernel
theorem dX2_reap_25 : decode cX2_reap 25 = .ok (.bipush 16, 2) := by decide +kernel
theorem dX2_reap_27 : decode cX2_reap 27 = .ok (.if_icmp .ge 51, 3) := by decide +kernel
theorem dX2_reap_30 : decode cX2_reap 30 = .ok (.aload_n 0, 1) := by decide +kernel
theorem dX2_reap_31 : decode cX2_reap 31 = .ok (.getfield 41, 3) := by decide +kernel
theorem dX2_reap_34 : decode cX2_reap 34 = .ok (.iload_n 2, 1) := by decide +kernel
theorem dX2_reap_35 : decode cX2_reap 35 = .ok (.iaload, 1) := by decide +kernel
theorem dX2_reap_36 : decode cX2_reap 36 = .ok (.iload_n 1, 1) := by decide +kernel
theorem dX2_reap_37 : decode cX2_reap 37 = .ok (.if_icmp .ne 35, 3) := by decide +kernel
theorem dX2_reap_40 : decode cX2_reap 40 = .ok (.aload_n 0, 1) := by decide +kernel
theorem dX2_reap_41 : decode cX2_reap 41 = .ok (.getfield 38, 3) := by decide +kernel
theorem dX2_reap_44 : decode cX2_reap 44 = .ok (.iload_n 2, 1) := by decide +kernel
theorem dX2_reap_45 : decode cX2_reap 45 = .ok (.iaload, 1) := by decide +kernel
theorem dX2_reap_46 : decode cX2_reap 46 = .ok (.iconst 2, 1) := by decide +kernel
theorem dX2_reap_47 : decode cX2_reap 47 = .ok (.if_icmp .ne 25, 3) := by decide +kernel
theorem dX2_reap_50 : decode cX2_reap 50 = .ok (.aload_n 0, 1) := by decide +kernel
theorem dX2_reap_51 : decode cX2_reap 51 = .ok (.iload_n 2, 1) := by decide +kernel
theorem dX2_reap_52 : decode cX2_reap 52 = .ok (.invokevirtual 102, 3) := by decide +kernel
theorem dX2_reap_55 : decode cX2_reap 55 = .ok (.sipush 256, 3) := by decide +kernel
theorem dX2_reap_58 : decode cX2_reap 58 = .ok (.iload_n 2, 1) := by decide +kernel
theorem dX2_reap_59 : decode cX2_reap 59 = .ok (.imul, 1) := by decide +kernel
theorem dX2_reap_60 : decode cX2_reap 60 = .ok (.aload_n 0, 1) := by decide +kernel
theorem dX2_reap_61 : decode cX2_reap 61 = .ok (.getfield 44, 3) := by decide +kernel
theorem dX2_reap_64 : decode cX2_reap 64 = .ok (.iload_n 2, 1) := by decide +kernel
theorem dX2_reap_65 : decode cX2_reap 65 = .ok (.iaload, 1) := by decide +kernel
theorem dX2_reap_66 : decode cX2_reap 66 = .ok (.sipush 255, 3) := by decide +kernel
theorem dX2_reap_69 : decode cX2_reap 69 = .ok (.iand, 1) := by decide +kernel
theorem dX2_reap_70 : decode cX2_reap 70 = .ok (.iadd, 1) := by decide +kernel
theorem dX2_reap_71 : decode cX2_reap 71 = .ok (.ireturn, 1) := by decide +kernel
theorem dX2_reap_72 : decode cX2_reap 72 = .ok (.iinc 2 1, 3) := by decide +kernel
theorem dX2_reap_75 : decode cX2_reap 75 = .ok (.goto (-51), 3) := by decide +kernel
theorem dX2_reap_78 : decode cX2_reap 78 = .ok (.bipush (-7), 2) := by decide +kernel
theorem dX2_reap_80 : decode cX2_reap 80 = .ok (.ireturn, 1) := by decide +kernel
theorem dX2_tick_0 : decode cX2_tick 0 = .ok (.aload_n 0, 1) := by decide +kernel
theorem dX2_tick_1 : decode cX2_tick 1 = .ok (.getfield 108, 3) := by decide +kernel
theorem dX2_tick_4 : decode cX2_tick 4 = .ok (.ifCond .ne 5, 3) := by decide +kernel
theorem dX2_tick_7 : decode cX2_tick 7 = .ok (.iconst (-1), 1) := by decide +kernel
theorem dX2_tick_8 : decode cX2_tick 8 = .ok (.ireturn, 1) := by decide +kernel
theorem dX2_tick_9 : decode cX2_tick 9 = .ok (.aload_n 0, 1) := by decide +kernel
theorem dX2_tick_10 : decode cX2_tick 10 = .ok (.getfield 53, 3) := by decide +kernel
theorem dX2_tick_13 : decode cX2_tick 13 = .ok (.iconst 0, 1) := by decide +kernel
theorem dX2_tick_14 : decode cX2_tick 14 = .ok (.iaload, 1) := by decide +kernel
theorem dX2_tick_15 : decode cX2_tick 15 = .ok (.istore_n 1, 1) := by decide +kernel
theorem dX2_tick_16 : decode cX2_tick 16 = .ok (.aload_n 0, 1) := by decide +kernel
theorem dX2_tick_17 : decode cX2_tick 17 = .ok (.iload_n 1, 1) := by decide +kernel
theorem dX2_tick_18 : decode cX2_tick 18 = .ok (.invokevirtual 95, 3) := by decide +kernel
theorem dX2_tick_21 : decode cX2_tick 21 = .ok (.aload_n 0, 1) := by decide +kernel
theorem dX2_tick_22 : decode cX2_tick 22 = .ok (.iload_n 1, 1) := by decide +kernel
theorem dX2_tick_23 : decode cX2_tick 23 = .ok (.invokevirtual 112, 3) := by decide +kernel
theorem dX2_tick_26 : decode cX2_tick 26 = .ok (.aload_n 0, 1) := by decide +kernel
theorem dX2_tick_27 : decode cX2_tick 27 = .ok (.dup, 1) := by decide +kernel
theorem dX2_tick_28 : decode cX2_tick 28 = .ok (.getfield 115, 3) := by decide +kernel
theorem dX2_tick_31 : decode cX2_tick 31 = .ok (.iconst 1, 1) := by decide +kernel
theorem dX2_tick_32 : decode cX2_tick 32 = .ok (.iadd, 1) := by decide +kernel
theorem dX2_tick_33 : decode cX2_tick 33 = .ok (.putfield 115, 3) := by decide +kernel
theorem dX2_tick_36 : decode cX2_tick 36 = .ok (.aload_n 0, 1) := by decide +kernel
theorem dX2_tick_37 : decode cX2_tick 37 = .ok (.getfield 53, 3) := by decide +kernel
theorem dX2_tick_40 : decode cX2_tick 40 = .ok (.iconst 0, 1) := by decide +kernel
theorem dX2_tick_41 : decode cX2_tick 41 = .ok (.iaload, 1) := by decide +kernel
theorem dX2_tick_42 : decode cX2_tick 42 = .ok (.ireturn, 1) := by decide +kernel
theorem dX2_current_0 : decode cX2_current 0 = .ok (.aload_n 0, 1) := by decide +kernel
theorem dX2_current_1 : decode cX2_current 1 = .ok (.getfield 108, 3) := by decide +kernel
theorem dX2_current_4 : decode cX2_current 4 = .ok (.ifCond .ne 7, 3) := by decide +kernel
theorem dX2_current_7 : decode cX2_current 7 = .ok (.iconst (-1), 1) := by decide +kernel
theorem dX2_current_8 : decode cX2_current 8 = .ok (.goto 9, 3) := by decide +kernel
theorem dX2_current_11 : decode cX2_current 11 = .ok (.aload_n 0, 1) := by decide +kernel
theorem dX2_current_12 : decode cX2_current 12 = .ok (.getfield 53, 3) := by decide +kernel
theorem dX2_current_15 : decode cX2_current 15 = .ok (.iconst 0, 1) := by decide +kernel
theorem dX2_current_16 : decode cX2_current 16 = .ok (.iaload, 1) := by decide +kernel
theorem dX2_current_17 : decode cX2_current 17 = .ok (.ireturn, 1) := by decide +kernel
theorem dX2_block_0 : decode cX2_block 0 = .ok (.iload_n 1, 1) := by decide +kernel
theorem dX2_block_1 : decode cX2_block 1 = .ok (.invokestatic 118, 3) := by decide +kernel
theorem dX2_block_4 : decode cX2_block 4 = .ok (.ifCond .ne 6, 3) := by decide +kernel
theorem dX2_block_7 : decode cX2_block 7 = .ok (.bipush (-2), 2) := by decide +kernel
theorem dX2_block_9 : decode cX2_block 9 = .ok (.ireturn, 1) := by decide +kernel
theorem dX2_block_10 : decode cX2_block 10 = .ok (.aload_n 0, 1) := by decide +kernel
theorem dX2_block_11 : decode cX2_block 11 = .ok (.getfield 10, 3) := by decide +kernel
theorem dX2_block_14 : decode cX2_block 14 = .ok (.iload_n 1, 1) := by decide +kernel
theorem dX2_block_15 : decode cX2_block 15 = .ok (.invokevirtual 121, 3) := by decide +kernel
theorem dX2_block_18 : decode cX2_block 18 = .ok (.istore_n 2, 1) := by decide +kernel
theorem dX2_block_19 : decode cX2_block 19 = .ok (.iload_n 2, 1) := by decide +kernel
theorem dX2_block_20 : decode cX2_block 20 = .ok (.invokestatic 124, 3) := by decide +kernel
theorem dX2_block_23 : decode cX2_block 23 = .ok (.ifCond .ne 8, 3) := by decide +kernel
theorem dX2_block_26 : decode cX2_block 26 = .ok (.aload_n 0, 1) := by decide +kernel
theorem dX2_block_27 : decode cX2_block 27 = .ok (.invokevirtual 72, 3) := by decide +kernel
theorem dX2_block_30 : decode cX2_block 30 = .ok (.ireturn, 1) := by decide +kernel
theorem dX2_block_31 : decode cX2_block 31 = .ok (.aload_n 0, 1) := by decide +kernel
theorem dX2_block_32 : decode cX2_block 32 = .ok (.getfield 35, 3) := by decide +kernel
theorem dX2_block_35 : decode cX2_block 35 = .ok (.iload_n 2, 1) := by decide +kernel
theorem dX2_block_36 : decode cX2_block 36 = .ok (.iload_n 1, 1) := by decide +kernel
theorem dX2_block_37 : decode cX2_block 37 = .ok (.iastore, 1) := by decide +kernel
theorem dX2_block_38 : decode cX2_block 38 = .ok (.iload_n 2, 1) := by decide +kernel
theorem dX2_block_39 : decode cX2_block 39 = .ok (.ireturn, 1) := by decide +kernel
theorem dX2_unblock_0 : decode cX2_unblock 0 = .ok (.iload_n 1, 1) := by decide +kernel
theorem dX2_unblock_1 : decode cX2_unblock 1 = .ok (.invokestatic 124, 3) := by decide +kernel
theorem dX2_unblock_4 : decode cX2_unblock 4 = .ok (.ifCond .eq 13, 3) := by decide +kernel
theorem dX2_unblock_7 : decode cX2_unblock 7 = .ok (.aload_n 0, 1) := by decide +kernel
theorem dX2_unblock_8 : decode cX2_unblock 8 = .ok (.getfield 35, 3) := by decide +kernel
theorem dX2_unblock_11 : decode cX2_unblock 11 = .ok (.iload_n 1, 1) := by decide +kernel
theorem dX2_unblock_12 : decode cX2_unblock 12 = .ok (.iaload, 1) := by decide +kernel
theorem dX2_unblock_13 : decode cX2_unblock 13 = .ok (.iconst (-1), 1) := by decide +kernel
theorem dX2_unblock_14 : decode cX2_unblock 14 = .ok (.if_icmp .ne 6, 3) := by decide +kernel
theorem dX2_unblock_17 : decode cX2_unblock 17 = .ok (.bipush (-2), 2) := by decide +kernel
theorem dX2_unblock_19 : decode cX2_unblock 19 = .ok (.ireturn, 1) := by decide +kernel
theorem dX2_unblock_20 : decode cX2_unblock 20 = .ok (.aload_n 0, 1) := by decide +kernel
theorem dX2_unblock_21 : decode cX2_unblock 21 = .ok (.getfield 35, 3) := by decide +kernel
theorem dX2_unblock_24 : decode cX2_unblock 24 = .ok (.iload_n 1, 1) := by decide +kernel
theorem dX2_unblock_25 : decode cX2_unblock 25 = .ok (.iaload, 1) := by decide +kernel
theorem dX2_unblock_26 : decode cX2_unblock 26 = .ok (.istore_n 2, 1) := by decide +kernel
theorem dX2_unblock_27 : decode cX2_unblock 27 = .ok (.aload_n 0, 1) := by decide +kernel
theorem dX2_unblock_28 : decode cX2_unblock 28 = .ok (.getfield 35, 3) := by decide +kernel
theorem dX2_unblock_31 : decode cX2_unblock 31 = .ok (.iload_n 1, 1) := by decide +kernel
theorem dX2_unblock_32 : decode cX2_unblock 32 = .ok (.iconst (-1), 1) := by decide +kernel
theorem dX2_unblock_33 : decode cX2_unblock 33 = .ok (.iastore, 1) := by decide +kernel
theorem dX2_unblock_34 : decode cX2_unblock 34 = .ok (.aload_n 0, 1) := by decide +kernel
theorem dX2_unblock_35 : decode cX2_unblock 35 = .ok (.getfield 10, 3) := by decide +kernel
theorem dX2_unblock_38 : decode cX2_unblock 38 = .ok (.iload_n 1, 1) := by decide +kernel
theorem dX2_unblock_39 : decode cX2_unblock 39 = .ok (.iload_n 2, 1) := by decide +kernel
theorem dX2_unblock_40 : decode cX2_unblock 40 = .ok (.invokevirtual 127, 3) := by decide +kernel
theorem dX2_unblock_43 : decode cX2_unblock 43 = .ok (.iload_n 2, 1) := by decide +kernel
theorem dX2_unblock_44 : decode cX2_unblock 44 = .ok (.ireturn, 1) := by decide +kernel
theorem dX2_freeFrames_0 : decode cX2_freeFrames 0 = .ok (.iconst 0, 1) := by decide +kernel
theorem dX2_freeFrames_1 : decode cX2_freeFrames 1 = .ok (.istore_n 1, 1) := by decide +kernel
theorem dX2_freeFrames_2 : decode cX2_freeFrames 2 = .ok (.iconst 0, 1) := by decide +kernel
theorem dX2_freeFrames_3 : decode cX2_freeFrames 3 = .ok (.istore_n 2, 1) := by decide +kernel
theorem dX2_freeFrames_4 : decode cX2_freeFrames 4 = .ok (.iload_n 2, 1) := by decide +kernel
theorem dX2_freeFrames_5 : decode cX2_freeFrames 5 = .ok (.bipush 7, 2) := by decide +kernel
theorem dX2_freeFrames_7 : decode cX2_freeFrames 7 = .ok (.if_icmp .gt 22, 3) := by decide +kernel
theorem dX2_freeFrames_10 : decode cX2_freeFrames 10 = .ok (.iload_n 1, 1) := by decide +kernel
theorem dX2_freeFrames_11 : decode cX2_freeFrames 11 = .ok (.aload_n 0, 1) := by decide +kernel
theorem dX2_freeFrames_12 : decode cX2_freeFrames 12 = .ok (.getfield 10, 3) := by decide +kernel
theorem dX2_freeFrames_15 : decode cX2_freeFrames 15 = .ok (.iload_n 2, 1) := by decide +kernel
theorem dX2_freeFrames_16 : decode cX2_freeFrames 16 = .ok (.invokevirtual 130, 3) := by decide +kernel
theorem dX2_freeFrames_19 : decode cX2_freeFrames 19 = .ok (.iload_n 2, 1) := by decide +kernel
theorem dX2_freeFrames_20 : decode cX2_freeFrames 20 = .ok (.ishl, 1) := by decide +kernel
theorem dX2_freeFrames_21 : decode cX2_freeFrames 21 = .ok (.iadd, 1) := by decide +kernel
theorem dX2_freeFrames_22 : decode cX2_freeFrames 22 = .ok (.istore_n 1, 1) := by decide +kernel
theorem dX2_freeFrames_23 : decode cX2_freeFrames 23 = .ok (.iinc 2 1, 3) := by decide +kernel
theorem dX2_freeFrames_26 : decode cX2_freeFrames 26 = .ok (.goto (-22), 3) := by decide +kernel
theorem dX2_freeFrames_29 : decode cX2_freeFrames 29 = .ok (.iload_n 1, 1) := by decide +kernel
theorem dX2_freeFrames_30 : decode cX2_freeFrames 30 = .ok (.ireturn, 1) := by decide +kernel
theorem dX2_free_0 : decode cX2_free 0 = .ok (.iload_n 1, 1) := by decide +kernel
theorem dX2_free_1 : decode cX2_free 1 = .ok (.invokestatic 118, 3) := by decide +kernel
theorem dX2_free_4 : decode cX2_free 4 = .ok (.ifCond .ne 6, 3) := by decide +kernel
theorem dX2_free_7 : decode cX2_free 7 = .ok (.bipush (-2), 2) := by decide +kernel
theorem dX2_free_9 : decode cX2_free 9 = .ok (.ireturn, 1) := by decide +kernel
theorem dX2_free_10 : decode cX2_free 10 = .ok (.iload_n 2, 1) := by decide +kernel
theorem dX2_free_11 : decode cX2_free 11 = .ok (.lookupswitch 43 #[(0, 25), (1, 34)], 25) := by decide +kernel
theorem dX2_free_36 : decode cX2_free 36 = .ok (.aload_n 0, 1) := by decide +kernel
theorem dX2_free_37 : decode cX2_free 37 = .ok (.getfield 10, 3) := by decide +kernel
theorem dX2_free_40 : decode cX2_free 40 = .ok (.iload_n 1, 1) := by decide +kernel
theorem dX2_free_41 : decode cX2_free 41 = .ok (.invokevirtual 130, 3) := by decide +kernel
theorem dX2_free_44 : decode cX2_free 44 = .ok (.ireturn, 1) := by decide +kernel
theorem dX2_free_45 : decode cX2_free 45 = .ok (.aload_n 0, 1) := by decide +kernel
theorem dX2_free_46 : decode cX2_free 46 = .ok (.getfield 10, 3) := by decide +kernel
theorem dX2_free_49 : decode cX2_free 49 = .ok (.iload_n 1, 1) := by decide +kernel
theorem dX2_free_50 : decode cX2_free 50 = .ok (.invokevirtual 133, 3) := by decide +kernel
theorem dX2_free_53 : decode cX2_free 53 = .ok (.ireturn, 1) := by decide +kernel
theorem dX2_free_54 : decode cX2_free 54 = .ok (.bipush (-2), 2) := by decide +kernel
theorem dX2_free_56 : decode cX2_free 56 = .ok (.ireturn, 1) := by decide +kernel
theorem dX2_frame_0 : decode cX2_frame 0 = .ok (.aload_n 0, 1) := by decide +kernel
theorem dX2_frame_1 : decode cX2_frame 1 = .ok (.iload_n 1, 1) := by decide +kernel
theorem dX2_frame_2 : decode cX2_frame 2 = .ok (.iload_n 2, 1) := by decide +kernel
theorem dX2_frame_3 : decode cX2_frame 3 = .ok (.invokevirtual 136, 3) := by decide +kernel
theorem dX2_frame_6 : decode cX2_frame 6 = .ok (.ireturn, 1) := by decide +kernel
theorem dX2_about_0 : decode cX2_about 0 = .ok (.iload_n 1, 1) := by decide +kernel
theorem dX2_about_1 : decode cX2_about 1 = .ok (.invokestatic 124, 3) := by decide +kernel
theorem dX2_about_4 : decode cX2_about 4 = .ok (.ifCond .ne 6, 3) := by decide +kernel
theorem dX2_about_7 : decode cX2_about 7 = .ok (.bipush (-2), 2) := by decide +kernel
theorem dX2_about_9 : decode cX2_about 9 = .ok (.ireturn, 1) := by decide +kernel
theorem dX2_about_10 : decode cX2_about 10 = .ok (.iload_n 2, 1) := by decide +kernel
theorem dX2_about_11 : decode cX2_about 11 = .ok (.lookupswitch 56 #[(0, 25), (1, 31)], 25) := by decide +kernel
theorem dX2_about_36 : decode cX2_about 36 = .ok (.aload_n 0, 1) := by decide +kernel
theorem dX2_about_37 : decode cX2_about 37 = .ok (.iload_n 1, 1) := by decide +kernel
theorem dX2_about_38 : decode cX2_about 38 = .ok (.invokevirtual 139, 3) := by decide +kernel
theorem dX2_about_41 : decode cX2_about 41 = .ok (.ireturn, 1) := by decide +kernel
theorem dX2_about_42 : decode cX2_about 42 = .ok (.aload_n 0, 1) := by decide +kernel
theorem dX2_about_43 : decode cX2_about 43 = .ok (.getfield 21, 3) := by decide +kernel
theorem dX2_about_46 : decode cX2_about 46 = .ok (.iload_n 1, 1) := by decide +kernel
theorem dX2_about_47 : decode cX2_about 47 = .ok (.invokevirtual 142, 3) := by decide +kernel
theorem dX2_about_50 : decode cX2_about 50 = .ok (.aload_n 0, 1) := by decide +kernel
theorem dX2_about_51 : decode cX2_about 51 = .ok (.getfield 25, 3) := by decide +kernel
theorem dX2_about_54 : decode cX2_about 54 = .ok (.iload_n 1, 1) := by decide +kernel
theorem dX2_about_55 : decode cX2_about 55 = .ok (.invokevirtual 142, 3) := by decide +kernel
theorem dX2_about_58 : decode cX2_about 58 = .ok (.iadd, 1) := by decide +kernel
theorem dX2_about_59 : decode cX2_about 59 = .ok (.aload_n 0, 1) := by decide +kernel
theorem dX2_about_60 : decode cX2_about 60 = .ok (.getfield 32, 3) := by decide +kernel
theorem dX2_about_63 : decode cX2_about 63 = .ok (.iload_n 1, 1) := by decide +kernel
theorem dX2_about_64 : decode cX2_about 64 = .ok (.iaload, 1) := by decide +kernel
theorem dX2_about_65 : decode cX2_about 65 = .ok (.iadd, 1) := by decide +kernel
theorem dX2_about_66 : decode cX2_about 66 = .ok (.ireturn, 1) := by decide +kernel
theorem dX2_about_67 : decode cX2_about 67 = .ok (.bipush (-2), 2) := by decide +kernel
theorem dX2_about_69 : decode cX2_about 69 = .ok (.ireturn, 1) := by decide +kernel
theorem dX2_process_0 : decode cX2_process 0 = .ok (.iload_n 1, 1) := by decide +kernel
theorem dX2_process_1 : decode cX2_process 1 = .ok (.invokestatic 145, 3) := by decide +kernel
theorem dX2_process_4 : decode cX2_process 4 = .ok (.ifCond .ne 6, 3) := by decide +kernel
theorem dX2_process_7 : decode cX2_process 7 = .ok (.bipush (-2), 2) := by decide +kernel
theorem dX2_process_9 : decode cX2_process 9 = .ok (.ireturn, 1) := by decide +kernel
theorem dX2_process_10 : decode cX2_process 10 = .ok (.iload_n 2, 1) := by decide +kernel
theorem dX2_process_11 : decode cX2_process 11 = .ok (.tableswitch 66 0 4 #[33, 40, 47, 54, 60], 33) := by decide +kernel
theorem dX2_process_44 : decode cX2_process 44 = .ok (.aload_n 0, 1) := by decide +kernel
theorem dX2_process_45 : decode cX2_process 45 = .ok (.getfield 38, 3) := by decide +kernel
theorem dX2_process_48 : decode cX2_process 48 = .ok (.iload_n 1, 1) := by decide +kernel
theorem dX2_process_49 : decode cX2_process 49 = .ok (.iaload, 1) := by decide +kernel
theorem dX2_process_50 : decode cX2_process 50 = .ok (.ireturn, 1) := by decide +kernel
theorem dX2_process_51 : decode cX2_process 51 = .ok (.aload_n 0, 1) := by decide +kernel
theorem dX2_process_52 : decode cX2_process 52 = .ok (.getfield 47, 3) := by decide +kernel
theorem dX2_process_55 : decode cX2_process 55 = .ok (.iload_n 1, 1) := by decide +kernel
theorem dX2_process_56 : decode cX2_process 56 = .ok (.iaload, 1) := by decide +kernel
theorem dX2_process_57 : decode cX2_process 57 = .ok (.ireturn, 1) := by decide +kernel
theorem dX2_process_58 : decode cX2_process 58 = .ok (.aload_n 0, 1) := by decide +kernel
theorem dX2_process_59 : decode cX2_process 59 = .ok (.getfield 41, 3) := by decide +kernel
theorem dX2_process_62 : decode cX2_process 62 = .ok (.iload_n 1, 1) := by decide +kernel
theorem dX2_process_63 : decode cX2_process 63 = .ok (.iaload, 1) := by decide +kernel
theorem dX2_process_64 : decode cX2_process 64 = .ok (.ireturn, 1) := by decide +kernel
theorem dX2_process_65 : decode cX2_process 65 = .ok (.aload_n 0, 1) := by decide +kernel
theorem dX2_process_66 : decode cX2_process 66 = .ok (.iload_n 1, 1) := by decide +kernel
theorem dX2_process_67 : decode cX2_process 67 = .ok (.invokevirtual 105, 3) := by decide +kernel
theorem dX2_process_70 : decode cX2_process 70 = .ok (.ireturn, 1) := by decide +kernel
theorem dX2_process_71 : decode cX2_process 71 = .ok (.aload_n 0, 1) := by decide +kernel
theorem dX2_process_72 : decode cX2_process 72 = .ok (.iload_n 1, 1) := by decide +kernel
theorem dX2_process_73 : decode cX2_process 73 = .ok (.invokevirtual 148, 3) := by decide +kernel
theorem dX2_process_76 : decode cX2_process 76 = .ok (.ireturn, 1) := by decide +kernel
theorem dX2_process_77 : decode cX2_process 77 = .ok (.bipush (-2), 2) := by decide +kernel
theorem dX2_process_79 : decode cX2_process 79 = .ok (.ireturn, 1) := by decide +kernel
theorem dX2_told_0 : decode cX2_told 0 = .ok (.iload_n 1, 1) := by decide +kernel
theorem dX2_told_1 : decode cX2_told 1 = .ok (.tableswitch 62 0 4 #[35, 41, 47, 52, 57], 35) := by decide +kernel
theorem dX2_told_36 : decode cX2_told 36 = .ok (.aload_n 0, 1) := by decide +kernel
theorem dX2_told_37 : decode cX2_told 37 = .ok (.iconst 1, 1) := by decide +kernel
theorem dX2_told_38 : decode cX2_told 38 = .ok (.invokevirtual 151, 3) := by decide +kernel
theorem dX2_told_41 : decode cX2_told 41 = .ok (.ireturn, 1) := by decide +kernel
theorem dX2_told_42 : decode cX2_told 42 = .ok (.aload_n 0, 1) := by decide +kernel
theorem dX2_told_43 : decode cX2_told 43 = .ok (.iconst 2, 1) := by decide +kernel
theorem dX2_told_44 : decode cX2_told 44 = .ok (.invokevirtual 151, 3) := by decide +kernel
theorem dX2_told_47 : decode cX2_told 47 = .ok (.ireturn, 1) := by decide +kernel
theorem dX2_told_48 : decode cX2_told 48 = .ok (.aload_n 0, 1) := by decide +kernel
theorem dX2_told_49 : decode cX2_told 49 = .ok (.getfield 154, 3) := by decide +kernel
theorem dX2_told_52 : decode cX2_told 52 = .ok (.ireturn, 1) := by decide +kernel
theorem dX2_told_53 : decode cX2_told 53 = .ok (.aload_n 0, 1) := by decide +kernel
theorem dX2_told_54 : decode cX2_told 54 = .ok (.getfield 157, 3) := by decide +kernel
theorem dX2_told_57 : decode cX2_told 57 = .ok (.ireturn, 1) := by decide +kernel
theorem dX2_told_58 : decode cX2_told 58 = .ok (.aload_n 0, 1) := by decide +kernel
theorem dX2_told_59 : decode cX2_told 59 = .ok (.getfield 115, 3) := by decide +kernel
theorem dX2_told_62 : decode cX2_told 62 = .ok (.ireturn, 1) := by decide +kernel
theorem dX2_told_63 : decode cX2_told 63 = .ok (.bipush (-2), 2) := by decide +kernel
theorem dX2_told_65 : decode cX2_told 65 = .ok (.ireturn, 1) := by decide +kernel
theorem dX2_isFrame_0 : decode cX2_isFrame 0 = .ok (.iload_n 0, 1) := by decide +kernel
theorem dX2_isFrame_1 : decode cX2_isFrame 1 = .ok (.ifCond .lt 14, 3) := by decide +kernel
theorem dX2_isFrame_4 : decode cX2_isFrame 4 = .ok (.iload_n 0, 1) := by decide +kernel
theorem dX2_isFrame_5 : decode cX2_isFrame 5 = .ok (.sipush 128, 3) := by decide +kernel
theorem dX2_isFrame_8 : decode cX2_isFrame 8 = .ok (.if_icmp .ge 7, 3) := by decide +kernel
theorem dX2_isFrame_11 : decode cX2_isFrame 11 = .ok (.iconst 1, 1) := by decide +kernel
theorem dX2_isFrame_12 : decode cX2_isFrame 12 = .ok (.goto 4, 3) := by decide +kernel
theorem dX2_isFrame_15 : decode cX2_isFrame 15 = .ok (.iconst 0, 1) := by decide +kernel
theorem dX2_isFrame_16 : decode cX2_isFrame 16 = .ok (.ireturn, 1) := by decide +kernel
theorem dX2_isOrder_0 : decode cX2_isOrder 0 = .ok (.iload_n 0, 1) := by decide +kernel
theorem dX2_isOrder_1 : decode cX2_isOrder 1 = .ok (.ifCond .lt 13, 3) := by decide +kernel
theorem dX2_isOrder_4 : decode cX2_isOrder 4 = .ok (.iload_n 0, 1) := by decide +kernel
theorem dX2_isOrder_5 : decode cX2_isOrder 5 = .ok (.bipush 7, 2) := by decide +kernel
theorem dX2_isOrder_7 : decode cX2_isOrder 7 = .ok (.if_icmp .gt 7, 3) := by decide +kernel
theorem dX2_isOrder_10 : decode cX2_isOrder 10 = .ok (.iconst 1, 1) := by decide +kernel
theorem dX2_isOrder_11 : decode cX2_isOrder 11 = .ok (.goto 4, 3) := by decide +kernel
theorem dX2_isOrder_14 : decode cX2_isOrder 14 = .ok (.iconst 0, 1) := by decide +kernel
theorem dX2_isOrder_15 : decode cX2_isOrder 15 = .ok (.ireturn, 1) := by decide +kernel
theorem dX2_isNumber_0 : decode cX2_isNumber 0 = .ok (.iload_n 0, 1) := by decide +kernel
theorem dX2_isNumber_1 : decode cX2_isNumber 1 = .ok (.ifCond .lt 13, 3) := by decide +kernel
theorem dX2_isNumber_4 : decode cX2_isNumber 4 = .ok (.iload_n 0, 1) := by decide +kernel
theorem dX2_isNumber_5 : decode cX2_isNumber 5 = .ok (.bipush 16, 2) := by decide +kernel
theorem dX2_isNumber_7 : decode cX2_isNumber 7 = .ok (.if_icmp .ge 7, 3) := by decide +kernel
theorem dX2_isNumber_10 : decode cX2_isNumber 10 = .ok (.iconst 1, 1) := by decide +kernel
theorem dX2_isNumber_11 : decode cX2_isNumber 11 = .ok (.goto 4, 3) := by decide +kernel
theorem dX2_isNumber_14 : decode cX2_isNumber 14 = .ok (.iconst 0, 1) := by decide +kernel
theorem dX2_isNumber_15 : decode cX2_isNumber 15 = .ok (.ireturn, 1) := by decide +kernel
theorem dX2_isLive_0 : decode cX2_isLive 0 = .ok (.iload_n 1, 1) := by decide +kernel
theorem dX2_isLive_1 : decode cX2_isLive 1 = .ok (.invokestatic 145, 3) := by decide +kernel
theorem dX2_isLive_4 : decode cX2_isLive 4 = .ok (.ifCond .eq 17, 3) := by decide +kernel
theorem dX2_isLive_7 : decode cX2_isLive 7 = .ok (.aload_n 0, 1) := by decide +kernel
theorem dX2_isLive_8 : decode cX2_isLive 8 = .ok (.getfield 38, 3) := by decide +kernel
theorem dX2_isLive_11 : decode cX2_isLive 11 = .ok (.iload_n 1, 1) := by decide +kernel
theorem dX2_isLive_12 : decode cX2_isLive 12 = .ok (.iaload, 1) := by decide +kernel
theorem dX2_isLive_13 : decode cX2_isLive 13 = .ok (.iconst 1, 1) := by decide +kernel
theorem dX2_isLive_14 : decode cX2_isLive 14 = .ok (.if_icmp .ne 7, 3) := by decide +kernel
theorem dX2_isLive_17 : decode cX2_isLive 17 = .ok (.iconst 1, 1) := by decide +kernel
theorem dX2_isLive_18 : decode cX2_isLive 18 = .ok (.goto 4, 3) := by decide +kernel
theorem dX2_isLive_21 : decode cX2_isLive 21 = .ok (.iconst 0, 1) := by decide +kernel
theorem dX2_isLive_22 : decode cX2_isLive 22 = .ok (.ireturn, 1) := by decide +kernel
theorem dX2_hasPage_0 : decode cX2_hasPage 0 = .ok (.aload_n 0, 1) := by decide +kernel
theorem dX2_hasPage_1 : decode cX2_hasPage 1 = .ok (.iload_n 1, 1) := by decide +kernel
theorem dX2_hasPage_2 : decode cX2_hasPage 2 = .ok (.invokevirtual 60, 3) := by decide +kernel
theorem dX2_hasPage_5 : decode cX2_hasPage 5 = .ok (.ifCond .eq 21, 3) := by decide +kernel
theorem dX2_hasPage_8 : decode cX2_hasPage 8 = .ok (.iload_n 2, 1) := by decide +kernel
theorem dX2_hasPage_9 : decode cX2_hasPage 9 = .ok (.ifCond .lt 17, 3) := by decide +kernel
theorem dX2_hasPage_12 : decode cX2_hasPage 12 = .ok (.iload_n 2, 1) := by decide +kernel
theorem dX2_hasPage_13 : decode cX2_hasPage 13 = .ok (.aload_n 0, 1) := by decide +kernel
theorem dX2_hasPage_14 : decode cX2_hasPage 14 = .ok (.getfield 47, 3) := by decide +kernel
theorem dX2_hasPage_17 : decode cX2_hasPage 17 = .ok (.iload_n 1, 1) := by decide +kernel
theorem dX2_hasPage_18 : decode cX2_hasPage 18 = .ok (.iaload, 1) := by decide +kernel
theorem dX2_hasPage_19 : decode cX2_hasPage 19 = .ok (.if_icmp .ge 7, 3) := by decide +kernel
theorem dX2_hasPage_22 : decode cX2_hasPage 22 = .ok (.iconst 1, 1) := by decide +kernel
theorem dX2_hasPage_23 : decode cX2_hasPage 23 = .ok (.goto 4, 3) := by decide +kernel
theorem dX2_hasPage_26 : decode cX2_hasPage 26 = .ok (.iconst 0, 1) := by decide +kernel
theorem dX2_hasPage_27 : decode cX2_hasPage 27 = .ok (.ireturn, 1) := by decide +kernel
theorem dX2_refuse_0 : decode cX2_refuse 0 = .ok (.aload_n 0, 1) := by decide +kernel
theorem dX2_refuse_1 : decode cX2_refuse 1 = .ok (.dup, 1) := by decide +kernel
theorem dX2_refuse_2 : decode cX2_refuse 2 = .ok (.getfield 157, 3) := by decide +kernel
theorem dX2_refuse_5 : decode cX2_refuse 5 = .ok (.iconst 1, 1) := by decide +kernel
theorem dX2_refuse_6 : decode cX2_refuse 6 = .ok (.iadd, 1) := by decide +kernel
theorem dX2_refuse_7 : decode cX2_refuse 7 = .ok (.putfield 157, 3) := by decide +kernel
theorem dX2_refuse_10 : decode cX2_refuse 10 = .ok (.bipush (-3), 2) := by decide +kernel
theorem dX2_refuse_12 : decode cX2_refuse 12 = .ok (.ireturn, 1) := by decide +kernel
theorem dX2_makeProcess_0 : decode cX2_makeProcess 0 = .ok (.aload_n 0, 1) := by decide +kernel
theorem dX2_makeProcess_1 : decode cX2_makeProcess 1 = .ok (.invokevirtual 160, 3) := by decide +kernel
theorem dX2_makeProcess_4 : decode cX2_makeProcess 4 = .ok (.istore_n 2, 1) := by decide +kernel
theorem dX2_makeProcess_5 : decode cX2_makeProcess 5 = .ok (.iload_n 2, 1) := by decide +kernel
theorem dX2_makeProcess_6 : decode cX2_makeProcess 6 = .ok (.invokestatic 145, 3) := by decide +kernel
theorem dX2_makeProcess_9 : decode cX2_makeProcess 9 = .ok (.ifCond .ne 6, 3) := by decide +kernel
theorem dX2_makeProcess_12 : decode cX2_makeProcess 12 = .ok (.bipush (-4), 2) := by decide +kernel
theorem dX2_makeProcess_14 : decode cX2_makeProcess 14 = .ok (.ireturn, 1) := by decide +kernel
theorem dX2_makeProcess_15 : decode cX2_makeProcess 15 = .ok (.aload_n 0, 1) := by decide +kernel
theorem dX2_makeProcess_16 : decode cX2_makeProcess 16 = .ok (.getfield 21, 3) := by decide +kernel
theorem dX2_makeProcess_19 : decode cX2_makeProcess 19 = .ok (.invokevirtual 163, 3) := by decide +kernel
theorem dX2_makeProcess_22 : decode cX2_makeProcess 22 = .ok (.istore_n 3, 1) := by decide +kernel
theorem dX2_makeProcess_23 : decode cX2_makeProcess 23 = .ok (.iload_n 3, 1) := by decide +kernel
theorem dX2_makeProcess_24 : decode cX2_makeProcess 24 = .ok (.iconst (-1), 1) := by decide +kernel
theorem dX2_makeProcess_25 : decode cX2_makeProcess 25 = .ok (.if_icmp .ne 8, 3) := by decide +kernel
theorem dX2_makeProcess_28 : decode cX2_makeProcess 28 = .ok (.aload_n 0, 1) := by decide +kernel
theorem dX2_makeProcess_29 : decode cX2_makeProcess 29 = .ok (.invokevirtual 72, 3) := by decide +kernel
theorem dX2_makeProcess_32 : decode cX2_makeProcess 32 = .ok (.ireturn, 1) := by decide +kernel
theorem dX2_makeProcess_33 : decode cX2_makeProcess 33 = .ok (.aload_n 0, 1) := by decide +kernel
theorem dX2_makeProcess_34 : decode cX2_makeProcess 34 = .ok (.getfield 50, 3) := by decide +kernel
theorem dX2_makeProcess_37 : decode cX2_makeProcess 37 = .ok (.iload_n 2, 1) := by decide +kernel
theorem dX2_makeProcess_38 : decode cX2_makeProcess 38 = .ok (.iload_n 3, 1) := by decide +kernel
theorem dX2_makeProcess_39 : decode cX2_makeProcess 39 = .ok (.iastore, 1) := by decide +kernel
theorem dX2_makeProcess_40 : decode cX2_makeProcess 40 = .ok (.aload_n 0, 1) := by decide +kernel
theorem dX2_makeProcess_41 : decode cX2_makeProcess 41 = .ok (.iload_n 1, 1) := by decide +kernel
theorem dX2_makeProcess_42 : decode cX2_makeProcess 42 = .ok (.invokevirtual 60, 3) := by decide +kernel
theorem dX2_makeProcess_45 : decode cX2_makeProcess 45 = .ok (.ifCond .eq 36, 3) := by decide +kernel
theorem dX2_makeProcess_48 : decode cX2_makeProcess 48 = .ok (.aload_n 0, 1) := by decide +kernel
theorem dX2_makeProcess_49 : decode cX2_makeProcess 49 = .ok (.iload_n 2, 1) := by decide +kernel
theorem dX2_makeProcess_50 : decode cX2_makeProcess 50 = .ok (.aload_n 0, 1) := by decide +kernel
theorem dX2_makeProcess_51 : decode cX2_makeProcess 51 = .ok (.getfield 47, 3) := by decide +kernel
theorem dX2_makeProcess_54 : decode cX2_makeProcess 54 = .ok (.iload_n 1, 1) := by decide +kernel
theorem dX2_makeProcess_55 : decode cX2_makeProcess 55 = .ok (.iaload, 1) := by decide +kernel
theorem dX2_makeProcess_56 : decode cX2_makeProcess 56 = .ok (.invokevirtual 166, 3) := by decide +kernel
theorem dX2_makeProcess_59 : decode cX2_makeProcess 59 = .ok (.ifCond .ne 16, 3) := by decide +kernel
theorem dX2_makeProcess_62 : decode cX2_makeProcess 62 = .ok (.aload_n 0, 1) := by decide +kernel
theorem dX2_makeProcess_63 : decode cX2_makeProcess 63 = .ok (.getfield 21, 3) := by decide +kernel
theorem dX2_makeProcess_66 : decode cX2_makeProcess 66 = .ok (.iload_n 3, 1) := by decide +kernel
theorem dX2_makeProcess_67 : decode cX2_makeProcess 67 = .ok (.invokevirtual 169, 3) := by decide +kernel
theorem dX2_makeProcess_70 : decode cX2_makeProcess 70 = .ok (.aload_n 0, 1) := by decide +kernel
theorem dX2_makeProcess_71 : decode cX2_makeProcess 71 = .ok (.invokevirtual 72, 3) := by decide +kernel
theorem dX2_makeProcess_74 : decode cX2_makeProcess 74 = .ok (.ireturn, 1) := by decide +kernel
theorem dX2_makeProcess_75 : decode cX2_makeProcess 75 = .ok (.aload_n 0, 1) := by decide +kernel
theorem dX2_makeProcess_76 : decode cX2_makeProcess 76 = .ok (.iload_n 1, 1) := by decide +kernel
theorem dX2_makeProcess_77 : decode cX2_makeProcess 77 = .ok (.iload_n 2, 1) := by decide +kernel
theorem dX2_makeProcess_78 : decode cX2_makeProcess 78 = .ok (.invokevirtual 172, 3) := by decide +kernel
theorem dX2_makeProcess_81 : decode cX2_makeProcess 81 = .ok (.aload_n 0, 1) := by decide +kernel
theorem dX2_makeProcess_82 : decode cX2_makeProcess 82 = .ok (.getfield 38, 3) := by decide +kernel
theorem dX2_makeProcess_85 : decode cX2_makeProcess 85 = .ok (.iload_n 2, 1) := by decide +kernel
theorem dX2_makeProcess_86 : decode cX2_makeProcess 86 = .ok (.iconst 1, 1) := by decide +kernel
theorem dX2_makeProcess_87 : decode cX2_makeProcess 87 = .ok (.iastore, 1) := by decide +kernel
theorem dX2_makeProcess_88 : decode cX2_makeProcess 88 = .ok (.aload_n 0, 1) := by decide +kernel
theorem dX2_makeProcess_89 : decode cX2_makeProcess 89 = .ok (.getfield 41, 3) := by decide +kernel
theorem dX2_makeProcess_92 : decode cX2_makeProcess 92 = .ok (.iload_n 2, 1) := by decide +kernel
theorem dX2_makeProcess_93 : decode cX2_makeProcess 93 = .ok (.iload_n 1, 1) := by decide +kernel
theorem dX2_makeProcess_94 : decode cX2_makeProcess 94 = .ok (.iastore, 1) := by decide +kernel
theorem dX2_makeProcess_95 : decode cX2_makeProcess 95 = .ok (.aload_n 0, 1) := by decide +kernel
theorem dX2_makeProcess_96 : decode cX2_makeProcess 96 = .ok (.iload_n 2, 1) := by decide +kernel
theorem dX2_makeProcess_97 : decode cX2_makeProcess 97 = .ok (.invokevirtual 112, 3) := by decide +kernel
theorem dX2_makeProcess_100 : decode cX2_makeProcess 100 = .ok (.iload_n 2, 1) := by decide +kernel
theorem dX2_makeProcess_101 : decode cX2_makeProcess 101 = .ok (.ireturn, 1) := by decide +kernel
theorem dX2_removeProcess_0 : decode cX2_removeProcess 0 = .ok (.aload_n 0, 1) := by decide +kernel
theorem dX2_removeProcess_1 : decode cX2_removeProcess 1 = .ok (.getfield 21, 3) := by decide +kernel
theorem dX2_removeProcess_4 : decode cX2_removeProcess 4 = .ok (.aload_n 0, 1) := by decide +kernel
theorem dX2_removeProcess_5 : decode cX2_removeProcess 5 = .ok (.getfield 50, 3) := by decide +kernel
theorem dX2_removeProcess_8 : decode cX2_removeProcess 8 = .ok (.iload_n 1, 1) := by decide +kernel
theorem dX2_removeProcess_9 : decode cX2_removeProcess 9 = .ok (.iaload, 1) := by decide +kernel
theorem dX2_removeProcess_10 : decode cX2_removeProcess 10 = .ok (.invokevirtual 169, 3) := by decide +kernel
theorem dX2_removeProcess_13 : decode cX2_removeProcess 13 = .ok (.aload_n 0, 1) := by decide +kernel
theorem dX2_removeProcess_14 : decode cX2_removeProcess 14 = .ok (.getfield 38, 3) := by decide +kernel
theorem dX2_removeProcess_17 : decode cX2_removeProcess 17 = .ok (.iload_n 1, 1) := by decide +kernel
theorem dX2_removeProcess_18 : decode cX2_removeProcess 18 = .ok (.iconst 0, 1) := by decide +kernel
theorem dX2_removeProcess_19 : decode cX2_removeProcess 19 = .ok (.iastore, 1) := by decide +kernel
theorem dX2_removeProcess_20 : decode cX2_removeProcess 20 = .ok (.aload_n 0, 1) := by decide +kernel
theorem dX2_removeProcess_21 : decode cX2_removeProcess 21 = .ok (.getfield 41, 3) := by decide +kernel
theorem dX2_removeProcess_24 : decode cX2_removeProcess 24 = .ok (.iload_n 1, 1) := by decide +kernel
theorem dX2_removeProcess_25 : decode cX2_removeProcess 25 = .ok (.iconst (-1), 1) := by decide +kernel
theorem dX2_removeProcess_26 : decode cX2_removeProcess 26 = .ok (.iastore, 1) := by decide +kernel
theorem dX2_removeProcess_27 : decode cX2_removeProcess 27 = .ok (.return_, 1) := by decide +kernel
theorem dX2_leastUnused_0 : decode cX2_leastUnused 0 = .ok (.iconst 0, 1) := by decide +kernel
theorem dX2_leastUnused_1 : decode cX2_leastUnused 1 = .ok (.istore_n 1, 1) := by decide +kernel
theorem dX2_leastUnused_2 : decode cX2_leastUnused 2 = .ok (.iload_n 1, 1) := by decide +kernel
theorem dX2_leastUnused_3 : decode cX2_leastUnused 3 = .ok (.bipush 16, 2) := by decide +kernel
theorem dX2_leastUnused_5 : decode cX2_leastUnused 5 = .ok (.if_icmp .ge 20, 3) := by decide +kernel
theorem dX2_leastUnused_8 : decode cX2_leastUnused 8 = .ok (.aload_n 0, 1) := by decide +kernel
theorem dX2_leastUnused_9 : decode cX2_leastUnused 9 = .ok (.getfield 38, 3) := by decide +kernel
theorem dX2_leastUnused_12 : decode cX2_leastUnused 12 = .ok (.iload_n 1, 1) := by decide +kernel
theorem dX2_leastUnused_13 : decode cX2_leastUnused 13 = .ok (.iaload, 1) := by decide +kernel
theorem dX2_leastUnused_14 : decode cX2_leastUnused 14 = .ok (.ifCond .ne 5, 3) := by decide +kernel
theorem dX2_leastUnused_17 : decode cX2_leastUnused 17 = .ok (.iload_n 1, 1) := by decide +kernel
theorem dX2_leastUnused_18 : decode cX2_leastUnused 18 = .ok (.ireturn, 1) := by decide +kernel
theorem dX2_leastUnused_19 : decode cX2_leastUnused 19 = .ok (.iinc 1 1, 3) := by decide +kernel
theorem dX2_leastUnused_22 : decode cX2_leastUnused 22 = .ok (.goto (-20), 3) := by decide +kernel
theorem dX2_leastUnused_25 : decode cX2_leastUnused 25 = .ok (.iconst (-1), 1) := by decide +kernel
theorem dX2_leastUnused_26 : decode cX2_leastUnused 26 = .ok (.ireturn, 1) := by decide +kernel
theorem dX2_countInState_0 : decode cX2_countInState 0 = .ok (.iconst 0, 1) := by decide +kernel
theorem dX2_countInState_1 : decode cX2_countInState 1 = .ok (.istore_n 2, 1) := by decide +kernel
theorem dX2_countInState_2 : decode cX2_countInState 2 = .ok (.iconst 0, 1) := by decide +kernel
theorem dX2_countInState_3 : decode cX2_countInState 3 = .ok (.istore_n 3, 1) := by decide +kernel
theorem dX2_countInState_4 : decode cX2_countInState 4 = .ok (.iload_n 3, 1) := by decide +kernel
theorem dX2_countInState_5 : decode cX2_countInState 5 = .ok (.bipush 16, 2) := by decide +kernel
theorem dX2_countInState_7 : decode cX2_countInState 7 = .ok (.if_icmp .ge 22, 3) := by decide +kernel
theorem dX2_countInState_10 : decode cX2_countInState 10 = .ok (.aload_n 0, 1) := by decide +kernel
theorem dX2_countInState_11 : decode cX2_countInState 11 = .ok (.getfield 38, 3) := by decide +kernel
theorem dX2_countInState_14 : decode cX2_countInState 14 = .ok (.iload_n 3, 1) := by decide +kernel
theorem dX2_countInState_15 : decode cX2_countInState 15 = .ok (.iaload, 1) := by decide +kernel
theorem dX2_countInState_16 : decode cX2_countInState 16 = .ok (.iload_n 1, 1) := by decide +kernel
theorem dX2_countInState_17 : decode cX2_countInState 17 = .ok (.if_icmp .ne 6, 3) := by decide +kernel
theorem dX2_countInState_20 : decode cX2_countInState 20 = .ok (.iinc 2 1, 3) := by decide +kernel
theorem dX2_countInState_23 : decode cX2_countInState 23 = .ok (.iinc 3 1, 3) := by decide +kernel
theorem dX2_countInState_26 : decode cX2_countInState 26 = .ok (.goto (-22), 3) := by decide +kernel
theorem dX2_countInState_29 : decode cX2_countInState 29 = .ok (.iload_n 2, 1) := by decide +kernel
theorem dX2_countInState_30 : decode cX2_countInState 30 = .ok (.ireturn, 1) := by decide +kernel
theorem dX2_childrenOf_0 : decode cX2_childrenOf 0 = .ok (.iconst 0, 1) := by decide +kernel
theorem dX2_childrenOf_1 : decode cX2_childrenOf 1 = .ok (.istore_n 2, 1) := by decide +kernel
theorem dX2_childrenOf_2 : decode cX2_childrenOf 2 = .ok (.iconst 0, 1) := by decide +kernel
theorem dX2_childrenOf_3 : decode cX2_childrenOf 3 = .ok (.istore_n 3, 1) := by decide +kernel
theorem dX2_childrenOf_4 : decode cX2_childrenOf 4 = .ok (.iload_n 3, 1) := by decide +kernel
theorem dX2_childrenOf_5 : decode cX2_childrenOf 5 = .ok (.bipush 16, 2) := by decide +kernel
theorem dX2_childrenOf_7 : decode cX2_childrenOf 7 = .ok (.if_icmp .ge 22, 3) := by decide +kernel
theorem dX2_childrenOf_10 : decode cX2_childrenOf 10 = .ok (.aload_n 0, 1) := by decide +kernel
theorem dX2_childrenOf_11 : decode cX2_childrenOf 11 = .ok (.getfield 41, 3) := by decide +kernel
theorem dX2_childrenOf_14 : decode cX2_childrenOf 14 = .ok (.iload_n 3, 1) := by decide +kernel
theorem dX2_childrenOf_15 : decode cX2_childrenOf 15 = .ok (.iaload, 1) := by decide +kernel
theorem dX2_childrenOf_16 : decode cX2_childrenOf 16 = .ok (.iload_n 1, 1) := by decide +kernel
theorem dX2_childrenOf_17 : decode cX2_childrenOf 17 = .ok (.if_icmp .ne 6, 3) := by decide +kernel
theorem dX2_childrenOf_20 : decode cX2_childrenOf 20 = .ok (.iinc 2 1, 3) := by decide +kernel
theorem dX2_childrenOf_23 : decode cX2_childrenOf 23 = .ok (.iinc 3 1, 3) := by decide +kernel
theorem dX2_childrenOf_26 : decode cX2_childrenOf 26 = .ok (.goto (-22), 3) := by decide +kernel
theorem dX2_childrenOf_29 : decode cX2_childrenOf 29 = .ok (.iload_n 2, 1) := by decide +kernel
theorem dX2_childrenOf_30 : decode cX2_childrenOf 30 = .ok (.ireturn, 1) := by decide +kernel
theorem dX2_leaveChildren_0 : decode cX2_leaveChildren 0 = .ok (.iconst 0, 1) := by decide +kernel
theorem dX2_leaveChildren_1 : decode cX2_leaveChildren 1 = .ok (.istore_n 2, 1) := by decide +kernel
theorem dX2_leaveChildren_2 : decode cX2_leaveChildren 2 = .ok (.iload_n 2, 1) := by decide +kernel
theorem dX2_leaveChildren_3 : decode cX2_leaveChildren 3 = .ok (.bipush 16, 2) := by decide +kernel
theorem dX2_leaveChildren_5 : decode cX2_leaveChildren 5 = .ok (.if_icmp .ge 44, 3) := by decide +kernel
theorem dX2_leaveChildren_8 : decode cX2_leaveChildren 8 = .ok (.aload_n 0, 1) := by decide +kernel
theorem dX2_leaveChildren_9 : decode cX2_leaveChildren 9 = .ok (.getfield 41, 3) := by decide +kernel
theorem dX2_leaveChildren_12 : decode cX2_leaveChildren 12 = .ok (.iload_n 2, 1) := by decide +kernel
theorem dX2_leaveChildren_13 : decode cX2_leaveChildren 13 = .ok (.iaload, 1) := by decide +kernel
theorem dX2_leaveChildren_14 : decode cX2_leaveChildren 14 = .ok (.iload_n 1, 1) := by decide +kernel
theorem dX2_leaveChildren_15 : decode cX2_leaveChildren 15 = .ok (.if_icmp .ne 28, 3) := by decide +kernel
theorem dX2_leaveChildren_18 : decode cX2_leaveChildren 18 = .ok (.aload_n 0, 1) := by decide +kernel
theorem dX2_leaveChildren_19 : decode cX2_leaveChildren 19 = .ok (.getfield 38, 3) := by decide +kernel
theorem dX2_leaveChildren_22 : decode cX2_leaveChildren 22 = .ok (.iload_n 2, 1) := by decide +kernel
theorem dX2_leaveChildren_23 : decode cX2_leaveChildren 23 = .ok (.iaload, 1) := by decide +kernel
theorem dX2_leaveChildren_24 : decode cX2_leaveChildren 24 = .ok (.iconst 2, 1) := by decide +kernel
theorem dX2_leaveChildren_25 : decode cX2_leaveChildren 25 = .ok (.if_icmp .ne 11, 3) := by decide +kernel
theorem dX2_leaveChildren_28 : decode cX2_leaveChildren 28 = .ok (.aload_n 0, 1) := by decide +kernel
theorem dX2_leaveChildren_29 : decode cX2_leaveChildren 29 = .ok (.iload_n 2, 1) := by decide +kernel
theorem dX2_leaveChildren_30 : decode cX2_leaveChildren 30 = .ok (.invokevirtual 102, 3) := by decide +kernel
theorem dX2_leaveChildren_33 : decode cX2_leaveChildren 33 = .ok (.goto 10, 3) := by decide +kernel
theorem dX2_leaveChildren_36 : decode cX2_leaveChildren 36 = .ok (.aload_n 0, 1) := by decide +kernel
theorem dX2_leaveChildren_37 : decode cX2_leaveChildren 37 = .ok (.getfield 41, 3) := by decide +kernel
theorem dX2_leaveChildren_40 : decode cX2_leaveChildren 40 = .ok (.iload_n 2, 1) := by decide +kernel
theorem dX2_leaveChildren_41 : decode cX2_leaveChildren 41 = .ok (.iconst (-1), 1) := by decide +kernel
theorem dX2_leaveChildren_42 : decode cX2_leaveChildren 42 = .ok (.iastore, 1) := by decide +kernel
theorem dX2_leaveChildren_43 : decode cX2_leaveChildren 43 = .ok (.iinc 2 1, 3) := by decide +kernel
theorem dX2_leaveChildren_46 : decode cX2_leaveChildren 46 = .ok (.goto (-44), 3) := by decide +kernel
theorem dX2_leaveChildren_49 : decode cX2_leaveChildren 49 = .ok (.return_, 1) := by decide +kernel
theorem dX2_joinRow_0 : decode cX2_joinRow 0 = .ok (.aload_n 0, 1) := by decide +kernel
theorem dX2_joinRow_1 : decode cX2_joinRow 1 = .ok (.getfield 108, 3) := by decide +kernel
theorem dX2_joinRow_4 : decode cX2_joinRow 4 = .ok (.bipush 16, 2) := by decide +kernel
theorem dX2_joinRow_6 : decode cX2_joinRow 6 = .ok (.if_icmp .ge 23, 3) := by decide +kernel
theorem dX2_joinRow_9 : decode cX2_joinRow 9 = .ok (.aload_n 0, 1) := by decide +kernel
theorem dX2_joinRow_10 : decode cX2_joinRow 10 = .ok (.getfield 53, 3) := by decide +kernel
theorem dX2_joinRow_13 : decode cX2_joinRow 13 = .ok (.aload_n 0, 1) := by decide +kernel
theorem dX2_joinRow_14 : decode cX2_joinRow 14 = .ok (.getfield 108, 3) := by decide +kernel
theorem dX2_joinRow_17 : decode cX2_joinRow 17 = .ok (.iload_n 1, 1) := by decide +kernel
theorem dX2_joinRow_18 : decode cX2_joinRow 18 = .ok (.iastore, 1) := by decide +kernel
theorem dX2_joinRow_19 : decode cX2_joinRow 19 = .ok (.aload_n 0, 1) := by decide +kernel
theorem dX2_joinRow_20 : decode cX2_joinRow 20 = .ok (.dup, 1) := by decide +kernel
theorem dX2_joinRow_21 : decode cX2_joinRow 21 = .ok (.getfield 108, 3) := by decide +kernel
theorem dX2_joinRow_24 : decode cX2_joinRow 24 = .ok (.iconst 1, 1) := by decide +kernel
theorem dX2_joinRow_25 : decode cX2_joinRow 25 = .ok (.iadd, 1) := by decide +kernel
theorem dX2_joinRow_26 : decode cX2_joinRow 26 = .ok (.putfield 108, 3) := by decide +kernel
theorem dX2_joinRow_29 : decode cX2_joinRow 29 = .ok (.return_, 1) := by decide +kernel
theorem dX2_leaveRow_0 : decode cX2_leaveRow 0 = .ok (.iconst 0, 1) := by decide +kernel
theorem dX2_leaveRow_1 : decode cX2_leaveRow 1 = .ok (.istore_n 2, 1) := by decide +kernel
theorem dX2_leaveRow_2 : decode cX2_leaveRow 2 = .ok (.iconst 0, 1) := by decide +kernel
theorem dX2_leaveRow_3 : decode cX2_leaveRow 3 = .ok (.istore_n 3, 1) := by decide +kernel
theorem dX2_leaveRow_4 : decode cX2_leaveRow 4 = .ok (.iload_n 3, 1) := by decide +kernel
theorem dX2_leaveRow_5 : decode cX2_leaveRow 5 = .ok (.aload_n 0, 1) := by decide +kernel
theorem dX2_leaveRow_6 : decode cX2_leaveRow 6 = .ok (.getfield 108, 3) := by decide +kernel
theorem dX2_leaveRow_9 : decode cX2_leaveRow 9 = .ok (.if_icmp .ge 34, 3) := by decide +kernel
theorem dX2_leaveRow_12 : decode cX2_leaveRow 12 = .ok (.aload_n 0, 1) := by decide +kernel
theorem dX2_leaveRow_13 : decode cX2_leaveRow 13 = .ok (.getfield 53, 3) := by decide +kernel
theorem dX2_leaveRow_16 : decode cX2_leaveRow 16 = .ok (.iload_n 3, 1) := by decide +kernel
theorem dX2_leaveRow_17 : decode cX2_leaveRow 17 = .ok (.iaload, 1) := by decide +kernel
theorem dX2_leaveRow_18 : decode cX2_leaveRow 18 = .ok (.iload_n 1, 1) := by decide +kernel
theorem dX2_leaveRow_19 : decode cX2_leaveRow 19 = .ok (.if_icmp .eq 18, 3) := by decide +kernel
theorem dX2_leaveRow_22 : decode cX2_leaveRow 22 = .ok (.aload_n 0, 1) := by decide +kernel
theorem dX2_leaveRow_23 : decode cX2_leaveRow 23 = .ok (.getfield 53, 3) := by decide +kernel
theorem dX2_leaveRow_26 : decode cX2_leaveRow 26 = .ok (.iload_n 2, 1) := by decide +kernel
theorem dX2_leaveRow_27 : decode cX2_leaveRow 27 = .ok (.aload_n 0, 1) := by decide +kernel
theorem dX2_leaveRow_28 : decode cX2_leaveRow 28 = .ok (.getfield 53, 3) := by decide +kernel
theorem dX2_leaveRow_31 : decode cX2_leaveRow 31 = .ok (.iload_n 3, 1) := by decide +kernel
theorem dX2_leaveRow_32 : decode cX2_leaveRow 32 = .ok (.iaload, 1) := by decide +kernel
theorem dX2_leaveRow_33 : decode cX2_leaveRow 33 = .ok (.iastore, 1) := by decide +kernel
theorem dX2_leaveRow_34 : decode cX2_leaveRow 34 = .ok (.iinc 2 1, 3) := by decide +kernel
theorem dX2_leaveRow_37 : decode cX2_leaveRow 37 = .ok (.iinc 3 1, 3) := by decide +kernel
theorem dX2_leaveRow_40 : decode cX2_leaveRow 40 = .ok (.goto (-36), 3) := by decide +kernel
theorem dX2_leaveRow_43 : decode cX2_leaveRow 43 = .ok (.aload_n 0, 1) := by decide +kernel
theorem dX2_leaveRow_44 : decode cX2_leaveRow 44 = .ok (.iload_n 2, 1) := by decide +kernel
theorem dX2_leaveRow_45 : decode cX2_leaveRow 45 = .ok (.putfield 108, 3) := by decide +kernel
theorem dX2_leaveRow_48 : decode cX2_leaveRow 48 = .ok (.return_, 1) := by decide +kernel
theorem dX2_placeInRow_0 : decode cX2_placeInRow 0 = .ok (.iconst 0, 1) := by decide +kernel
theorem dX2_placeInRow_1 : decode cX2_placeInRow 1 = .ok (.istore_n 2, 1) := by decide +kernel
theorem dX2_placeInRow_2 : decode cX2_placeInRow 2 = .ok (.iload_n 2, 1) := by decide +kernel
theorem dX2_placeInRow_3 : decode cX2_placeInRow 3 = .ok (.aload_n 0, 1) := by decide +kernel
theorem dX2_placeInRow_4 : decode cX2_placeInRow 4 = .ok (.getfield 108, 3) := by decide +kernel
theorem dX2_placeInRow_7 : decode cX2_placeInRow 7 = .ok (.if_icmp .ge 21, 3) := by decide +kernel
theorem dX2_placeInRow_10 : decode cX2_placeInRow 10 = .ok (.aload_n 0, 1) := by decide +kernel
theorem dX2_placeInRow_11 : decode cX2_placeInRow 11 = .ok (.getfield 53, 3) := by decide +kernel
theorem dX2_placeInRow_14 : decode cX2_placeInRow 14 = .ok (.iload_n 2, 1) := by decide +kernel
theorem dX2_placeInRow_15 : decode cX2_placeInRow 15 = .ok (.iaload, 1) := by decide +kernel
theorem dX2_placeInRow_16 : decode cX2_placeInRow 16 = .ok (.iload_n 1, 1) := by decide +kernel
theorem dX2_placeInRow_17 : decode cX2_placeInRow 17 = .ok (.if_icmp .ne 5, 3) := by decide +kernel
theorem dX2_placeInRow_20 : decode cX2_placeInRow 20 = .ok (.iload_n 2, 1) := by decide +kernel
theorem dX2_placeInRow_21 : decode cX2_placeInRow 21 = .ok (.ireturn, 1) := by decide +kernel
theorem dX2_placeInRow_22 : decode cX2_placeInRow 22 = .ok (.iinc 2 1, 3) := by decide +kernel
theorem dX2_placeInRow_25 : decode cX2_placeInRow 25 = .ok (.goto (-23), 3) := by decide +kernel
theorem dX2_placeInRow_28 : decode cX2_placeInRow 28 = .ok (.iconst (-1), 1) := by decide +kernel
theorem dX2_placeInRow_29 : decode cX2_placeInRow 29 = .ok (.ireturn, 1) := by decide +kernel
theorem dX2_takeTables_0 : decode cX2_takeTables 0 = .ok (.iconst 0, 1) := by decide +kernel
theorem dX2_takeTables_1 : decode cX2_takeTables 1 = .ok (.istore_n 3, 1) := by decide +kernel
theorem dX2_takeTables_2 : decode cX2_takeTables 2 = .ok (.iload_n 3, 1) := by decide +kernel
theorem dX2_takeTables_3 : decode cX2_takeTables 3 = .ok (.iload_n 2, 1) := by decide +kernel
theorem dX2_takeTables_4 : decode cX2_takeTables 4 = .ok (.if_icmp .ge 44, 3) := by decide +kernel
theorem dX2_takeTables_7 : decode cX2_takeTables 7 = .ok (.aload_n 0, 1) := by decide +kernel
theorem dX2_takeTables_8 : decode cX2_takeTables 8 = .ok (.iload_n 1, 1) := by decide +kernel
theorem dX2_takeTables_9 : decode cX2_takeTables 9 = .ok (.iload_n 3, 1) := by decide +kernel
theorem dX2_takeTables_10 : decode cX2_takeTables 10 = .ok (.invokevirtual 175, 3) := by decide +kernel
theorem dX2_takeTables_13 : decode cX2_takeTables 13 = .ok (.ifCond .ne 29, 3) := by decide +kernel
theorem dX2_takeTables_16 : decode cX2_takeTables 16 = .ok (.iload_n 3, 1) := by decide +kernel
theorem dX2_takeTables_17 : decode cX2_takeTables 17 = .ok (.bipush 16, 2) := by decide +kernel
theorem dX2_takeTables_19 : decode cX2_takeTables 19 = .ok (.isub, 1) := by decide +kernel
theorem dX2_takeTables_20 : decode cX2_takeTables 20 = .ok (.istore 4, 2) := by decide +kernel
theorem dX2_takeTables_22 : decode cX2_takeTables 22 = .ok (.iload 4, 2) := by decide +kernel
theorem dX2_takeTables_24 : decode cX2_takeTables 24 = .ok (.ifCond .lt 16, 3) := by decide +kernel
theorem dX2_takeTables_27 : decode cX2_takeTables 27 = .ok (.aload_n 0, 1) := by decide +kernel
theorem dX2_takeTables_28 : decode cX2_takeTables 28 = .ok (.iload_n 1, 1) := by decide +kernel
theorem dX2_takeTables_29 : decode cX2_takeTables 29 = .ok (.iload 4, 2) := by decide +kernel
theorem dX2_takeTables_31 : decode cX2_takeTables 31 = .ok (.invokevirtual 178, 3) := by decide +kernel
theorem dX2_takeTables_34 : decode cX2_takeTables 34 = .ok (.iinc 4 (-16), 3) := by decide +kernel
theorem dX2_takeTables_37 : decode cX2_takeTables 37 = .ok (.goto (-15), 3) := by decide +kernel
theorem dX2_takeTables_40 : decode cX2_takeTables 40 = .ok (.iconst 0, 1) := by decide +kernel
theorem dX2_takeTables_41 : decode cX2_takeTables 41 = .ok (.ireturn, 1) := by decide +kernel
theorem dX2_takeTables_42 : decode cX2_takeTables 42 = .ok (.iinc 3 16, 3) := by decide +kernel
theorem dX2_takeTables_45 : decode cX2_takeTables 45 = .ok (.goto (-43), 3) := by decide +kernel
theorem dX2_takeTables_48 : decode cX2_takeTables 48 = .ok (.iconst 1, 1) := by decide +kernel
theorem dX2_takeTables_49 : decode cX2_takeTables 49 = .ok (.ireturn, 1) := by decide +kernel
theorem dX2_sharePages_0 : decode cX2_sharePages 0 = .ok (.aload_n 0, 1) := by decide +kernel
theorem dX2_sharePages_1 : decode cX2_sharePages 1 = .ok (.getfield 47, 3) := by decide +kernel
theorem dX2_sharePages_4 : decode cX2_sharePages 4 = .ok (.iload_n 1, 1) := by decide +kernel
theorem dX2_sharePages_5 : decode cX2_sharePages 5 = .ok (.iaload, 1) := by decide +kernel
theorem dX2_sharePages_6 : decode cX2_sharePages 6 = .ok (.istore_n 3, 1) := by decide +kernel
theorem dX2_sharePages_7 : decode cX2_sharePages 7 = .ok (.iconst 0, 1) := by decide +kernel
theorem dX2_sharePages_8 : decode cX2_sharePages 8 = .ok (.istore 4, 2) := by decide +kernel
theorem dX2_sharePages_10 : decode cX2_sharePages 10 = .ok (.iload 4, 2) := by decide +kernel
theorem dX2_sharePages_12 : decode cX2_sharePages 12 = .ok (.iload_n 3, 1) := by decide +kernel
theorem dX2_sharePages_13 : decode cX2_sharePages 13 = .ok (.if_icmp .ge 50, 3) := by decide +kernel
theorem dX2_sharePages_16 : decode cX2_sharePages 16 = .ok (.aload_n 0, 1) := by decide +kernel
theorem dX2_sharePages_17 : decode cX2_sharePages 17 = .ok (.iload_n 1, 1) := by decide +kernel
theorem dX2_sharePages_18 : decode cX2_sharePages 18 = .ok (.iload 4, 2) := by decide +kernel
theorem dX2_sharePages_20 : decode cX2_sharePages 20 = .ok (.invokevirtual 136, 3) := by decide +kernel
theorem dX2_sharePages_23 : decode cX2_sharePages 23 = .ok (.istore 5, 2) := by decide +kernel
theorem dX2_sharePages_25 : decode cX2_sharePages 25 = .ok (.iload 5, 2) := by decide +kernel
theorem dX2_sharePages_27 : decode cX2_sharePages 27 = .ok (.invokestatic 124, 3) := by decide +kernel
theorem dX2_sharePages_30 : decode cX2_sharePages 30 = .ok (.ifCond .eq 14, 3) := by decide +kernel
theorem dX2_sharePages_33 : decode cX2_sharePages 33 = .ok (.aload_n 0, 1) := by decide +kernel
theorem dX2_sharePages_34 : decode cX2_sharePages 34 = .ok (.getfield 32, 3) := by decide +kernel
theorem dX2_sharePages_37 : decode cX2_sharePages 37 = .ok (.iload 5, 2) := by decide +kernel
theorem dX2_sharePages_39 : decode cX2_sharePages 39 = .ok (.dup2, 1) := by decide +kernel
theorem dX2_sharePages_40 : decode cX2_sharePages 40 = .ok (.iaload, 1) := by decide +kernel
theorem dX2_sharePages_41 : decode cX2_sharePages 41 = .ok (.iconst 1, 1) := by decide +kernel
theorem dX2_sharePages_42 : decode cX2_sharePages 42 = .ok (.iadd, 1) := by decide +kernel
theorem dX2_sharePages_43 : decode cX2_sharePages 43 = .ok (.iastore, 1) := by decide +kernel
theorem dX2_sharePages_44 : decode cX2_sharePages 44 = .ok (.aload_n 0, 1) := by decide +kernel
theorem dX2_sharePages_45 : decode cX2_sharePages 45 = .ok (.aload_n 0, 1) := by decide +kernel
theorem dX2_sharePages_46 : decode cX2_sharePages 46 = .ok (.iload_n 2, 1) := by decide +kernel
theorem dX2_sharePages_47 : decode cX2_sharePages 47 = .ok (.iload 4, 2) := by decide +kernel
theorem dX2_sharePages_49 : decode cX2_sharePages 49 = .ok (.invokevirtual 181, 3) := by decide +kernel
theorem dX2_sharePages_52 : decode cX2_sharePages 52 = .ok (.iload 5, 2) := by decide +kernel
theorem dX2_sharePages_54 : decode cX2_sharePages 54 = .ok (.invokevirtual 92, 3) := by decide +kernel
theorem dX2_sharePages_57 : decode cX2_sharePages 57 = .ok (.iinc 4 1, 3) := by decide +kernel
theorem dX2_sharePages_60 : decode cX2_sharePages 60 = .ok (.goto (-50), 3) := by decide +kernel
theorem dX2_sharePages_63 : decode cX2_sharePages 63 = .ok (.aload_n 0, 1) := by decide +kernel
theorem dX2_sharePages_64 : decode cX2_sharePages 64 = .ok (.getfield 47, 3) := by decide +kernel
theorem dX2_sharePages_67 : decode cX2_sharePages 67 = .ok (.iload_n 2, 1) := by decide +kernel
theorem dX2_sharePages_68 : decode cX2_sharePages 68 = .ok (.iload_n 3, 1) := by decide +kernel
theorem dX2_sharePages_69 : decode cX2_sharePages 69 = .ok (.iastore, 1) := by decide +kernel
theorem dX2_sharePages_70 : decode cX2_sharePages 70 = .ok (.return_, 1) := by decide +kernel
theorem dX2_addPage_0 : decode cX2_addPage 0 = .ok (.iload_n 2, 1) := by decide +kernel
theorem dX2_addPage_1 : decode cX2_addPage 1 = .ok (.bipush 16, 2) := by decide +kernel
theorem dX2_addPage_3 : decode cX2_addPage 3 = .ok (.irem, 1) := by decide +kernel
theorem dX2_addPage_4 : decode cX2_addPage 4 = .ok (.ifCond .ne 7, 3) := by decide +kernel
theorem dX2_addPage_7 : decode cX2_addPage 7 = .ok (.iconst 1, 1) := by decide +kernel
theorem dX2_addPage_8 : decode cX2_addPage 8 = .ok (.goto 4, 3) := by decide +kernel
theorem dX2_addPage_11 : decode cX2_addPage 11 = .ok (.iconst 0, 1) := by decide +kernel
theorem dX2_addPage_12 : decode cX2_addPage 12 = .ok (.istore_n 3, 1) := by decide +kernel
theorem dX2_addPage_13 : decode cX2_addPage 13 = .ok (.iload_n 3, 1) := by decide +kernel
theorem dX2_addPage_14 : decode cX2_addPage 14 = .ok (.ifCond .eq 14, 3) := by decide +kernel
theorem dX2_addPage_17 : decode cX2_addPage 17 = .ok (.aload_n 0, 1) := by decide +kernel
theorem dX2_addPage_18 : decode cX2_addPage 18 = .ok (.iload_n 1, 1) := by decide +kernel
theorem dX2_addPage_19 : decode cX2_addPage 19 = .ok (.iload_n 2, 1) := by decide +kernel
theorem dX2_addPage_20 : decode cX2_addPage 20 = .ok (.invokevirtual 175, 3) := by decide +kernel
theorem dX2_addPage_23 : decode cX2_addPage 23 = .ok (.ifCond .ne 5, 3) := by decide +kernel
theorem dX2_addPage_26 : decode cX2_addPage 26 = .ok (.iconst 0, 1) := by decide +kernel
theorem dX2_addPage_27 : decode cX2_addPage 27 = .ok (.ireturn, 1) := by decide +kernel
theorem dX2_addPage_28 : decode cX2_addPage 28 = .ok (.aload_n 0, 1) := by decide +kernel
theorem dX2_addPage_29 : decode cX2_addPage 29 = .ok (.invokevirtual 184, 3) := by decide +kernel
theorem dX2_addPage_32 : decode cX2_addPage 32 = .ok (.istore 4, 2) := by decide +kernel
theorem dX2_addPage_34 : decode cX2_addPage 34 = .ok (.iload 4, 2) := by decide +kernel
theorem dX2_addPage_36 : decode cX2_addPage 36 = .ok (.iconst (-1), 1) := by decide +kernel
theorem dX2_addPage_37 : decode cX2_addPage 37 = .ok (.if_icmp .ne 15, 3) := by decide +kernel
theorem dX2_addPage_40 : decode cX2_addPage 40 = .ok (.iload_n 3, 1) := by decide +kernel
theorem dX2_addPage_41 : decode cX2_addPage 41 = .ok (.ifCond .eq 9, 3) := by decide +kernel
theorem dX2_addPage_44 : decode cX2_addPage 44 = .ok (.aload_n 0, 1) := by decide +kernel
theorem dX2_addPage_45 : decode cX2_addPage 45 = .ok (.iload_n 1, 1) := by decide +kernel
theorem dX2_addPage_46 : decode cX2_addPage 46 = .ok (.iload_n 2, 1) := by decide +kernel
theorem dX2_addPage_47 : decode cX2_addPage 47 = .ok (.invokevirtual 178, 3) := by decide +kernel
theorem dX2_addPage_50 : decode cX2_addPage 50 = .ok (.iconst 0, 1) := by decide +kernel
theorem dX2_addPage_51 : decode cX2_addPage 51 = .ok (.ireturn, 1) := by decide +kernel
theorem dX2_addPage_52 : decode cX2_addPage 52 = .ok (.iconst 0, 1) := by decide +kernel
theorem dX2_addPage_53 : decode cX2_addPage 53 = .ok (.istore 5, 2) := by decide +kernel
theorem dX2_addPage_55 : decode cX2_addPage 55 = .ok (.iload 5, 2) := by decide +kernel
theorem dX2_addPage_57 : decode cX2_addPage 57 = .ok (.bipush 64, 2) := by decide +kernel
theorem dX2_addPage_59 : decode cX2_addPage 59 = .ok (.if_icmp .ge 22, 3) := by decide +kernel
theorem dX2_addPage_62 : decode cX2_addPage 62 = .ok (.aload_n 0, 1) := by decide +kernel
theorem dX2_addPage_63 : decode cX2_addPage 63 = .ok (.iload 4, 2) := by decide +kernel
theorem dX2_addPage_65 : decode cX2_addPage 65 = .ok (.bipush 64, 2) := by decide +kernel
theorem dX2_addPage_67 : decode cX2_addPage 67 = .ok (.imul, 1) := by decide +kernel
theorem dX2_addPage_68 : decode cX2_addPage 68 = .ok (.iload 5, 2) := by decide +kernel
theorem dX2_addPage_70 : decode cX2_addPage 70 = .ok (.iadd, 1) := by decide +kernel
theorem dX2_addPage_71 : decode cX2_addPage 71 = .ok (.iconst 0, 1) := by decide +kernel
theorem dX2_addPage_72 : decode cX2_addPage 72 = .ok (.invokevirtual 92, 3) := by decide +kernel
theorem dX2_addPage_75 : decode cX2_addPage 75 = .ok (.iinc 5 1, 3) := by decide +kernel
theorem dX2_addPage_78 : decode cX2_addPage 78 = .ok (.goto (-23), 3) := by decide +kernel
theorem dX2_addPage_81 : decode cX2_addPage 81 = .ok (.aload_n 0, 1) := by decide +kernel
theorem dX2_addPage_82 : decode cX2_addPage 82 = .ok (.aload_n 0, 1) := by decide +kernel
theorem dX2_addPage_83 : decode cX2_addPage 83 = .ok (.iload_n 1, 1) := by decide +kernel
theorem dX2_addPage_84 : decode cX2_addPage 84 = .ok (.iload_n 2, 1) := by decide +kernel
theorem dX2_addPage_85 : decode cX2_addPage 85 = .ok (.invokevirtual 181, 3) := by decide +kernel
theorem dX2_addPage_88 : decode cX2_addPage 88 = .ok (.iload 4, 2) := by decide +kernel
theorem dX2_addPage_90 : decode cX2_addPage 90 = .ok (.invokevirtual 92, 3) := by decide +kernel
theorem dX2_addPage_93 : decode cX2_addPage 93 = .ok (.aload_n 0, 1) := by decide +kernel
theorem dX2_addPage_94 : decode cX2_addPage 94 = .ok (.getfield 47, 3) := by decide +kernel
theorem dX2_addPage_97 : decode cX2_addPage 97 = .ok (.iload_n 1, 1) := by decide +kernel
theorem dX2_addPage_98 : decode cX2_addPage 98 = .ok (.iload_n 2, 1) := by decide +kernel
theorem dX2_addPage_99 : decode cX2_addPage 99 = .ok (.iconst 1, 1) := by decide +kernel
theorem dX2_addPage_100 : decode cX2_addPage 100 = .ok (.iadd, 1) := by decide +kernel
theorem dX2_addPage_101 : decode cX2_addPage 101 = .ok (.iastore, 1) := by decide +kernel
theorem dX2_addPage_102 : decode cX2_addPage 102 = .ok (.iconst 1, 1) := by decide +kernel
theorem dX2_addPage_103 : decode cX2_addPage 103 = .ok (.ireturn, 1) := by decide +kernel
theorem dX2_shrinkTo_0 : decode cX2_shrinkTo 0 = .ok (.aload_n 0, 1) := by decide +kernel
theorem dX2_shrinkTo_1 : decode cX2_shrinkTo 1 = .ok (.getfield 47, 3) := by decide +kernel
theorem dX2_shrinkTo_4 : decode cX2_shrinkTo 4 = .ok (.iload_n 1, 1) := by decide +kernel
theorem dX2_shrinkTo_5 : decode cX2_shrinkTo 5 = .ok (.iaload, 1) := by decide +kernel
theorem dX2_shrinkTo_6 : decode cX2_shrinkTo 6 = .ok (.iconst 1, 1) := by decide +kernel
theorem dX2_shrinkTo_7 : decode cX2_shrinkTo 7 = .ok (.isub, 1) := by decide +kernel
theorem dX2_shrinkTo_8 : decode cX2_shrinkTo 8 = .ok (.istore_n 3, 1) := by decide +kernel
theorem dX2_shrinkTo_9 : decode cX2_shrinkTo 9 = .ok (.iload_n 3, 1) := by decide +kernel
theorem dX2_shrinkTo_10 : decode cX2_shrinkTo 10 = .ok (.iload_n 2, 1) := by decide +kernel
theorem dX2_shrinkTo_11 : decode cX2_shrinkTo 11 = .ok (.if_icmp .lt 39, 3) := by decide +kernel
theorem dX2_shrinkTo_14 : decode cX2_shrinkTo 14 = .ok (.aload_n 0, 1) := by decide +kernel
theorem dX2_shrinkTo_15 : decode cX2_shrinkTo 15 = .ok (.aload_n 0, 1) := by decide +kernel
theorem dX2_shrinkTo_16 : decode cX2_shrinkTo 16 = .ok (.iload_n 1, 1) := by decide +kernel
theorem dX2_shrinkTo_17 : decode cX2_shrinkTo 17 = .ok (.iload_n 3, 1) := by decide +kernel
theorem dX2_shrinkTo_18 : decode cX2_shrinkTo 18 = .ok (.invokevirtual 136, 3) := by decide +kernel
theorem dX2_shrinkTo_21 : decode cX2_shrinkTo 21 = .ok (.invokevirtual 187, 3) := by decide +kernel
theorem dX2_shrinkTo_24 : decode cX2_shrinkTo 24 = .ok (.iload_n 3, 1) := by decide +kernel
theorem dX2_shrinkTo_25 : decode cX2_shrinkTo 25 = .ok (.bipush 16, 2) := by decide +kernel
theorem dX2_shrinkTo_27 : decode cX2_shrinkTo 27 = .ok (.irem, 1) := by decide +kernel
theorem dX2_shrinkTo_28 : decode cX2_shrinkTo 28 = .ok (.ifCond .ne 9, 3) := by decide +kernel
theorem dX2_shrinkTo_31 : decode cX2_shrinkTo 31 = .ok (.aload_n 0, 1) := by decide +kernel
theorem dX2_shrinkTo_32 : decode cX2_shrinkTo 32 = .ok (.iload_n 1, 1) := by decide +kernel
theorem dX2_shrinkTo_33 : decode cX2_shrinkTo 33 = .ok (.iload_n 3, 1) := by decide +kernel
theorem dX2_shrinkTo_34 : decode cX2_shrinkTo 34 = .ok (.invokevirtual 178, 3) := by decide +kernel
theorem dX2_shrinkTo_37 : decode cX2_shrinkTo 37 = .ok (.aload_n 0, 1) := by decide +kernel
theorem dX2_shrinkTo_38 : decode cX2_shrinkTo 38 = .ok (.getfield 47, 3) := by decide +kernel
theorem dX2_shrinkTo_41 : decode cX2_shrinkTo 41 = .ok (.iload_n 1, 1) := by decide +kernel
theorem dX2_shrinkTo_42 : decode cX2_shrinkTo 42 = .ok (.iload_n 3, 1) := by decide +kernel
theorem dX2_shrinkTo_43 : decode cX2_shrinkTo 43 = .ok (.iastore, 1) := by decide +kernel
theorem dX2_shrinkTo_44 : decode cX2_shrinkTo 44 = .ok (.iinc 3 (-1), 3) := by decide +kernel
theorem dX2_shrinkTo_47 : decode cX2_shrinkTo 47 = .ok (.goto (-38), 3) := by decide +kernel
theorem dX2_shrinkTo_50 : decode cX2_shrinkTo 50 = .ok (.return_, 1) := by decide +kernel
theorem dX2_ownPage_0 : decode cX2_ownPage 0 = .ok (.aload_n 0, 1) := by decide +kernel
theorem dX2_ownPage_1 : decode cX2_ownPage 1 = .ok (.iload_n 1, 1) := by decide +kernel
theorem dX2_ownPage_2 : decode cX2_ownPage 2 = .ok (.iload_n 2, 1) := by decide +kernel
theorem dX2_ownPage_3 : decode cX2_ownPage 3 = .ok (.invokevirtual 136, 3) := by decide +kernel
theorem dX2_ownPage_6 : decode cX2_ownPage 6 = .ok (.istore_n 3, 1) := by decide +kernel
theorem dX2_ownPage_7 : decode cX2_ownPage 7 = .ok (.iload_n 3, 1) := by decide +kernel
theorem dX2_ownPage_8 : decode cX2_ownPage 8 = .ok (.invokestatic 124, 3) := by decide +kernel
theorem dX2_ownPage_11 : decode cX2_ownPage 11 = .ok (.ifCond .eq 13, 3) := by decide +kernel
theorem dX2_ownPage_14 : decode cX2_ownPage 14 = .ok (.aload_n 0, 1) := by decide +kernel
theorem dX2_ownPage_15 : decode cX2_ownPage 15 = .ok (.getfield 32, 3) := by decide +kernel
theorem dX2_ownPage_18 : decode cX2_ownPage 18 = .ok (.iload_n 3, 1) := by decide +kernel
theorem dX2_ownPage_19 : decode cX2_ownPage 19 = .ok (.iaload, 1) := by decide +kernel
theorem dX2_ownPage_20 : decode cX2_ownPage 20 = .ok (.iconst 2, 1) := by decide +kernel
theorem dX2_ownPage_21 : decode cX2_ownPage 21 = .ok (.if_icmp .ge 5, 3) := by decide +kernel
theorem dX2_ownPage_24 : decode cX2_ownPage 24 = .ok (.iconst 1, 1) := by decide +kernel
theorem dX2_ownPage_25 : decode cX2_ownPage 25 = .ok (.ireturn, 1) := by decide +kernel
theorem dX2_ownPage_26 : decode cX2_ownPage 26 = .ok (.aload_n 0, 1) := by decide +kernel
theorem dX2_ownPage_27 : decode cX2_ownPage 27 = .ok (.invokevirtual 184, 3) := by decide +kernel
theorem dX2_ownPage_30 : decode cX2_ownPage 30 = .ok (.istore 4, 2) := by decide +kernel
theorem dX2_ownPage_32 : decode cX2_ownPage 32 = .ok (.iload 4, 2) := by decide +kernel
theorem dX2_ownPage_34 : decode cX2_ownPage 34 = .ok (.iconst (-1), 1) := by decide +kernel
theorem dX2_ownPage_35 : decode cX2_ownPage 35 = .ok (.if_icmp .ne 5, 3) := by decide +kernel
theorem dX2_ownPage_38 : decode cX2_ownPage 38 = .ok (.iconst 0, 1) := by decide +kernel
theorem dX2_ownPage_39 : decode cX2_ownPage 39 = .ok (.ireturn, 1) := by decide +kernel
theorem dX2_ownPage_40 : decode cX2_ownPage 40 = .ok (.iconst 0, 1) := by decide +kernel
theorem dX2_ownPage_41 : decode cX2_ownPage 41 = .ok (.istore 5, 2) := by decide +kernel
theorem dX2_ownPage_43 : decode cX2_ownPage 43 = .ok (.iload 5, 2) := by decide +kernel
theorem dX2_ownPage_45 : decode cX2_ownPage 45 = .ok (.bipush 64, 2) := by decide +kernel
theorem dX2_ownPage_47 : decode cX2_ownPage 47 = .ok (.if_icmp .ge 32, 3) := by decide +kernel
theorem dX2_ownPage_50 : decode cX2_ownPage 50 = .ok (.aload_n 0, 1) := by decide +kernel
theorem dX2_ownPage_51 : decode cX2_ownPage 51 = .ok (.iload 4, 2) := by decide +kernel
theorem dX2_ownPage_53 : decode cX2_ownPage 53 = .ok (.bipush 64, 2) := by decide +kernel
theorem dX2_ownPage_55 : decode cX2_ownPage 55 = .ok (.imul, 1) := by decide +kernel
theorem dX2_ownPage_56 : decode cX2_ownPage 56 = .ok (.iload 5, 2) := by decide +kernel
theorem dX2_ownPage_58 : decode cX2_ownPage 58 = .ok (.iadd, 1) := by decide +kernel
theorem dX2_ownPage_59 : decode cX2_ownPage 59 = .ok (.aload_n 0, 1) := by decide +kernel
theorem dX2_ownPage_60 : decode cX2_ownPage 60 = .ok (.iload_n 3, 1) := by decide +kernel
theorem dX2_ownPage_61 : decode cX2_ownPage 61 = .ok (.bipush 64, 2) := by decide +kernel
theorem dX2_ownPage_63 : decode cX2_ownPage 63 = .ok (.imul, 1) := by decide +kernel
theorem dX2_ownPage_64 : decode cX2_ownPage 64 = .ok (.iload 5, 2) := by decide +kernel
theorem dX2_ownPage_66 : decode cX2_ownPage 66 = .ok (.iadd, 1) := by decide +kernel
theorem dX2_ownPage_67 : decode cX2_ownPage 67 = .ok (.invokevirtual 86, 3) := by decide +kernel
theorem dX2_ownPage_70 : decode cX2_ownPage 70 = .ok (.invokevirtual 92, 3) := by decide +kernel
theorem dX2_ownPage_73 : decode cX2_ownPage 73 = .ok (.iinc 5 1, 3) := by decide +kernel
theorem dX2_ownPage_76 : decode cX2_ownPage 76 = .ok (.goto (-33), 3) := by decide +kernel
theorem dX2_ownPage_79 : decode cX2_ownPage 79 = .ok (.aload_n 0, 1) := by decide +kernel
theorem dX2_ownPage_80 : decode cX2_ownPage 80 = .ok (.iload_n 3, 1) := by decide +kernel
theorem dX2_ownPage_81 : decode cX2_ownPage 81 = .ok (.invokevirtual 187, 3) := by decide +kernel
theorem dX2_ownPage_84 : decode cX2_ownPage 84 = .ok (.aload_n 0, 1) := by decide +kernel
theorem dX2_ownPage_85 : decode cX2_ownPage 85 = .ok (.aload_n 0, 1) := by decide +kernel
theorem dX2_ownPage_86 : decode cX2_ownPage 86 = .ok (.iload_n 1, 1) := by decide +kernel
theorem dX2_ownPage_87 : decode cX2_ownPage 87 = .ok (.iload_n 2, 1) := by decide +kernel
theorem dX2_ownPage_88 : decode cX2_ownPage 88 = .ok (.invokevirtual 181, 3) := by decide +kernel
theorem dX2_ownPage_91 : decode cX2_ownPage 91 = .ok (.iload 4, 2) := by decide +kernel
theorem dX2_ownPage_93 : decode cX2_ownPage 93 = .ok (.invokevirtual 92, 3) := by decide +kernel
theorem dX2_ownPage_96 : decode cX2_ownPage 96 = .ok (.aload_n 0, 1) := by decide +kernel
theorem dX2_ownPage_97 : decode cX2_ownPage 97 = .ok (.dup, 1) := by decide +kernel
theorem dX2_ownPage_98 : decode cX2_ownPage 98 = .ok (.getfield 154, 3) := by decide +kernel
theorem dX2_ownPage_101 : decode cX2_ownPage 101 = .ok (.iconst 1, 1) := by decide +kernel
theorem dX2_ownPage_102 : decode cX2_ownPage 102 = .ok (.iadd, 1) := by decide +kernel
theorem dX2_ownPage_103 : decode cX2_ownPage 103 = .ok (.putfield 154, 3) := by decide +kernel
theorem dX2_ownPage_106 : decode cX2_ownPage 106 = .ok (.iconst 1, 1) := by decide +kernel
theorem dX2_ownPage_107 : decode cX2_ownPage 107 = .ok (.ireturn, 1) := by decide +kernel
theorem dX2_addTable_0 : decode cX2_addTable 0 = .ok (.aload_n 0, 1) := by decide +kernel
theorem dX2_addTable_1 : decode cX2_addTable 1 = .ok (.getfield 25, 3) := by decide +kernel
theorem dX2_addTable_4 : decode cX2_addTable 4 = .ok (.invokevirtual 163, 3) := by decide +kernel
theorem dX2_addTable_7 : decode cX2_addTable 7 = .ok (.istore_n 3, 1) := by decide +kernel
theorem dX2_addTable_8 : decode cX2_addTable 8 = .ok (.iload_n 3, 1) := by decide +kernel
theorem dX2_addTable_9 : decode cX2_addTable 9 = .ok (.iconst (-1), 1) := by decide +kernel
theorem dX2_addTable_10 : decode cX2_addTable 10 = .ok (.if_icmp .ne 5, 3) := by decide +kernel
theorem dX2_addTable_13 : decode cX2_addTable 13 = .ok (.iconst 0, 1) := by decide +kernel
theorem dX2_addTable_14 : decode cX2_addTable 14 = .ok (.ireturn, 1) := by decide +kernel
theorem dX2_addTable_15 : decode cX2_addTable 15 = .ok (.aload_n 0, 1) := by decide +kernel
theorem dX2_addTable_16 : decode cX2_addTable 16 = .ok (.aload_n 0, 1) := by decide +kernel
theorem dX2_addTable_17 : decode cX2_addTable 17 = .ok (.iload_n 1, 1) := by decide +kernel
theorem dX2_addTable_18 : decode cX2_addTable 18 = .ok (.iload_n 2, 1) := by decide +kernel
theorem dX2_addTable_19 : decode cX2_addTable 19 = .ok (.invokevirtual 190, 3) := by decide +kernel
theorem dX2_addTable_22 : decode cX2_addTable 22 = .ok (.iload_n 3, 1) := by decide +kernel
theorem dX2_addTable_23 : decode cX2_addTable 23 = .ok (.invokevirtual 92, 3) := by decide +kernel
theorem dX2_addTable_26 : decode cX2_addTable 26 = .ok (.iconst 1, 1) := by decide +kernel
theorem dX2_addTable_27 : decode cX2_addTable 27 = .ok (.ireturn, 1) := by decide +kernel
theorem dX2_dropTable_0 : decode cX2_dropTable 0 = .ok (.aload_n 0, 1) := by decide +kernel
theorem dX2_dropTable_1 : decode cX2_dropTable 1 = .ok (.getfield 25, 3) := by decide +kernel
theorem dX2_dropTable_4 : decode cX2_dropTable 4 = .ok (.aload_n 0, 1) := by decide +kernel
theorem dX2_dropTable_5 : decode cX2_dropTable 5 = .ok (.aload_n 0, 1) := by decide +kernel
theorem dX2_dropTable_6 : decode cX2_dropTable 6 = .ok (.iload_n 1, 1) := by decide +kernel
theorem dX2_dropTable_7 : decode cX2_dropTable 7 = .ok (.iload_n 2, 1) := by decide +kernel
theorem dX2_dropTable_8 : decode cX2_dropTable 8 = .ok (.invokevirtual 190, 3) := by decide +kernel
theorem dX2_dropTable_11 : decode cX2_dropTable 11 = .ok (.invokevirtual 86, 3) := by decide +kernel
theorem dX2_dropTable_14 : decode cX2_dropTable 14 = .ok (.invokevirtual 169, 3) := by decide +kernel
theorem dX2_dropTable_17 : decode cX2_dropTable 17 = .ok (.return_, 1) := by decide +kernel
theorem dX2_takePageFrame_0 : decode cX2_takePageFrame 0 = .ok (.aload_n 0, 1) := by decide +kernel
theorem dX2_takePageFrame_1 : decode cX2_takePageFrame 1 = .ok (.getfield 10, 3) := by decide +kernel
theorem dX2_takePageFrame_4 : decode cX2_takePageFrame 4 = .ok (.iconst 0, 1) := by decide +kernel
theorem dX2_takePageFrame_5 : decode cX2_takePageFrame 5 = .ok (.invokevirtual 121, 3) := by decide +kernel
theorem dX2_takePageFrame_8 : decode cX2_takePageFrame 8 = .ok (.istore_n 1, 1) := by decide +kernel
theorem dX2_takePageFrame_9 : decode cX2_takePageFrame 9 = .ok (.iload_n 1, 1) := by decide +kernel
theorem dX2_takePageFrame_10 : decode cX2_takePageFrame 10 = .ok (.invokestatic 124, 3) := by decide +kernel
theorem dX2_takePageFrame_13 : decode cX2_takePageFrame 13 = .ok (.ifCond .ne 5, 3) := by decide +kernel
theorem dX2_takePageFrame_16 : decode cX2_takePageFrame 16 = .ok (.iconst (-1), 1) := by decide +kernel
theorem dX2_takePageFrame_17 : decode cX2_takePageFrame 17 = .ok (.ireturn, 1) := by decide +kernel
theorem dX2_takePageFrame_18 : decode cX2_takePageFrame 18 = .ok (.aload_n 0, 1) := by decide +kernel
theorem dX2_takePageFrame_19 : decode cX2_takePageFrame 19 = .ok (.getfield 32, 3) := by decide +kernel
theorem dX2_takePageFrame_22 : decode cX2_takePageFrame 22 = .ok (.iload_n 1, 1) := by decide +kernel
theorem dX2_takePageFrame_23 : decode cX2_takePageFrame 23 = .ok (.iconst 1, 1) := by decide +kernel
theorem dX2_takePageFrame_24 : decode cX2_takePageFrame 24 = .ok (.iastore, 1) := by decide +kernel
theorem dX2_takePageFrame_25 : decode cX2_takePageFrame 25 = .ok (.iload_n 1, 1) := by decide +kernel
theorem dX2_takePageFrame_26 : decode cX2_takePageFrame 26 = .ok (.ireturn, 1) := by decide +kernel
theorem dX2_dropPageFrame_0 : decode cX2_dropPageFrame 0 = .ok (.iload_n 1, 1) := by decide +kernel
theorem dX2_dropPageFrame_1 : decode cX2_dropPageFrame 1 = .ok (.invokestatic 124, 3) := by decide +kernel
theorem dX2_dropPageFrame_4 : decode cX2_dropPageFrame 4 = .ok (.ifCond .ne 4, 3) := by decide +kernel
theorem dX2_dropPageFrame_7 : decode cX2_dropPageFrame 7 = .ok (.return_, 1) := by decide +kernel
theorem dX2_dropPageFrame_8 : decode cX2_dropPageFrame 8 = .ok (.aload_n 0, 1) := by decide +kernel
theorem dX2_dropPageFrame_9 : decode cX2_dropPageFrame 9 = .ok (.getfield 32, 3) := by decide +kernel
theorem dX2_dropPageFrame_12 : decode cX2_dropPageFrame 12 = .ok (.iload_n 1, 1) := by decide +kernel
theorem dX2_dropPageFrame_13 : decode cX2_dropPageFrame 13 = .ok (.dup2, 1) := by decide +kernel
theorem dX2_dropPageFrame_14 : decode cX2_dropPageFrame 14 = .ok (.iaload, 1) := by decide +kernel
theorem dX2_dropPageFrame_15 : decode cX2_dropPageFrame 15 = .ok (.iconst 1, 1) := by decide +kernel
theorem dX2_dropPageFrame_16 : decode cX2_dropPageFrame 16 = .ok (.isub, 1) := by decide +kernel
theorem dX2_dropPageFrame_17 : decode cX2_dropPageFrame 17 = .ok (.iastore, 1) := by decide +kernel
theorem dX2_dropPageFrame_18 : decode cX2_dropPageFrame 18 = .ok (.aload_n 0, 1) := by decide +kernel
theorem dX2_dropPageFrame_19 : decode cX2_dropPageFrame 19 = .ok (.getfield 32, 3) := by decide +kernel
theorem dX2_dropPageFrame_22 : decode cX2_dropPageFrame 22 = .ok (.iload_n 1, 1) := by decide +kernel
theorem dX2_dropPageFrame_23 : decode cX2_dropPageFrame 23 = .ok (.iaload, 1) := by decide +kernel
theorem dX2_dropPageFrame_24 : decode cX2_dropPageFrame 24 = .ok (.ifCond .ne 12, 3) := by decide +kernel
theorem dX2_dropPageFrame_27 : decode cX2_dropPageFrame 27 = .ok (.aload_n 0, 1) := by decide +kernel
theorem dX2_dropPageFrame_28 : decode cX2_dropPageFrame 28 = .ok (.getfield 10, 3) := by decide +kernel
theorem dX2_dropPageFrame_31 : decode cX2_dropPageFrame 31 = .ok (.iload_n 1, 1) := by decide +kernel
theorem dX2_dropPageFrame_32 : decode cX2_dropPageFrame 32 = .ok (.iconst 0, 1) := by decide +kernel
theorem dX2_dropPageFrame_33 : decode cX2_dropPageFrame 33 = .ok (.invokevirtual 127, 3) := by decide +kernel
theorem dX2_dropPageFrame_36 : decode cX2_dropPageFrame 36 = .ok (.return_, 1) := by decide +kernel
theorem dX2_pageOf_0 : decode cX2_pageOf 0 = .ok (.iload_n 0, 1) := by decide +kernel
theorem dX2_pageOf_1 : decode cX2_pageOf 1 = .ok (.bipush 6, 2) := by decide +kernel
theorem dX2_pageOf_3 : decode cX2_pageOf 3 = .ok (.ishr, 1) := by decide +kernel
theorem dX2_pageOf_4 : decode cX2_pageOf 4 = .ok (.ireturn, 1) := by decide +kernel
theorem dX2_frameOfPage_0 : decode cX2_frameOfPage 0 = .ok (.aload_n 0, 1) := by decide +kernel
theorem dX2_frameOfPage_1 : decode cX2_frameOfPage 1 = .ok (.iload_n 1, 1) := by decide +kernel
theorem dX2_frameOfPage_2 : decode cX2_frameOfPage 2 = .ok (.iload_n 2, 1) := by decide +kernel
theorem dX2_frameOfPage_3 : decode cX2_frameOfPage 3 = .ok (.invokevirtual 79, 3) := by decide +kernel
theorem dX2_frameOfPage_6 : decode cX2_frameOfPage 6 = .ok (.ifCond .eq 16, 3) := by decide +kernel
theorem dX2_frameOfPage_9 : decode cX2_frameOfPage 9 = .ok (.aload_n 0, 1) := by decide +kernel
theorem dX2_frameOfPage_10 : decode cX2_frameOfPage 10 = .ok (.aload_n 0, 1) := by decide +kernel
theorem dX2_frameOfPage_11 : decode cX2_frameOfPage 11 = .ok (.iload_n 1, 1) := by decide +kernel
theorem dX2_frameOfPage_12 : decode cX2_frameOfPage 12 = .ok (.iload_n 2, 1) := by decide +kernel
theorem dX2_frameOfPage_13 : decode cX2_frameOfPage 13 = .ok (.invokevirtual 181, 3) := by decide +kernel
theorem dX2_frameOfPage_16 : decode cX2_frameOfPage 16 = .ok (.invokevirtual 86, 3) := by decide +kernel
theorem dX2_frameOfPage_19 : decode cX2_frameOfPage 19 = .ok (.goto 4, 3) := by decide +kernel
theorem dX2_frameOfPage_22 : decode cX2_frameOfPage 22 = .ok (.iconst (-1), 1) := by decide +kernel
theorem dX2_frameOfPage_23 : decode cX2_frameOfPage 23 = .ok (.ireturn, 1) := by decide +kernel
theorem dX2_tableIndex_0 : decode cX2_tableIndex 0 = .ok (.aload_n 0, 1) := by decide +kernel
theorem dX2_tableIndex_1 : decode cX2_tableIndex 1 = .ok (.getfield 50, 3) := by decide +kernel
theorem dX2_tableIndex_4 : decode cX2_tableIndex 4 = .ok (.iload_n 1, 1) := by decide +kernel
theorem dX2_tableIndex_5 : decode cX2_tableIndex 5 = .ok (.iaload, 1) := by decide +kernel
theorem dX2_tableIndex_6 : decode cX2_tableIndex 6 = .ok (.bipush 16, 2) := by decide +kernel
theorem dX2_tableIndex_8 : decode cX2_tableIndex 8 = .ok (.imul, 1) := by decide +kernel
theorem dX2_tableIndex_9 : decode cX2_tableIndex 9 = .ok (.iload_n 2, 1) := by decide +kernel
theorem dX2_tableIndex_10 : decode cX2_tableIndex 10 = .ok (.bipush 16, 2) := by decide +kernel
theorem dX2_tableIndex_12 : decode cX2_tableIndex 12 = .ok (.idiv, 1) := by decide +kernel
theorem dX2_tableIndex_13 : decode cX2_tableIndex 13 = .ok (.iadd, 1) := by decide +kernel
theorem dX2_tableIndex_14 : decode cX2_tableIndex 14 = .ok (.ireturn, 1) := by decide +kernel
theorem dX2_pageIndex_0 : decode cX2_pageIndex 0 = .ok (.aload_n 0, 1) := by decide +kernel
theorem dX2_pageIndex_1 : decode cX2_pageIndex 1 = .ok (.aload_n 0, 1) := by decide +kernel
theorem dX2_pageIndex_2 : decode cX2_pageIndex 2 = .ok (.iload_n 1, 1) := by decide +kernel
theorem dX2_pageIndex_3 : decode cX2_pageIndex 3 = .ok (.iload_n 2, 1) := by decide +kernel
theorem dX2_pageIndex_4 : decode cX2_pageIndex 4 = .ok (.invokevirtual 190, 3) := by decide +kernel
theorem dX2_pageIndex_7 : decode cX2_pageIndex 7 = .ok (.invokevirtual 86, 3) := by decide +kernel
theorem dX2_pageIndex_10 : decode cX2_pageIndex 10 = .ok (.bipush 16, 2) := by decide +kernel
theorem dX2_pageIndex_12 : decode cX2_pageIndex 12 = .ok (.imul, 1) := by decide +kernel
theorem dX2_pageIndex_13 : decode cX2_pageIndex 13 = .ok (.iload_n 2, 1) := by decide +kernel
theorem dX2_pageIndex_14 : decode cX2_pageIndex 14 = .ok (.bipush 16, 2) := by decide +kernel
theorem dX2_pageIndex_16 : decode cX2_pageIndex 16 = .ok (.irem, 1) := by decide +kernel
theorem dX2_pageIndex_17 : decode cX2_pageIndex 17 = .ok (.iadd, 1) := by decide +kernel
theorem dX2_pageIndex_18 : decode cX2_pageIndex 18 = .ok (.ireturn, 1) := by decide +kernel
theorem dX2_wordIndex_0 : decode cX2_wordIndex 0 = .ok (.aload_n 0, 1) := by decide +kernel
theorem dX2_wordIndex_1 : decode cX2_wordIndex 1 = .ok (.iload_n 1, 1) := by decide +kernel
theorem dX2_wordIndex_2 : decode cX2_wordIndex 2 = .ok (.iload_n 2, 1) := by decide +kernel
theorem dX2_wordIndex_3 : decode cX2_wordIndex 3 = .ok (.invokestatic 76, 3) := by decide +kernel
theorem dX2_wordIndex_6 : decode cX2_wordIndex 6 = .ok (.invokevirtual 136, 3) := by decide +kernel
theorem dX2_wordIndex_9 : decode cX2_wordIndex 9 = .ok (.bipush 64, 2) := by decide +kernel
theorem dX2_wordIndex_11 : decode cX2_wordIndex 11 = .ok (.imul, 1) := by decide +kernel
theorem dX2_wordIndex_12 : decode cX2_wordIndex 12 = .ok (.iload_n 2, 1) := by decide +kernel
theorem dX2_wordIndex_13 : decode cX2_wordIndex 13 = .ok (.bipush 63, 2) := by decide +kernel
theorem dX2_wordIndex_15 : decode cX2_wordIndex 15 = .ok (.iand, 1) := by decide +kernel
theorem dX2_wordIndex_16 : decode cX2_wordIndex 16 = .ok (.iadd, 1) := by decide +kernel
theorem dX2_wordIndex_17 : decode cX2_wordIndex 17 = .ok (.ireturn, 1) := by decide +kernel
theorem dX2_wordAt_0 : decode cX2_wordAt 0 = .ok (.iload_n 1, 1) := by decide +kernel
theorem dX2_wordAt_1 : decode cX2_wordAt 1 = .ok (.ifCond .lt 21, 3) := by decide +kernel
theorem dX2_wordAt_4 : decode cX2_wordAt 4 = .ok (.iload_n 1, 1) := by decide +kernel
theorem dX2_wordAt_5 : decode cX2_wordAt 5 = .ok (.aload_n 0, 1) := by decide +kernel
theorem dX2_wordAt_6 : decode cX2_wordAt 6 = .ok (.getfield 28, 3) := by decide +kernel
theorem dX2_wordAt_9 : decode cX2_wordAt 9 = .ok (.arraylength, 1) := by decide +kernel
theorem dX2_wordAt_10 : decode cX2_wordAt 10 = .ok (.if_icmp .ge 12, 3) := by decide +kernel
theorem dX2_wordAt_13 : decode cX2_wordAt 13 = .ok (.aload_n 0, 1) := by decide +kernel
theorem dX2_wordAt_14 : decode cX2_wordAt 14 = .ok (.getfield 28, 3) := by decide +kernel
theorem dX2_wordAt_17 : decode cX2_wordAt 17 = .ok (.iload_n 1, 1) := by decide +kernel
theorem dX2_wordAt_18 : decode cX2_wordAt 18 = .ok (.iaload, 1) := by decide +kernel
theorem dX2_wordAt_19 : decode cX2_wordAt 19 = .ok (.goto 4, 3) := by decide +kernel
theorem dX2_wordAt_22 : decode cX2_wordAt 22 = .ok (.iconst 0, 1) := by decide +kernel
theorem dX2_wordAt_23 : decode cX2_wordAt 23 = .ok (.ireturn, 1) := by decide +kernel
theorem dX2_setWord_0 : decode cX2_setWord 0 = .ok (.iload_n 1, 1) := by decide +kernel
theorem dX2_setWord_1 : decode cX2_setWord 1 = .ok (.ifCond .lt 19, 3) := by decide +kernel
theorem dX2_setWord_4 : decode cX2_setWord 4 = .ok (.iload_n 1, 1) := by decide +kernel
theorem dX2_setWord_5 : decode cX2_setWord 5 = .ok (.aload_n 0, 1) := by decide +kernel
theorem dX2_setWord_6 : decode cX2_setWord 6 = .ok (.getfield 28, 3) := by decide +kernel
theorem dX2_setWord_9 : decode cX2_setWord 9 = .ok (.arraylength, 1) := by decide +kernel
theorem dX2_setWord_10 : decode cX2_setWord 10 = .ok (.if_icmp .ge 10, 3) := by decide +kernel
theorem dX2_setWord_13 : decode cX2_setWord 13 = .ok (.aload_n 0, 1) := by decide +kernel
theorem dX2_setWord_14 : decode cX2_setWord 14 = .ok (.getfield 28, 3) := by decide +kernel
theorem dX2_setWord_17 : decode cX2_setWord 17 = .ok (.iload_n 1, 1) := by decide +kernel
theorem dX2_setWord_18 : decode cX2_setWord 18 = .ok (.iload_n 2, 1) := by decide +kernel
theorem dX2_setWord_19 : decode cX2_setWord 19 = .ok (.iastore, 1) := by decide +kernel
theorem dX2_setWord_20 : decode cX2_setWord 20 = .ok (.return_, 1) := by decide +kernel
theorem dX2_kindOf_0 : decode cX2_kindOf 0 = .ok (.aload_n 0, 1) := by decide +kernel
theorem dX2_kindOf_1 : decode cX2_kindOf 1 = .ok (.getfield 21, 3) := by decide +kernel
theorem dX2_kindOf_4 : decode cX2_kindOf 4 = .ok (.iload_n 1, 1) := by decide +kernel
theorem dX2_kindOf_5 : decode cX2_kindOf 5 = .ok (.invokevirtual 142, 3) := by decide +kernel
theorem dX2_kindOf_8 : decode cX2_kindOf 8 = .ok (.ifCond .le 5, 3) := by decide +kernel
theorem dX2_kindOf_11 : decode cX2_kindOf 11 = .ok (.iconst 1, 1) := by decide +kernel
theorem dX2_kindOf_12 : decode cX2_kindOf 12 = .ok (.ireturn, 1) := by decide +kernel
theorem dX2_kindOf_13 : decode cX2_kindOf 13 = .ok (.aload_n 0, 1) := by decide +kernel
theorem dX2_kindOf_14 : decode cX2_kindOf 14 = .ok (.getfield 25, 3) := by decide +kernel
theorem dX2_kindOf_17 : decode cX2_kindOf 17 = .ok (.iload_n 1, 1) := by decide +kernel
theorem dX2_kindOf_18 : decode cX2_kindOf 18 = .ok (.invokevirtual 142, 3) := by decide +kernel
theorem dX2_kindOf_21 : decode cX2_kindOf 21 = .ok (.ifCond .le 5, 3) := by decide +kernel
theorem dX2_kindOf_24 : decode cX2_kindOf 24 = .ok (.iconst 2, 1) := by decide +kernel
theorem dX2_kindOf_25 : decode cX2_kindOf 25 = .ok (.ireturn, 1) := by decide +kernel
theorem dX2_kindOf_26 : decode cX2_kindOf 26 = .ok (.iload_n 1, 1) := by decide +kernel
theorem dX2_kindOf_27 : decode cX2_kindOf 27 = .ok (.invokestatic 124, 3) := by decide +kernel
theorem dX2_kindOf_30 : decode cX2_kindOf 30 = .ok (.ifCond .eq 14, 3) := by decide +kernel
theorem dX2_kindOf_33 : decode cX2_kindOf 33 = .ok (.aload_n 0, 1) := by decide +kernel
theorem dX2_kindOf_34 : decode cX2_kindOf 34 = .ok (.getfield 32, 3) := by decide +kernel
theorem dX2_kindOf_37 : decode cX2_kindOf 37 = .ok (.iload_n 1, 1) := by decide +kernel
theorem dX2_kindOf_38 : decode cX2_kindOf 38 = .ok (.iaload, 1) := by decide +kernel
theorem dX2_kindOf_39 : decode cX2_kindOf 39 = .ok (.ifCond .le 5, 3) := by decide +kernel
theorem dX2_kindOf_42 : decode cX2_kindOf 42 = .ok (.iconst 3, 1) := by decide +kernel
theorem dX2_kindOf_43 : decode cX2_kindOf 43 = .ok (.ireturn, 1) := by decide +kernel
theorem dX2_kindOf_44 : decode cX2_kindOf 44 = .ok (.aload_n 0, 1) := by decide +kernel
theorem dX2_kindOf_45 : decode cX2_kindOf 45 = .ok (.iload_n 1, 1) := by decide +kernel
theorem dX2_kindOf_46 : decode cX2_kindOf 46 = .ok (.invokevirtual 193, 3) := by decide +kernel
theorem dX2_kindOf_49 : decode cX2_kindOf 49 = .ok (.ifCond .eq 7, 3) := by decide +kernel
theorem dX2_kindOf_52 : decode cX2_kindOf 52 = .ok (.iconst 4, 1) := by decide +kernel
theorem dX2_kindOf_53 : decode cX2_kindOf 53 = .ok (.goto 4, 3) := by decide +kernel
theorem dX2_kindOf_56 : decode cX2_kindOf 56 = .ok (.iconst 0, 1) := by decide +kernel
theorem dX2_kindOf_57 : decode cX2_kindOf 57 = .ok (.ireturn, 1) := by decide +kernel
theorem dX2_isKernels_0 : decode cX2_isKernels 0 = .ok (.iconst 0, 1) := by decide +kernel
theorem dX2_isKernels_1 : decode cX2_isKernels 1 = .ok (.istore_n 2, 1) := by decide +kernel
theorem dX2_isKernels_2 : decode cX2_isKernels 2 = .ok (.iload_n 2, 1) := by decide +kernel
theorem dX2_isKernels_3 : decode cX2_isKernels 3 = .ok (.bipush 7, 2) := by decide +kernel
theorem dX2_isKernels_5 : decode cX2_isKernels 5 = .ok (.if_icmp .gt 34, 3) := by decide +kernel
theorem dX2_isKernels_8 : decode cX2_isKernels 8 = .ok (.iload_n 1, 1) := by decide +kernel
theorem dX2_isKernels_9 : decode cX2_isKernels 9 = .ok (.iload_n 2, 1) := by decide +kernel
theorem dX2_isKernels_10 : decode cX2_isKernels 10 = .ok (.ishr, 1) := by decide +kernel
theorem dX2_isKernels_11 : decode cX2_isKernels 11 = .ok (.iload_n 2, 1) := by decide +kernel
theorem dX2_isKernels_12 : decode cX2_isKernels 12 = .ok (.ishl, 1) := by decide +kernel
theorem dX2_isKernels_13 : decode cX2_isKernels 13 = .ok (.istore_n 3, 1) := by decide +kernel
theorem dX2_isKernels_14 : decode cX2_isKernels 14 = .ok (.iload_n 3, 1) := by decide +kernel
theorem dX2_isKernels_15 : decode cX2_isKernels 15 = .ok (.invokestatic 124, 3) := by decide +kernel
theorem dX2_isKernels_18 : decode cX2_isKernels 18 = .ok (.ifCond .eq 15, 3) := by decide +kernel
theorem dX2_isKernels_21 : decode cX2_isKernels 21 = .ok (.aload_n 0, 1) := by decide +kernel
theorem dX2_isKernels_22 : decode cX2_isKernels 22 = .ok (.getfield 35, 3) := by decide +kernel
theorem dX2_isKernels_25 : decode cX2_isKernels 25 = .ok (.iload_n 3, 1) := by decide +kernel
theorem dX2_isKernels_26 : decode cX2_isKernels 26 = .ok (.iaload, 1) := by decide +kernel
theorem dX2_isKernels_27 : decode cX2_isKernels 27 = .ok (.iload_n 2, 1) := by decide +kernel
theorem dX2_isKernels_28 : decode cX2_isKernels 28 = .ok (.if_icmp .ne 5, 3) := by decide +kernel
theorem dX2_isKernels_31 : decode cX2_isKernels 31 = .ok (.iconst 1, 1) := by decide +kernel
theorem dX2_isKernels_32 : decode cX2_isKernels 32 = .ok (.ireturn, 1) := by decide +kernel
theorem dX2_isKernels_33 : decode cX2_isKernels 33 = .ok (.iinc 2 1, 3) := by decide +kernel
theorem dX2_isKernels_36 : decode cX2_isKernels 36 = .ok (.goto (-34), 3) := by decide +kernel
theorem dX2_isKernels_39 : decode cX2_isKernels 39 = .ok (.iconst 0, 1) := by decide +kernel
theorem dX2_isKernels_40 : decode cX2_isKernels 40 = .ok (.ireturn, 1) := by decide +kernel
