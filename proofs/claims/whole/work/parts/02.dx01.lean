theorem dX0_init_0 : decode cX0_init 0 = .ok (.aload_n 0, 1) := by decide +kernel
theorem dX0_init_1 : decode cX0_init 1 = .ok (.invokespecial 3, 3) := by decide +kernel
theorem dX0_init_4 : decode cX0_init 4 = .ok (.aload_n 0, 1) := by decide +kernel
theorem dX0_init_5 : decode cX0_init 5 = .ok (.sipush 128, 3) := by decide +kernel
theorem dX0_init_8 : decode cX0_init 8 = .ok (.newarray .int, 2) := by decide +kernel
theorem dX0_init_10 : decode cX0_init 10 = .ok (.putfield 9, 3) := by decide +kernel
theorem dX0_init_13 : decode cX0_init 13 = .ok (.iconst 0, 1) := by decide +kernel
theorem dX0_init_14 : decode cX0_init 14 = .ok (.istore_n 1, 1) := by decide +kernel
theorem dX0_init_15 : decode cX0_init 15 = .ok (.iload_n 1, 1) := by decide +kernel
theorem dX0_init_16 : decode cX0_init 16 = .ok (.sipush 128, 3) := by decide +kernel
theorem dX0_init_19 : decode cX0_init 19 = .ok (.if_icmp .ge 16, 3) := by decide +kernel
theorem dX0_init_22 : decode cX0_init 22 = .ok (.aload_n 0, 1) := by decide +kernel
theorem dX0_init_23 : decode cX0_init 23 = .ok (.getfield 9, 3) := by decide +kernel
theorem dX0_init_26 : decode cX0_init 26 = .ok (.iload_n 1, 1) := by decide +kernel
theorem dX0_init_27 : decode cX0_init 27 = .ok (.iconst (-1), 1) := by decide +kernel
theorem dX0_init_28 : decode cX0_init 28 = .ok (.iastore, 1) := by decide +kernel
theorem dX0_init_29 : decode cX0_init 29 = .ok (.iinc 1 1, 3) := by decide +kernel
theorem dX0_init_32 : decode cX0_init 32 = .ok (.goto (-17), 3) := by decide +kernel
theorem dX0_init_35 : decode cX0_init 35 = .ok (.aload_n 0, 1) := by decide +kernel
theorem dX0_init_36 : decode cX0_init 36 = .ok (.bipush 8, 2) := by decide +kernel
theorem dX0_init_38 : decode cX0_init 38 = .ok (.newarray .int, 2) := by decide +kernel
theorem dX0_init_40 : decode cX0_init 40 = .ok (.putfield 15, 3) := by decide +kernel
theorem dX0_init_43 : decode cX0_init 43 = .ok (.aload_n 0, 1) := by decide +kernel
theorem dX0_init_44 : decode cX0_init 44 = .ok (.getfield 9, 3) := by decide +kernel
theorem dX0_init_47 : decode cX0_init 47 = .ok (.iconst 0, 1) := by decide +kernel
theorem dX0_init_48 : decode cX0_init 48 = .ok (.bipush 7, 2) := by decide +kernel
theorem dX0_init_50 : decode cX0_init 50 = .ok (.iastore, 1) := by decide +kernel
theorem dX0_init_51 : decode cX0_init 51 = .ok (.aload_n 0, 1) := by decide +kernel
theorem dX0_init_52 : decode cX0_init 52 = .ok (.getfield 15, 3) := by decide +kernel
theorem dX0_init_55 : decode cX0_init 55 = .ok (.bipush 7, 2) := by decide +kernel
theorem dX0_init_57 : decode cX0_init 57 = .ok (.iconst 1, 1) := by decide +kernel
theorem dX0_init_58 : decode cX0_init 58 = .ok (.iastore, 1) := by decide +kernel
theorem dX0_init_59 : decode cX0_init 59 = .ok (.return_, 1) := by decide +kernel
theorem dX0_countOf_0 : decode cX0_countOf 0 = .ok (.iload_n 1, 1) := by decide +kernel
theorem dX0_countOf_1 : decode cX0_countOf 1 = .ok (.invokestatic 18, 3) := by decide +kernel
theorem dX0_countOf_4 : decode cX0_countOf 4 = .ok (.ifCond .eq 12, 3) := by decide +kernel
theorem dX0_countOf_7 : decode cX0_countOf 7 = .ok (.aload_n 0, 1) := by decide +kernel
theorem dX0_countOf_8 : decode cX0_countOf 8 = .ok (.getfield 15, 3) := by decide +kernel
theorem dX0_countOf_11 : decode cX0_countOf 11 = .ok (.iload_n 1, 1) := by decide +kernel
theorem dX0_countOf_12 : decode cX0_countOf 12 = .ok (.iaload, 1) := by decide +kernel
theorem dX0_countOf_13 : decode cX0_countOf 13 = .ok (.goto 4, 3) := by decide +kernel
theorem dX0_countOf_16 : decode cX0_countOf 16 = .ok (.iconst 0, 1) := by decide +kernel
theorem dX0_countOf_17 : decode cX0_countOf 17 = .ok (.ireturn, 1) := by decide +kernel
theorem dX0_leastOf_0 : decode cX0_leastOf 0 = .ok (.iload_n 1, 1) := by decide +kernel
theorem dX0_leastOf_1 : decode cX0_leastOf 1 = .ok (.invokestatic 18, 3) := by decide +kernel
theorem dX0_leastOf_4 : decode cX0_leastOf 4 = .ok (.ifCond .eq 12, 3) := by decide +kernel
theorem dX0_leastOf_7 : decode cX0_leastOf 7 = .ok (.aload_n 0, 1) := by decide +kernel
theorem dX0_leastOf_8 : decode cX0_leastOf 8 = .ok (.getfield 15, 3) := by decide +kernel
theorem dX0_leastOf_11 : decode cX0_leastOf 11 = .ok (.iload_n 1, 1) := by decide +kernel
theorem dX0_leastOf_12 : decode cX0_leastOf 12 = .ok (.iaload, 1) := by decide +kernel
theorem dX0_leastOf_13 : decode cX0_leastOf 13 = .ok (.ifCond .ne 5, 3) := by decide +kernel
theorem dX0_leastOf_16 : decode cX0_leastOf 16 = .ok (.iconst (-1), 1) := by decide +kernel
theorem dX0_leastOf_17 : decode cX0_leastOf 17 = .ok (.ireturn, 1) := by decide +kernel
theorem dX0_leastOf_18 : decode cX0_leastOf 18 = .ok (.iconst 0, 1) := by decide +kernel
theorem dX0_leastOf_19 : decode cX0_leastOf 19 = .ok (.istore_n 2, 1) := by decide +kernel
theorem dX0_leastOf_20 : decode cX0_leastOf 20 = .ok (.iload_n 2, 1) := by decide +kernel
theorem dX0_leastOf_21 : decode cX0_leastOf 21 = .ok (.sipush 128, 3) := by decide +kernel
theorem dX0_leastOf_24 : decode cX0_leastOf 24 = .ok (.if_icmp .ge 24, 3) := by decide +kernel
theorem dX0_leastOf_27 : decode cX0_leastOf 27 = .ok (.aload_n 0, 1) := by decide +kernel
theorem dX0_leastOf_28 : decode cX0_leastOf 28 = .ok (.getfield 9, 3) := by decide +kernel
theorem dX0_leastOf_31 : decode cX0_leastOf 31 = .ok (.iload_n 2, 1) := by decide +kernel
theorem dX0_leastOf_32 : decode cX0_leastOf 32 = .ok (.iaload, 1) := by decide +kernel
theorem dX0_leastOf_33 : decode cX0_leastOf 33 = .ok (.iload_n 1, 1) := by decide +kernel
theorem dX0_leastOf_34 : decode cX0_leastOf 34 = .ok (.if_icmp .ne 5, 3) := by decide +kernel
theorem dX0_leastOf_37 : decode cX0_leastOf 37 = .ok (.iload_n 2, 1) := by decide +kernel
theorem dX0_leastOf_38 : decode cX0_leastOf 38 = .ok (.ireturn, 1) := by decide +kernel
theorem dX0_leastOf_39 : decode cX0_leastOf 39 = .ok (.iload_n 2, 1) := by decide +kernel
theorem dX0_leastOf_40 : decode cX0_leastOf 40 = .ok (.iconst 1, 1) := by decide +kernel
theorem dX0_leastOf_41 : decode cX0_leastOf 41 = .ok (.iload_n 1, 1) := by decide +kernel
theorem dX0_leastOf_42 : decode cX0_leastOf 42 = .ok (.ishl, 1) := by decide +kernel
theorem dX0_leastOf_43 : decode cX0_leastOf 43 = .ok (.iadd, 1) := by decide +kernel
theorem dX0_leastOf_44 : decode cX0_leastOf 44 = .ok (.istore_n 2, 1) := by decide +kernel
theorem dX0_leastOf_45 : decode cX0_leastOf 45 = .ok (.goto (-25), 3) := by decide +kernel
theorem dX0_leastOf_48 : decode cX0_leastOf 48 = .ok (.iconst (-1), 1) := by decide +kernel
theorem dX0_leastOf_49 : decode cX0_leastOf 49 = .ok (.ireturn, 1) := by decide +kernel
theorem dX0_takeBlock_0 : decode cX0_takeBlock 0 = .ok (.iload_n 1, 1) := by decide +kernel
theorem dX0_takeBlock_1 : decode cX0_takeBlock 1 = .ok (.istore_n 2, 1) := by decide +kernel
theorem dX0_takeBlock_2 : decode cX0_takeBlock 2 = .ok (.iload_n 2, 1) := by decide +kernel
theorem dX0_takeBlock_3 : decode cX0_takeBlock 3 = .ok (.bipush 7, 2) := by decide +kernel
theorem dX0_takeBlock_5 : decode cX0_takeBlock 5 = .ok (.if_icmp .gt 57, 3) := by decide +kernel
theorem dX0_takeBlock_8 : decode cX0_takeBlock 8 = .ok (.aload_n 0, 1) := by decide +kernel
theorem dX0_takeBlock_9 : decode cX0_takeBlock 9 = .ok (.iload_n 2, 1) := by decide +kernel
theorem dX0_takeBlock_10 : decode cX0_takeBlock 10 = .ok (.invokevirtual 22, 3) := by decide +kernel
theorem dX0_takeBlock_13 : decode cX0_takeBlock 13 = .ok (.istore_n 3, 1) := by decide +kernel
theorem dX0_takeBlock_14 : decode cX0_takeBlock 14 = .ok (.iload_n 3, 1) := by decide +kernel
theorem dX0_takeBlock_15 : decode cX0_takeBlock 15 = .ok (.iconst (-1), 1) := by decide +kernel
theorem dX0_takeBlock_16 : decode cX0_takeBlock 16 = .ok (.if_icmp .eq 40, 3) := by decide +kernel
theorem dX0_takeBlock_19 : decode cX0_takeBlock 19 = .ok (.aload_n 0, 1) := by decide +kernel
theorem dX0_takeBlock_20 : decode cX0_takeBlock 20 = .ok (.iload_n 3, 1) := by decide +kernel
theorem dX0_takeBlock_21 : decode cX0_takeBlock 21 = .ok (.iload_n 2, 1) := by decide +kernel
theorem dX0_takeBlock_22 : decode cX0_takeBlock 22 = .ok (.invokevirtual 26, 3) := by decide +kernel
theorem dX0_takeBlock_25 : decode cX0_takeBlock 25 = .ok (.iload_n 2, 1) := by decide +kernel
theorem dX0_takeBlock_26 : decode cX0_takeBlock 26 = .ok (.iconst 1, 1) := by decide +kernel
theorem dX0_takeBlock_27 : decode cX0_takeBlock 27 = .ok (.isub, 1) := by decide +kernel
theorem dX0_takeBlock_28 : decode cX0_takeBlock 28 = .ok (.istore 4, 2) := by decide +kernel
theorem dX0_takeBlock_30 : decode cX0_takeBlock 30 = .ok (.iload 4, 2) := by decide +kernel
theorem dX0_takeBlock_32 : decode cX0_takeBlock 32 = .ok (.iload_n 1, 1) := by decide +kernel
theorem dX0_takeBlock_33 : decode cX0_takeBlock 33 = .ok (.if_icmp .lt 21, 3) := by decide +kernel
theorem dX0_takeBlock_36 : decode cX0_takeBlock 36 = .ok (.aload_n 0, 1) := by decide +kernel
theorem dX0_takeBlock_37 : decode cX0_takeBlock 37 = .ok (.iload_n 3, 1) := by decide +kernel
theorem dX0_takeBlock_38 : decode cX0_takeBlock 38 = .ok (.iconst 1, 1) := by decide +kernel
theorem dX0_takeBlock_39 : decode cX0_takeBlock 39 = .ok (.iload 4, 2) := by decide +kernel
theorem dX0_takeBlock_41 : decode cX0_takeBlock 41 = .ok (.ishl, 1) := by decide +kernel
theorem dX0_takeBlock_42 : decode cX0_takeBlock 42 = .ok (.iadd, 1) := by decide +kernel
theorem dX0_takeBlock_43 : decode cX0_takeBlock 43 = .ok (.iload 4, 2) := by decide +kernel
theorem dX0_takeBlock_45 : decode cX0_takeBlock 45 = .ok (.invokevirtual 30, 3) := by decide +kernel
theorem dX0_takeBlock_48 : decode cX0_takeBlock 48 = .ok (.iinc 4 (-1), 3) := by decide +kernel
theorem dX0_takeBlock_51 : decode cX0_takeBlock 51 = .ok (.goto (-21), 3) := by decide +kernel
theorem dX0_takeBlock_54 : decode cX0_takeBlock 54 = .ok (.iload_n 3, 1) := by decide +kernel
theorem dX0_takeBlock_55 : decode cX0_takeBlock 55 = .ok (.ireturn, 1) := by decide +kernel
theorem dX0_takeBlock_56 : decode cX0_takeBlock 56 = .ok (.iinc 2 1, 3) := by decide +kernel
theorem dX0_takeBlock_59 : decode cX0_takeBlock 59 = .ok (.goto (-57), 3) := by decide +kernel
theorem dX0_takeBlock_62 : decode cX0_takeBlock 62 = .ok (.iconst (-1), 1) := by decide +kernel
theorem dX0_takeBlock_63 : decode cX0_takeBlock 63 = .ok (.ireturn, 1) := by decide +kernel
theorem dX0_giveBlock_0 : decode cX0_giveBlock 0 = .ok (.iload_n 1, 1) := by decide +kernel
theorem dX0_giveBlock_1 : decode cX0_giveBlock 1 = .ok (.istore_n 3, 1) := by decide +kernel
theorem dX0_giveBlock_2 : decode cX0_giveBlock 2 = .ok (.iload_n 2, 1) := by decide +kernel
theorem dX0_giveBlock_3 : decode cX0_giveBlock 3 = .ok (.istore 4, 2) := by decide +kernel
theorem dX0_giveBlock_5 : decode cX0_giveBlock 5 = .ok (.iload 4, 2) := by decide +kernel
theorem dX0_giveBlock_7 : decode cX0_giveBlock 7 = .ok (.bipush 7, 2) := by decide +kernel
theorem dX0_giveBlock_9 : decode cX0_giveBlock 9 = .ok (.if_icmp .ge 45, 3) := by decide +kernel
theorem dX0_giveBlock_12 : decode cX0_giveBlock 12 = .ok (.aload_n 0, 1) := by decide +kernel
theorem dX0_giveBlock_13 : decode cX0_giveBlock 13 = .ok (.iload_n 3, 1) := by decide +kernel
theorem dX0_giveBlock_14 : decode cX0_giveBlock 14 = .ok (.iconst 1, 1) := by decide +kernel
theorem dX0_giveBlock_15 : decode cX0_giveBlock 15 = .ok (.iload 4, 2) := by decide +kernel
theorem dX0_giveBlock_17 : decode cX0_giveBlock 17 = .ok (.ishl, 1) := by decide +kernel
theorem dX0_giveBlock_18 : decode cX0_giveBlock 18 = .ok (.ixor, 1) := by decide +kernel
theorem dX0_giveBlock_19 : decode cX0_giveBlock 19 = .ok (.iload 4, 2) := by decide +kernel
theorem dX0_giveBlock_21 : decode cX0_giveBlock 21 = .ok (.invokevirtual 33, 3) := by decide +kernel
theorem dX0_giveBlock_24 : decode cX0_giveBlock 24 = .ok (.ifCond .eq 30, 3) := by decide +kernel
theorem dX0_giveBlock_27 : decode cX0_giveBlock 27 = .ok (.aload_n 0, 1) := by decide +kernel
theorem dX0_giveBlock_28 : decode cX0_giveBlock 28 = .ok (.iload_n 3, 1) := by decide +kernel
theorem dX0_giveBlock_29 : decode cX0_giveBlock 29 = .ok (.iconst 1, 1) := by decide +kernel
theorem dX0_giveBlock_30 : decode cX0_giveBlock 30 = .ok (.iload 4, 2) := by decide +kernel
theorem dX0_giveBlock_32 : decode cX0_giveBlock 32 = .ok (.ishl, 1) := by decide +kernel
theorem dX0_giveBlock_33 : decode cX0_giveBlock 33 = .ok (.ixor, 1) := by decide +kernel
theorem dX0_giveBlock_34 : decode cX0_giveBlock 34 = .ok (.iload 4, 2) := by decide +kernel
theorem dX0_giveBlock_36 : decode cX0_giveBlock 36 = .ok (.invokevirtual 26, 3) := by decide +kernel
theorem dX0_giveBlock_39 : decode cX0_giveBlock 39 = .ok (.iload_n 3, 1) := by decide +kernel
theorem dX0_giveBlock_40 : decode cX0_giveBlock 40 = .ok (.iconst 1, 1) := by decide +kernel
theorem dX0_giveBlock_41 : decode cX0_giveBlock 41 = .ok (.iload 4, 2) := by decide +kernel
theorem dX0_giveBlock_43 : decode cX0_giveBlock 43 = .ok (.ishl, 1) := by decide +kernel
theorem dX0_giveBlock_44 : decode cX0_giveBlock 44 = .ok (.iconst (-1), 1) := by decide +kernel
theorem dX0_giveBlock_45 : decode cX0_giveBlock 45 = .ok (.ixor, 1) := by decide +kernel
theorem dX0_giveBlock_46 : decode cX0_giveBlock 46 = .ok (.iand, 1) := by decide +kernel
theorem dX0_giveBlock_47 : decode cX0_giveBlock 47 = .ok (.istore_n 3, 1) := by decide +kernel
theorem dX0_giveBlock_48 : decode cX0_giveBlock 48 = .ok (.iinc 4 1, 3) := by decide +kernel
theorem dX0_giveBlock_51 : decode cX0_giveBlock 51 = .ok (.goto (-46), 3) := by decide +kernel
theorem dX0_giveBlock_54 : decode cX0_giveBlock 54 = .ok (.aload_n 0, 1) := by decide +kernel
theorem dX0_giveBlock_55 : decode cX0_giveBlock 55 = .ok (.iload_n 3, 1) := by decide +kernel
theorem dX0_giveBlock_56 : decode cX0_giveBlock 56 = .ok (.iload 4, 2) := by decide +kernel
theorem dX0_giveBlock_58 : decode cX0_giveBlock 58 = .ok (.invokevirtual 30, 3) := by decide +kernel
theorem dX0_giveBlock_61 : decode cX0_giveBlock 61 = .ok (.return_, 1) := by decide +kernel
theorem dX0_isFreeBlock_0 : decode cX0_isFreeBlock 0 = .ok (.iload_n 1, 1) := by decide +kernel
theorem dX0_isFreeBlock_1 : decode cX0_isFreeBlock 1 = .ok (.invokestatic 37, 3) := by decide +kernel
theorem dX0_isFreeBlock_4 : decode cX0_isFreeBlock 4 = .ok (.ifCond .eq 17, 3) := by decide +kernel
theorem dX0_isFreeBlock_7 : decode cX0_isFreeBlock 7 = .ok (.aload_n 0, 1) := by decide +kernel
theorem dX0_isFreeBlock_8 : decode cX0_isFreeBlock 8 = .ok (.getfield 9, 3) := by decide +kernel
theorem dX0_isFreeBlock_11 : decode cX0_isFreeBlock 11 = .ok (.iload_n 1, 1) := by decide +kernel
theorem dX0_isFreeBlock_12 : decode cX0_isFreeBlock 12 = .ok (.iaload, 1) := by decide +kernel
theorem dX0_isFreeBlock_13 : decode cX0_isFreeBlock 13 = .ok (.iload_n 2, 1) := by decide +kernel
theorem dX0_isFreeBlock_14 : decode cX0_isFreeBlock 14 = .ok (.if_icmp .ne 7, 3) := by decide +kernel
theorem dX0_isFreeBlock_17 : decode cX0_isFreeBlock 17 = .ok (.iconst 1, 1) := by decide +kernel
theorem dX0_isFreeBlock_18 : decode cX0_isFreeBlock 18 = .ok (.goto 4, 3) := by decide +kernel
theorem dX0_isFreeBlock_21 : decode cX0_isFreeBlock 21 = .ok (.iconst 0, 1) := by decide +kernel
theorem dX0_isFreeBlock_22 : decode cX0_isFreeBlock 22 = .ok (.ireturn, 1) := by decide +kernel
theorem dX0_putIn_0 : decode cX0_putIn 0 = .ok (.iload_n 1, 1) := by decide +kernel
theorem dX0_putIn_1 : decode cX0_putIn 1 = .ok (.invokestatic 37, 3) := by decide +kernel
theorem dX0_putIn_4 : decode cX0_putIn 4 = .ok (.ifCond .eq 27, 3) := by decide +kernel
theorem dX0_putIn_7 : decode cX0_putIn 7 = .ok (.iload_n 2, 1) := by decide +kernel
theorem dX0_putIn_8 : decode cX0_putIn 8 = .ok (.invokestatic 18, 3) := by decide +kernel
theorem dX0_putIn_11 : decode cX0_putIn 11 = .ok (.ifCond .eq 20, 3) := by decide +kernel
theorem dX0_putIn_14 : decode cX0_putIn 14 = .ok (.aload_n 0, 1) := by decide +kernel
theorem dX0_putIn_15 : decode cX0_putIn 15 = .ok (.getfield 9, 3) := by decide +kernel
theorem dX0_putIn_18 : decode cX0_putIn 18 = .ok (.iload_n 1, 1) := by decide +kernel
theorem dX0_putIn_19 : decode cX0_putIn 19 = .ok (.iload_n 2, 1) := by decide +kernel
theorem dX0_putIn_20 : decode cX0_putIn 20 = .ok (.iastore, 1) := by decide +kernel
theorem dX0_putIn_21 : decode cX0_putIn 21 = .ok (.aload_n 0, 1) := by decide +kernel
theorem dX0_putIn_22 : decode cX0_putIn 22 = .ok (.getfield 15, 3) := by decide +kernel
theorem dX0_putIn_25 : decode cX0_putIn 25 = .ok (.iload_n 2, 1) := by decide +kernel
theorem dX0_putIn_26 : decode cX0_putIn 26 = .ok (.dup2, 1) := by decide +kernel
theorem dX0_putIn_27 : decode cX0_putIn 27 = .ok (.iaload, 1) := by decide +kernel
theorem dX0_putIn_28 : decode cX0_putIn 28 = .ok (.iconst 1, 1) := by decide +kernel
theorem dX0_putIn_29 : decode cX0_putIn 29 = .ok (.iadd, 1) := by decide +kernel
theorem dX0_putIn_30 : decode cX0_putIn 30 = .ok (.iastore, 1) := by decide +kernel
theorem dX0_putIn_31 : decode cX0_putIn 31 = .ok (.return_, 1) := by decide +kernel
theorem dX0_leaveOut_0 : decode cX0_leaveOut 0 = .ok (.iload_n 1, 1) := by decide +kernel
theorem dX0_leaveOut_1 : decode cX0_leaveOut 1 = .ok (.invokestatic 37, 3) := by decide +kernel
theorem dX0_leaveOut_4 : decode cX0_leaveOut 4 = .ok (.ifCond .eq 27, 3) := by decide +kernel
theorem dX0_leaveOut_7 : decode cX0_leaveOut 7 = .ok (.iload_n 2, 1) := by decide +kernel
theorem dX0_leaveOut_8 : decode cX0_leaveOut 8 = .ok (.invokestatic 18, 3) := by decide +kernel
theorem dX0_leaveOut_11 : decode cX0_leaveOut 11 = .ok (.ifCond .eq 20, 3) := by decide +kernel
theorem dX0_leaveOut_14 : decode cX0_leaveOut 14 = .ok (.aload_n 0, 1) := by decide +kernel
theorem dX0_leaveOut_15 : decode cX0_leaveOut 15 = .ok (.getfield 9, 3) := by decide +kernel
theorem dX0_leaveOut_18 : decode cX0_leaveOut 18 = .ok (.iload_n 1, 1) := by decide +kernel
theorem dX0_leaveOut_19 : decode cX0_leaveOut 19 = .ok (.iconst (-1), 1) := by decide +kernel
theorem dX0_leaveOut_20 : decode cX0_leaveOut 20 = .ok (.iastore, 1) := by decide +kernel
theorem dX0_leaveOut_21 : decode cX0_leaveOut 21 = .ok (.aload_n 0, 1) := by decide +kernel
theorem dX0_leaveOut_22 : decode cX0_leaveOut 22 = .ok (.getfield 15, 3) := by decide +kernel
theorem dX0_leaveOut_25 : decode cX0_leaveOut 25 = .ok (.iload_n 2, 1) := by decide +kernel
theorem dX0_leaveOut_26 : decode cX0_leaveOut 26 = .ok (.dup2, 1) := by decide +kernel
theorem dX0_leaveOut_27 : decode cX0_leaveOut 27 = .ok (.iaload, 1) := by decide +kernel
theorem dX0_leaveOut_28 : decode cX0_leaveOut 28 = .ok (.iconst 1, 1) := by decide +kernel
theorem dX0_leaveOut_29 : decode cX0_leaveOut 29 = .ok (.isub, 1) := by decide +kernel
theorem dX0_leaveOut_30 : decode cX0_leaveOut 30 = .ok (.iastore, 1) := by decide +kernel
theorem dX0_leaveOut_31 : decode cX0_leaveOut 31 = .ok (.return_, 1) := by decide +kernel
theorem dX1_init_0 : decode cX1_init 0 = .ok (.aload_n 0, 1) := by decide +kernel
theorem dX1_init_1 : decode cX1_init 1 = .ok (.invokespecial 3, 3) := by decide +kernel
theorem dX1_init_4 : decode cX1_init 4 = .ok (.aload_n 0, 1) := by decide +kernel
theorem dX1_init_5 : decode cX1_init 5 = .ok (.aload_n 1, 1) := by decide +kernel
theorem dX1_init_6 : decode cX1_init 6 = .ok (.putfield 9, 3) := by decide +kernel
theorem dX1_init_9 : decode cX1_init 9 = .ok (.aload_n 0, 1) := by decide +kernel
theorem dX1_init_10 : decode cX1_init 10 = .ok (.sipush 128, 3) := by decide +kernel
theorem dX1_init_13 : decode cX1_init 13 = .ok (.newarray .int, 2) := by decide +kernel
theorem dX1_init_15 : decode cX1_init 15 = .ok (.putfield 15, 3) := by decide +kernel
theorem dX1_init_18 : decode cX1_init 18 = .ok (.return_, 1) := by decide +kernel
theorem dX1_countIn_0 : decode cX1_countIn 0 = .ok (.iload_n 1, 1) := by decide +kernel
theorem dX1_countIn_1 : decode cX1_countIn 1 = .ok (.invokestatic 19, 3) := by decide +kernel
theorem dX1_countIn_4 : decode cX1_countIn 4 = .ok (.ifCond .eq 15, 3) := by decide +kernel
theorem dX1_countIn_7 : decode cX1_countIn 7 = .ok (.aload_n 0, 1) := by decide +kernel
theorem dX1_countIn_8 : decode cX1_countIn 8 = .ok (.getfield 15, 3) := by decide +kernel
theorem dX1_countIn_11 : decode cX1_countIn 11 = .ok (.iload_n 1, 1) := by decide +kernel
theorem dX1_countIn_12 : decode cX1_countIn 12 = .ok (.iaload, 1) := by decide +kernel
theorem dX1_countIn_13 : decode cX1_countIn 13 = .ok (.invokestatic 23, 3) := by decide +kernel
theorem dX1_countIn_16 : decode cX1_countIn 16 = .ok (.goto 4, 3) := by decide +kernel
theorem dX1_countIn_19 : decode cX1_countIn 19 = .ok (.iconst 0, 1) := by decide +kernel
theorem dX1_countIn_20 : decode cX1_countIn 20 = .ok (.ireturn, 1) := by decide +kernel
theorem dX1_takePlace_0 : decode cX1_takePlace 0 = .ok (.aload_n 0, 1) := by decide +kernel
theorem dX1_takePlace_1 : decode cX1_takePlace 1 = .ok (.invokevirtual 29, 3) := by decide +kernel
theorem dX1_takePlace_4 : decode cX1_takePlace 4 = .ok (.istore_n 1, 1) := by decide +kernel
theorem dX1_takePlace_5 : decode cX1_takePlace 5 = .ok (.iload_n 1, 1) := by decide +kernel
theorem dX1_takePlace_6 : decode cX1_takePlace 6 = .ok (.iconst (-1), 1) := by decide +kernel
theorem dX1_takePlace_7 : decode cX1_takePlace 7 = .ok (.if_icmp .ne 12, 3) := by decide +kernel
theorem dX1_takePlace_10 : decode cX1_takePlace 10 = .ok (.aload_n 0, 1) := by decide +kernel
theorem dX1_takePlace_11 : decode cX1_takePlace 11 = .ok (.getfield 9, 3) := by decide +kernel
theorem dX1_takePlace_14 : decode cX1_takePlace 14 = .ok (.iconst 0, 1) := by decide +kernel
theorem dX1_takePlace_15 : decode cX1_takePlace 15 = .ok (.invokevirtual 33, 3) := by decide +kernel
theorem dX1_takePlace_18 : decode cX1_takePlace 18 = .ok (.istore_n 1, 1) := by decide +kernel
theorem dX1_takePlace_19 : decode cX1_takePlace 19 = .ok (.iload_n 1, 1) := by decide +kernel
theorem dX1_takePlace_20 : decode cX1_takePlace 20 = .ok (.invokestatic 19, 3) := by decide +kernel
theorem dX1_takePlace_23 : decode cX1_takePlace 23 = .ok (.ifCond .ne 5, 3) := by decide +kernel
theorem dX1_takePlace_26 : decode cX1_takePlace 26 = .ok (.iconst (-1), 1) := by decide +kernel
theorem dX1_takePlace_27 : decode cX1_takePlace 27 = .ok (.ireturn, 1) := by decide +kernel
theorem dX1_takePlace_28 : decode cX1_takePlace 28 = .ok (.iconst 0, 1) := by decide +kernel
theorem dX1_takePlace_29 : decode cX1_takePlace 29 = .ok (.istore_n 2, 1) := by decide +kernel
theorem dX1_takePlace_30 : decode cX1_takePlace 30 = .ok (.iload_n 2, 1) := by decide +kernel
theorem dX1_takePlace_31 : decode cX1_takePlace 31 = .ok (.iconst 4, 1) := by decide +kernel
theorem dX1_takePlace_32 : decode cX1_takePlace 32 = .ok (.if_icmp .ge 40, 3) := by decide +kernel
theorem dX1_takePlace_35 : decode cX1_takePlace 35 = .ok (.aload_n 0, 1) := by decide +kernel
theorem dX1_takePlace_36 : decode cX1_takePlace 36 = .ok (.getfield 15, 3) := by decide +kernel
theorem dX1_takePlace_39 : decode cX1_takePlace 39 = .ok (.iload_n 1, 1) := by decide +kernel
theorem dX1_takePlace_40 : decode cX1_takePlace 40 = .ok (.iaload, 1) := by decide +kernel
theorem dX1_takePlace_41 : decode cX1_takePlace 41 = .ok (.iconst 1, 1) := by decide +kernel
theorem dX1_takePlace_42 : decode cX1_takePlace 42 = .ok (.iload_n 2, 1) := by decide +kernel
theorem dX1_takePlace_43 : decode cX1_takePlace 43 = .ok (.ishl, 1) := by decide +kernel
theorem dX1_takePlace_44 : decode cX1_takePlace 44 = .ok (.iand, 1) := by decide +kernel
theorem dX1_takePlace_45 : decode cX1_takePlace 45 = .ok (.ifCond .ne 21, 3) := by decide +kernel
theorem dX1_takePlace_48 : decode cX1_takePlace 48 = .ok (.aload_n 0, 1) := by decide +kernel
theorem dX1_takePlace_49 : decode cX1_takePlace 49 = .ok (.getfield 15, 3) := by decide +kernel
theorem dX1_takePlace_52 : decode cX1_takePlace 52 = .ok (.iload_n 1, 1) := by decide +kernel
theorem dX1_takePlace_53 : decode cX1_takePlace 53 = .ok (.dup2, 1) := by decide +kernel
theorem dX1_takePlace_54 : decode cX1_takePlace 54 = .ok (.iaload, 1) := by decide +kernel
theorem dX1_takePlace_55 : decode cX1_takePlace 55 = .ok (.iconst 1, 1) := by decide +kernel
theorem dX1_takePlace_56 : decode cX1_takePlace 56 = .ok (.iload_n 2, 1) := by decide +kernel
theorem dX1_takePlace_57 : decode cX1_takePlace 57 = .ok (.ishl, 1) := by decide +kernel
theorem dX1_takePlace_58 : decode cX1_takePlace 58 = .ok (.ior, 1) := by decide +kernel
theorem dX1_takePlace_59 : decode cX1_takePlace 59 = .ok (.iastore, 1) := by decide +kernel
theorem dX1_takePlace_60 : decode cX1_takePlace 60 = .ok (.iload_n 1, 1) := by decide +kernel
theorem dX1_takePlace_61 : decode cX1_takePlace 61 = .ok (.iconst 4, 1) := by decide +kernel
theorem dX1_takePlace_62 : decode cX1_takePlace 62 = .ok (.imul, 1) := by decide +kernel
theorem dX1_takePlace_63 : decode cX1_takePlace 63 = .ok (.iload_n 2, 1) := by decide +kernel
theorem dX1_takePlace_64 : decode cX1_takePlace 64 = .ok (.iadd, 1) := by decide +kernel
theorem dX1_takePlace_65 : decode cX1_takePlace 65 = .ok (.ireturn, 1) := by decide +kernel
theorem dX1_takePlace_66 : decode cX1_takePlace 66 = .ok (.iinc 2 1, 3) := by decide +kernel
theorem dX1_takePlace_69 : decode cX1_takePlace 69 = .ok (.goto (-39), 3) := by decide +kernel
theorem dX1_takePlace_72 : decode cX1_takePlace 72 = .ok (.iconst (-1), 1) := by decide +kernel
theorem dX1_takePlace_73 : decode cX1_takePlace 73 = .ok (.ireturn, 1) := by decide +kernel
theorem dX1_givePlace_0 : decode cX1_givePlace 0 = .ok (.iload_n 1, 1) := by decide +kernel
theorem dX1_givePlace_1 : decode cX1_givePlace 1 = .ok (.iconst 4, 1) := by decide +kernel
theorem dX1_givePlace_2 : decode cX1_givePlace 2 = .ok (.idiv, 1) := by decide +kernel
theorem dX1_givePlace_3 : decode cX1_givePlace 3 = .ok (.istore_n 2, 1) := by decide +kernel
theorem dX1_givePlace_4 : decode cX1_givePlace 4 = .ok (.iload_n 1, 1) := by decide +kernel
theorem dX1_givePlace_5 : decode cX1_givePlace 5 = .ok (.ifCond .lt 10, 3) := by decide +kernel
theorem dX1_givePlace_8 : decode cX1_givePlace 8 = .ok (.iload_n 2, 1) := by decide +kernel
theorem dX1_givePlace_9 : decode cX1_givePlace 9 = .ok (.invokestatic 19, 3) := by decide +kernel
theorem dX1_givePlace_12 : decode cX1_givePlace 12 = .ok (.ifCond .ne 4, 3) := by decide +kernel
theorem dX1_givePlace_15 : decode cX1_givePlace 15 = .ok (.return_, 1) := by decide +kernel
theorem dX1_givePlace_16 : decode cX1_givePlace 16 = .ok (.aload_n 0, 1) := by decide +kernel
theorem dX1_givePlace_17 : decode cX1_givePlace 17 = .ok (.getfield 15, 3) := by decide +kernel
theorem dX1_givePlace_20 : decode cX1_givePlace 20 = .ok (.iload_n 2, 1) := by decide +kernel
theorem dX1_givePlace_21 : decode cX1_givePlace 21 = .ok (.dup2, 1) := by decide +kernel
theorem dX1_givePlace_22 : decode cX1_givePlace 22 = .ok (.iaload, 1) := by decide +kernel
theorem dX1_givePlace_23 : decode cX1_givePlace 23 = .ok (.iconst 1, 1) := by decide +kernel
theorem dX1_givePlace_24 : decode cX1_givePlace 24 = .ok (.iload_n 1, 1) := by decide +kernel
theorem dX1_givePlace_25 : decode cX1_givePlace 25 = .ok (.iconst 4, 1) := by decide +kernel
theorem dX1_givePlace_26 : decode cX1_givePlace 26 = .ok (.irem, 1) := by decide +kernel
theorem dX1_givePlace_27 : decode cX1_givePlace 27 = .ok (.ishl, 1) := by decide +kernel
theorem dX1_givePlace_28 : decode cX1_givePlace 28 = .ok (.iconst (-1), 1) := by decide +kernel
theorem dX1_givePlace_29 : decode cX1_givePlace 29 = .ok (.ixor, 1) := by decide +kernel
theorem dX1_givePlace_30 : decode cX1_givePlace 30 = .ok (.iand, 1) := by decide +kernel
theorem dX1_givePlace_31 : decode cX1_givePlace 31 = .ok (.iastore, 1) := by decide +kernel
theorem dX1_givePlace_32 : decode cX1_givePlace 32 = .ok (.aload_n 0, 1) := by decide +kernel
theorem dX1_givePlace_33 : decode cX1_givePlace 33 = .ok (.getfield 15, 3) := by decide +kernel
theorem dX1_givePlace_36 : decode cX1_givePlace 36 = .ok (.iload_n 2, 1) := by decide +kernel
theorem dX1_givePlace_37 : decode cX1_givePlace 37 = .ok (.iaload, 1) := by decide +kernel
theorem dX1_givePlace_38 : decode cX1_givePlace 38 = .ok (.ifCond .ne 12, 3) := by decide +kernel
theorem dX1_givePlace_41 : decode cX1_givePlace 41 = .ok (.aload_n 0, 1) := by decide +kernel
theorem dX1_givePlace_42 : decode cX1_givePlace 42 = .ok (.getfield 9, 3) := by decide +kernel
theorem dX1_givePlace_45 : decode cX1_givePlace 45 = .ok (.iload_n 2, 1) := by decide +kernel
theorem dX1_givePlace_46 : decode cX1_givePlace 46 = .ok (.iconst 0, 1) := by decide +kernel
theorem dX1_givePlace_47 : decode cX1_givePlace 47 = .ok (.invokevirtual 38, 3) := by decide +kernel
theorem dX1_givePlace_50 : decode cX1_givePlace 50 = .ok (.return_, 1) := by decide +kernel
theorem dX1_leastWithRoom_0 : decode cX1_leastWithRoom 0 = .ok (.iconst 0, 1) := by decide +kernel
theorem dX1_leastWithRoom_1 : decode cX1_leastWithRoom 1 = .ok (.istore_n 1, 1) := by decide +kernel
theorem dX1_leastWithRoom_2 : decode cX1_leastWithRoom 2 = .ok (.iload_n 1, 1) := by decide +kernel
theorem dX1_leastWithRoom_3 : decode cX1_leastWithRoom 3 = .ok (.sipush 128, 3) := by decide +kernel
theorem dX1_leastWithRoom_6 : decode cX1_leastWithRoom 6 = .ok (.if_icmp .ge 31, 3) := by decide +kernel
theorem dX1_leastWithRoom_9 : decode cX1_leastWithRoom 9 = .ok (.aload_n 0, 1) := by decide +kernel
theorem dX1_leastWithRoom_10 : decode cX1_leastWithRoom 10 = .ok (.getfield 15, 3) := by decide +kernel
theorem dX1_leastWithRoom_13 : decode cX1_leastWithRoom 13 = .ok (.iload_n 1, 1) := by decide +kernel
theorem dX1_leastWithRoom_14 : decode cX1_leastWithRoom 14 = .ok (.iaload, 1) := by decide +kernel
theorem dX1_leastWithRoom_15 : decode cX1_leastWithRoom 15 = .ok (.ifCond .eq 16, 3) := by decide +kernel
theorem dX1_leastWithRoom_18 : decode cX1_leastWithRoom 18 = .ok (.aload_n 0, 1) := by decide +kernel
theorem dX1_leastWithRoom_19 : decode cX1_leastWithRoom 19 = .ok (.getfield 15, 3) := by decide +kernel
theorem dX1_leastWithRoom_22 : decode cX1_leastWithRoom 22 = .ok (.iload_n 1, 1) := by decide +kernel
theorem dX1_leastWithRoom_23 : decode cX1_leastWithRoom 23 = .ok (.iaload, 1) := by decide +kernel
theorem dX1_leastWithRoom_24 : decode cX1_leastWithRoom 24 = .ok (.bipush 15, 2) := by decide +kernel
theorem dX1_leastWithRoom_26 : decode cX1_leastWithRoom 26 = .ok (.if_icmp .eq 5, 3) := by decide +kernel
theorem dX1_leastWithRoom_29 : decode cX1_leastWithRoom 29 = .ok (.iload_n 1, 1) := by decide +kernel
theorem dX1_leastWithRoom_30 : decode cX1_leastWithRoom 30 = .ok (.ireturn, 1) := by decide +kernel
theorem dX1_leastWithRoom_31 : decode cX1_leastWithRoom 31 = .ok (.iinc 1 1, 3) := by decide +kernel
theorem dX1_leastWithRoom_34 : decode cX1_leastWithRoom 34 = .ok (.goto (-32), 3) := by decide +kernel
theorem dX1_leastWithRoom_37 : decode cX1_leastWithRoom 37 = .ok (.iconst (-1), 1) := by decide +kernel
theorem dX1_leastWithRoom_38 : decode cX1_leastWithRoom 38 = .ok (.ireturn, 1) := by decide +kernel
theorem dJ6_bitCount_0f7a4_0 : decode cJ6_bitCount_0f7a4 0 = .ok (.iload_n 0, 1) := by decide +kernel
theorem dJ6_bitCount_0f7a4_1 : decode cJ6_bitCount_0f7a4 1 = .ok (.iload_n 0, 1) := by decide +kernel
theorem dJ6_bitCount_0f7a4_2 : decode cJ6_bitCount_0f7a4 2 = .ok (.iconst 1, 1) := by decide +kernel
theorem dJ6_bitCount_0f7a4_3 : decode cJ6_bitCount_0f7a4 3 = .ok (.iushr, 1) := by decide +kernel
theorem dJ6_bitCount_0f7a4_4 : decode cJ6_bitCount_0f7a4 4 = .ok (.ldc_w 265, 3) := by decide +kernel
theorem dJ6_bitCount_0f7a4_7 : decode cJ6_bitCount_0f7a4 7 = .ok (.iand, 1) := by decide +kernel
theorem dJ6_bitCount_0f7a4_8 : decode cJ6_bitCount_0f7a4 8 = .ok (.isub, 1) := by decide +kernel
theorem dJ6_bitCount_0f7a4_9 : decode cJ6_bitCount_0f7a4 9 = .ok (.istore_n 0, 1) := by decide +kernel
theorem dJ6_bitCount_0f7a4_10 : decode cJ6_bitCount_0f7a4 10 = .ok (.iload_n 0, 1) := by decide +kernel
theorem dJ6_bitCount_0f7a4_11 : decode cJ6_bitCount_0f7a4 11 = .ok (.ldc_w 266, 3) := by decide +kernel
theorem dJ6_bitCount_0f7a4_14 : decode cJ6_bitCount_0f7a4 14 = .ok (.iand, 1) := by decide +kernel
theorem dJ6_bitCount_0f7a4_15 : decode cJ6_bitCount_0f7a4 15 = .ok (.iload_n 0, 1) := by decide +kernel
theorem dJ6_bitCount_0f7a4_16 : decode cJ6_bitCount_0f7a4 16 = .ok (.iconst 2, 1) := by decide +kernel
theorem dJ6_bitCount_0f7a4_17 : decode cJ6_bitCount_0f7a4 17 = .ok (.iushr, 1) := by decide +kernel
theorem dJ6_bitCount_0f7a4_18 : decode cJ6_bitCount_0f7a4 18 = .ok (.ldc_w 266, 3) := by decide +kernel
theorem dJ6_bitCount_0f7a4_21 : decode cJ6_bitCount_0f7a4 21 = .ok (.iand, 1) := by decide +kernel
theorem dJ6_bitCount_0f7a4_22 : decode cJ6_bitCount_0f7a4 22 = .ok (.iadd, 1) := by decide +kernel
theorem dJ6_bitCount_0f7a4_23 : decode cJ6_bitCount_0f7a4 23 = .ok (.istore_n 0, 1) := by decide +kernel
theorem dJ6_bitCount_0f7a4_24 : decode cJ6_bitCount_0f7a4 24 = .ok (.iload_n 0, 1) := by decide +kernel
theorem dJ6_bitCount_0f7a4_25 : decode cJ6_bitCount_0f7a4 25 = .ok (.iload_n 0, 1) := by decide +kernel
theorem dJ6_bitCount_0f7a4_26 : decode cJ6_bitCount_0f7a4 26 = .ok (.iconst 4, 1) := by decide +kernel
theorem dJ6_bitCount_0f7a4_27 : decode cJ6_bitCount_0f7a4 27 = .ok (.iushr, 1) := by decide +kernel
theorem dJ6_bitCount_0f7a4_28 : decode cJ6_bitCount_0f7a4 28 = .ok (.iadd, 1) := by decide +kernel
theorem dJ6_bitCount_0f7a4_29 : decode cJ6_bitCount_0f7a4 29 = .ok (.ldc_w 267, 3) := by decide +kernel
theorem dJ6_bitCount_0f7a4_32 : decode cJ6_bitCount_0f7a4 32 = .ok (.iand, 1) := by decide +kernel
theorem dJ6_bitCount_0f7a4_33 : decode cJ6_bitCount_0f7a4 33 = .ok (.istore_n 0, 1) := by decide +kernel
theorem dJ6_bitCount_0f7a4_34 : decode cJ6_bitCount_0f7a4 34 = .ok (.iload_n 0, 1) := by decide +kernel
theorem dJ6_bitCount_0f7a4_35 : decode cJ6_bitCount_0f7a4 35 = .ok (.iload_n 0, 1) := by decide +kernel
theorem dJ6_bitCount_0f7a4_36 : decode cJ6_bitCount_0f7a4 36 = .ok (.bipush 8, 2) := by decide +kernel
theorem dJ6_bitCount_0f7a4_38 : decode cJ6_bitCount_0f7a4 38 = .ok (.iushr, 1) := by decide +kernel
theorem dJ6_bitCount_0f7a4_39 : decode cJ6_bitCount_0f7a4 39 = .ok (.iadd, 1) := by decide +kernel
theorem dJ6_bitCount_0f7a4_40 : decode cJ6_bitCount_0f7a4 40 = .ok (.istore_n 0, 1) := by decide +kernel
theorem dJ6_bitCount_0f7a4_41 : decode cJ6_bitCount_0f7a4 41 = .ok (.iload_n 0, 1) := by decide +kernel
theorem dJ6_bitCount_0f7a4_42 : decode cJ6_bitCount_0f7a4 42 = .ok (.iload_n 0, 1) := by decide +kernel
theorem dJ6_bitCount_0f7a4_43 : decode cJ6_bitCount_0f7a4 43 = .ok (.bipush 16, 2) := by decide +kernel
theorem dJ6_bitCount_0f7a4_45 : decode cJ6_bitCount_0f7a4 45 = .ok (.iushr, 1) := by decide +kernel
theorem dJ6_bitCount_0f7a4_46 : decode cJ6_bitCount_0f7a4 46 = .ok (.iadd, 1) := by decide +kernel
theorem dJ6_bitCount_0f7a4_47 : decode cJ6_bitCount_0f7a4 47 = .ok (.istore_n 0, 1) := by decide +kernel
theorem dJ6_bitCount_0f7a4_48 : decode cJ6_bitCount_0f7a4 48 = .ok (.iload_n 0, 1) := by decide +kernel
theorem dJ6_bitCount_0f7a4_49 : decode cJ6_bitCount_0f7a4 49 = .ok (.bipush 63, 2) := by decide +kernel
theorem dJ6_bitCount_0f7a4_51 : decode cJ6_bitCount_0f7a4 51 = .ok (.iand, 1) := by decide +kernel
theorem dJ6_bitCount_0f7a4_52 : decode cJ6_bitCount_0f7a4 52 = .ok (.ireturn, 1) := by decide +kernel
