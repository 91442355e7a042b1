theorem dX7_init_0 : decode cX7_init 0 = .ok (.aload_n 0, 1) := by decide +kernel
theorem dX7_init_1 : decode cX7_init 1 = .ok (.invokespecial 1, 3) := by decide +kernel
theorem dX7_init_4 : decode cX7_init 4 = .ok (.aload_n 0, 1) := by decide +kernel
theorem dX7_init_5 : decode cX7_init 5 = .ok (.new 7, 3) := by decide +kernel
theorem dX7_init_8 : decode cX7_init 8 = .ok (.dup, 1) := by decide +kernel
theorem dX7_init_9 : decode cX7_init 9 = .ok (.invokespecial 9, 3) := by decide +kernel
theorem dX7_init_12 : decode cX7_init 12 = .ok (.putfield 10, 3) := by decide +kernel
theorem dX7_init_15 : decode cX7_init 15 = .ok (.aload_n 0, 1) := by decide +kernel
theorem dX7_init_16 : decode cX7_init 16 = .ok (.new 7, 3) := by decide +kernel
theorem dX7_init_19 : decode cX7_init 19 = .ok (.dup, 1) := by decide +kernel
theorem dX7_init_20 : decode cX7_init 20 = .ok (.invokespecial 9, 3) := by decide +kernel
theorem dX7_init_23 : decode cX7_init 23 = .ok (.putfield 16, 3) := by decide +kernel
theorem dX7_init_26 : decode cX7_init 26 = .ok (.aload_n 0, 1) := by decide +kernel
theorem dX7_init_27 : decode cX7_init 27 = .ok (.new 19, 3) := by decide +kernel
theorem dX7_init_30 : decode cX7_init 30 = .ok (.dup, 1) := by decide +kernel
theorem dX7_init_31 : decode cX7_init 31 = .ok (.invokespecial 21, 3) := by decide +kernel
theorem dX7_init_34 : decode cX7_init 34 = .ok (.putfield 22, 3) := by decide +kernel
theorem dX7_init_37 : decode cX7_init 37 = .ok (.aload_n 0, 1) := by decide +kernel
theorem dX7_init_38 : decode cX7_init 38 = .ok (.new 26, 3) := by decide +kernel
theorem dX7_init_41 : decode cX7_init 41 = .ok (.dup, 1) := by decide +kernel
theorem dX7_init_42 : decode cX7_init 42 = .ok (.invokespecial 28, 3) := by decide +kernel
theorem dX7_init_45 : decode cX7_init 45 = .ok (.putfield 29, 3) := by decide +kernel
theorem dX7_init_48 : decode cX7_init 48 = .ok (.aload_n 0, 1) := by decide +kernel
theorem dX7_init_49 : decode cX7_init 49 = .ok (.new 33, 3) := by decide +kernel
theorem dX7_init_52 : decode cX7_init 52 = .ok (.dup, 1) := by decide +kernel
theorem dX7_init_53 : decode cX7_init 53 = .ok (.invokespecial 35, 3) := by decide +kernel
theorem dX7_init_56 : decode cX7_init 56 = .ok (.putfield 36, 3) := by decide +kernel
theorem dX7_init_59 : decode cX7_init 59 = .ok (.aload_n 0, 1) := by decide +kernel
theorem dX7_init_60 : decode cX7_init 60 = .ok (.new 40, 3) := by decide +kernel
theorem dX7_init_63 : decode cX7_init 63 = .ok (.dup, 1) := by decide +kernel
theorem dX7_init_64 : decode cX7_init 64 = .ok (.invokespecial 42, 3) := by decide +kernel
theorem dX7_init_67 : decode cX7_init 67 = .ok (.putfield 43, 3) := by decide +kernel
theorem dX7_init_70 : decode cX7_init 70 = .ok (.aload_n 0, 1) := by decide +kernel
theorem dX7_init_71 : decode cX7_init 71 = .ok (.new 47, 3) := by decide +kernel
theorem dX7_init_74 : decode cX7_init 74 = .ok (.dup, 1) := by decide +kernel
theorem dX7_init_75 : decode cX7_init 75 = .ok (.invokespecial 49, 3) := by decide +kernel
theorem dX7_init_78 : decode cX7_init 78 = .ok (.putfield 50, 3) := by decide +kernel
theorem dX7_init_81 : decode cX7_init 81 = .ok (.aload_n 0, 1) := by decide +kernel
theorem dX7_init_82 : decode cX7_init 82 = .ok (.new 54, 3) := by decide +kernel
theorem dX7_init_85 : decode cX7_init 85 = .ok (.dup, 1) := by decide +kernel
theorem dX7_init_86 : decode cX7_init 86 = .ok (.invokespecial 56, 3) := by decide +kernel
theorem dX7_init_89 : decode cX7_init 89 = .ok (.putfield 57, 3) := by decide +kernel
theorem dX7_init_92 : decode cX7_init 92 = .ok (.return_, 1) := by decide +kernel
theorem dX7_part_0 : decode cX7_part 0 = .ok (.iload_n 1, 1) := by decide +kernel
theorem dX7_part_1 : decode cX7_part 1 = .ok (.ifCond .lt 9, 3) := by decide +kernel
theorem dX7_part_4 : decode cX7_part 4 = .ok (.iload_n 1, 1) := by decide +kernel
theorem dX7_part_5 : decode cX7_part 5 = .ok (.bipush 32, 2) := by decide +kernel
theorem dX7_part_7 : decode cX7_part 7 = .ok (.if_icmp .lt 13, 3) := by decide +kernel
theorem dX7_part_10 : decode cX7_part 10 = .ok (.new 61, 3) := by decide +kernel
theorem dX7_part_13 : decode cX7_part 13 = .ok (.dup, 1) := by decide +kernel
theorem dX7_part_14 : decode cX7_part 14 = .ok (.ldc 63, 2) := by decide +kernel
theorem dX7_part_16 : decode cX7_part 16 = .ok (.invokespecial 65, 3) := by decide +kernel
theorem dX7_part_19 : decode cX7_part 19 = .ok (.athrow, 1) := by decide +kernel
theorem dX7_part_20 : decode cX7_part 20 = .ok (.aload_n 0, 1) := by decide +kernel
theorem dX7_part_21 : decode cX7_part 21 = .ok (.getfield 10, 3) := by decide +kernel
theorem dX7_part_24 : decode cX7_part 24 = .ok (.iload_n 1, 1) := by decide +kernel
theorem dX7_part_25 : decode cX7_part 25 = .ok (.putfield 68, 3) := by decide +kernel
theorem dX7_part_28 : decode cX7_part 28 = .ok (.aload_n 0, 1) := by decide +kernel
theorem dX7_part_29 : decode cX7_part 29 = .ok (.getfield 22, 3) := by decide +kernel
theorem dX7_part_32 : decode cX7_part 32 = .ok (.iconst 0, 1) := by decide +kernel
theorem dX7_part_33 : decode cX7_part 33 = .ok (.iload_n 1, 1) := by decide +kernel
theorem dX7_part_34 : decode cX7_part 34 = .ok (.iconst 0, 1) := by decide +kernel
theorem dX7_part_35 : decode cX7_part 35 = .ok (.invokevirtual 72, 3) := by decide +kernel
theorem dX7_part_38 : decode cX7_part 38 = .ok (.iload_n 1, 1) := by decide +kernel
theorem dX7_part_39 : decode cX7_part 39 = .ok (.invokestatic 76, 3) := by decide +kernel
theorem dX7_part_42 : decode cX7_part 42 = .ok (.istore_n 2, 1) := by decide +kernel
theorem dX7_part_43 : decode cX7_part 43 = .ok (.iload_n 2, 1) := by decide +kernel
theorem dX7_part_44 : decode cX7_part 44 = .ok (.iconst 5, 1) := by decide +kernel
theorem dX7_part_45 : decode cX7_part 45 = .ok (.iload_n 2, 1) := by decide +kernel
theorem dX7_part_46 : decode cX7_part 46 = .ok (.isub, 1) := by decide +kernel
theorem dX7_part_47 : decode cX7_part 47 = .ok (.imul, 1) := by decide +kernel
theorem dX7_part_48 : decode cX7_part 48 = .ok (.ireturn, 1) := by decide +kernel
theorem dX7_stand_0 : decode cX7_stand 0 = .ok (.iload_n 1, 1) := by decide +kernel
theorem dX7_stand_1 : decode cX7_stand 1 = .ok (.invokestatic 82, 3) := by decide +kernel
theorem dX7_stand_4 : decode cX7_stand 4 = .ok (.aload_n 0, 1) := by decide +kernel
theorem dX7_stand_5 : decode cX7_stand 5 = .ok (.getfield 10, 3) := by decide +kernel
theorem dX7_stand_8 : decode cX7_stand 8 = .ok (.getfield 86, 3) := by decide +kernel
theorem dX7_stand_11 : decode cX7_stand 11 = .ok (.iload_n 1, 1) := by decide +kernel
theorem dX7_stand_12 : decode cX7_stand 12 = .ok (.iaload, 1) := by decide +kernel
theorem dX7_stand_13 : decode cX7_stand 13 = .ok (.bipush 100, 2) := by decide +kernel
theorem dX7_stand_15 : decode cX7_stand 15 = .ok (.if_icmp .lt 13, 3) := by decide +kernel
theorem dX7_stand_18 : decode cX7_stand 18 = .ok (.new 90, 3) := by decide +kernel
theorem dX7_stand_21 : decode cX7_stand 21 = .ok (.dup, 1) := by decide +kernel
theorem dX7_stand_22 : decode cX7_stand 22 = .ok (.ldc 92, 2) := by decide +kernel
theorem dX7_stand_24 : decode cX7_stand 24 = .ok (.invokespecial 94, 3) := by decide +kernel
theorem dX7_stand_27 : decode cX7_stand 27 = .ok (.athrow, 1) := by decide +kernel
theorem dX7_stand_28 : decode cX7_stand 28 = .ok (.aload_n 0, 1) := by decide +kernel
theorem dX7_stand_29 : decode cX7_stand 29 = .ok (.getfield 10, 3) := by decide +kernel
theorem dX7_stand_32 : decode cX7_stand 32 = .ok (.iload_n 1, 1) := by decide +kernel
theorem dX7_stand_33 : decode cX7_stand 33 = .ok (.invokevirtual 95, 3) := by decide +kernel
theorem dX7_stand_36 : decode cX7_stand 36 = .ok (.aload_n 0, 1) := by decide +kernel
theorem dX7_stand_37 : decode cX7_stand 37 = .ok (.getfield 22, 3) := by decide +kernel
theorem dX7_stand_40 : decode cX7_stand 40 = .ok (.iconst 1, 1) := by decide +kernel
theorem dX7_stand_41 : decode cX7_stand 41 = .ok (.iload_n 1, 1) := by decide +kernel
theorem dX7_stand_42 : decode cX7_stand 42 = .ok (.iconst 0, 1) := by decide +kernel
theorem dX7_stand_43 : decode cX7_stand 43 = .ok (.invokevirtual 72, 3) := by decide +kernel
theorem dX7_stand_46 : decode cX7_stand 46 = .ok (.aload_n 0, 1) := by decide +kernel
theorem dX7_stand_47 : decode cX7_stand 47 = .ok (.getfield 10, 3) := by decide +kernel
theorem dX7_stand_50 : decode cX7_stand 50 = .ok (.getfield 86, 3) := by decide +kernel
theorem dX7_stand_53 : decode cX7_stand 53 = .ok (.iload_n 1, 1) := by decide +kernel
theorem dX7_stand_54 : decode cX7_stand 54 = .ok (.iaload, 1) := by decide +kernel
theorem dX7_stand_55 : decode cX7_stand 55 = .ok (.ireturn, 1) := by decide +kernel
theorem dX7_vote_0 : decode cX7_vote 0 = .ok (.iload_n 1, 1) := by decide +kernel
theorem dX7_vote_1 : decode cX7_vote 1 = .ok (.iload_n 2, 1) := by decide +kernel
theorem dX7_vote_2 : decode cX7_vote 2 = .ok (.invokestatic 98, 3) := by decide +kernel
theorem dX7_vote_5 : decode cX7_vote 5 = .ok (.aload_n 0, 1) := by decide +kernel
theorem dX7_vote_6 : decode cX7_vote 6 = .ok (.getfield 10, 3) := by decide +kernel
theorem dX7_vote_9 : decode cX7_vote 9 = .ok (.getfield 102, 3) := by decide +kernel
theorem dX7_vote_12 : decode cX7_vote 12 = .ok (.iload_n 2, 1) := by decide +kernel
theorem dX7_vote_13 : decode cX7_vote 13 = .ok (.iaload, 1) := by decide +kernel
theorem dX7_vote_14 : decode cX7_vote 14 = .ok (.iconst 1, 1) := by decide +kernel
theorem dX7_vote_15 : decode cX7_vote 15 = .ok (.if_icmp .eq 13, 3) := by decide +kernel
theorem dX7_vote_18 : decode cX7_vote 18 = .ok (.new 90, 3) := by decide +kernel
theorem dX7_vote_21 : decode cX7_vote 21 = .ok (.dup, 1) := by decide +kernel
theorem dX7_vote_22 : decode cX7_vote 22 = .ok (.ldc 105, 2) := by decide +kernel
theorem dX7_vote_24 : decode cX7_vote 24 = .ok (.invokespecial 94, 3) := by decide +kernel
theorem dX7_vote_27 : decode cX7_vote 27 = .ok (.athrow, 1) := by decide +kernel
theorem dX7_vote_28 : decode cX7_vote 28 = .ok (.aload_n 0, 1) := by decide +kernel
theorem dX7_vote_29 : decode cX7_vote 29 = .ok (.iload_n 1, 1) := by decide +kernel
theorem dX7_vote_30 : decode cX7_vote 30 = .ok (.iload_n 2, 1) := by decide +kernel
theorem dX7_vote_31 : decode cX7_vote 31 = .ok (.invokevirtual 107, 3) := by decide +kernel
theorem dX7_vote_34 : decode cX7_vote 34 = .ok (.aload_n 0, 1) := by decide +kernel
theorem dX7_vote_35 : decode cX7_vote 35 = .ok (.getfield 22, 3) := by decide +kernel
theorem dX7_vote_38 : decode cX7_vote 38 = .ok (.iconst 2, 1) := by decide +kernel
theorem dX7_vote_39 : decode cX7_vote 39 = .ok (.iload_n 1, 1) := by decide +kernel
theorem dX7_vote_40 : decode cX7_vote 40 = .ok (.iload_n 2, 1) := by decide +kernel
theorem dX7_vote_41 : decode cX7_vote 41 = .ok (.invokevirtual 72, 3) := by decide +kernel
theorem dX7_vote_44 : decode cX7_vote 44 = .ok (.aload_n 0, 1) := by decide +kernel
theorem dX7_vote_45 : decode cX7_vote 45 = .ok (.getfield 10, 3) := by decide +kernel
theorem dX7_vote_48 : decode cX7_vote 48 = .ok (.iload_n 1, 1) := by decide +kernel
theorem dX7_vote_49 : decode cX7_vote 49 = .ok (.iload_n 2, 1) := by decide +kernel
theorem dX7_vote_50 : decode cX7_vote 50 = .ok (.invokevirtual 110, 3) := by decide +kernel
theorem dX7_vote_53 : decode cX7_vote 53 = .ok (.ireturn, 1) := by decide +kernel
theorem dX7_propose_0 : decode cX7_propose 0 = .ok (.iload_n 1, 1) := by decide +kernel
theorem dX7_propose_1 : decode cX7_propose 1 = .ok (.invokestatic 82, 3) := by decide +kernel
theorem dX7_propose_4 : decode cX7_propose 4 = .ok (.iload_n 2, 1) := by decide +kernel
theorem dX7_propose_5 : decode cX7_propose 5 = .ok (.invokestatic 114, 3) := by decide +kernel
theorem dX7_propose_8 : decode cX7_propose 8 = .ok (.iload_n 3, 1) := by decide +kernel
theorem dX7_propose_9 : decode cX7_propose 9 = .ok (.iconst 1, 1) := by decide +kernel
theorem dX7_propose_10 : decode cX7_propose 10 = .ok (.if_icmp .lt 22, 3) := by decide +kernel
theorem dX7_propose_13 : decode cX7_propose 13 = .ok (.iload_n 3, 1) := by decide +kernel
theorem dX7_propose_14 : decode cX7_propose 14 = .ok (.bipush 9, 2) := by decide +kernel
theorem dX7_propose_16 : decode cX7_propose 16 = .ok (.if_icmp .gt 16, 3) := by decide +kernel
theorem dX7_propose_19 : decode cX7_propose 19 = .ok (.iload 4, 2) := by decide +kernel
theorem dX7_propose_21 : decode cX7_propose 21 = .ok (.iconst 1, 1) := by decide +kernel
theorem dX7_propose_22 : decode cX7_propose 22 = .ok (.if_icmp .lt 10, 3) := by decide +kernel
theorem dX7_propose_25 : decode cX7_propose 25 = .ok (.iload 4, 2) := by decide +kernel
theorem dX7_propose_27 : decode cX7_propose 27 = .ok (.bipush 40, 2) := by decide +kernel
theorem dX7_propose_29 : decode cX7_propose 29 = .ok (.if_icmp .le 13, 3) := by decide +kernel
theorem dX7_propose_32 : decode cX7_propose 32 = .ok (.new 61, 3) := by decide +kernel
theorem dX7_propose_35 : decode cX7_propose 35 = .ok (.dup, 1) := by decide +kernel
theorem dX7_propose_36 : decode cX7_propose 36 = .ok (.ldc 117, 2) := by decide +kernel
theorem dX7_propose_38 : decode cX7_propose 38 = .ok (.invokespecial 65, 3) := by decide +kernel
theorem dX7_propose_41 : decode cX7_propose 41 = .ok (.athrow, 1) := by decide +kernel
theorem dX7_propose_42 : decode cX7_propose 42 = .ok (.aload_n 0, 1) := by decide +kernel
theorem dX7_propose_43 : decode cX7_propose 43 = .ok (.iload_n 1, 1) := by decide +kernel
theorem dX7_propose_44 : decode cX7_propose 44 = .ok (.invokevirtual 119, 3) := by decide +kernel
theorem dX7_propose_47 : decode cX7_propose 47 = .ok (.aload_n 0, 1) := by decide +kernel
theorem dX7_propose_48 : decode cX7_propose 48 = .ok (.getfield 10, 3) := by decide +kernel
theorem dX7_propose_51 : decode cX7_propose 51 = .ok (.getfield 122, 3) := by decide +kernel
theorem dX7_propose_54 : decode cX7_propose 54 = .ok (.iload_n 1, 1) := by decide +kernel
theorem dX7_propose_55 : decode cX7_propose 55 = .ok (.iaload, 1) := by decide +kernel
theorem dX7_propose_56 : decode cX7_propose 56 = .ok (.bipush 20, 2) := by decide +kernel
theorem dX7_propose_58 : decode cX7_propose 58 = .ok (.if_icmp .ge 15, 3) := by decide +kernel
theorem dX7_propose_61 : decode cX7_propose 61 = .ok (.aload_n 0, 1) := by decide +kernel
theorem dX7_propose_62 : decode cX7_propose 62 = .ok (.getfield 10, 3) := by decide +kernel
theorem dX7_propose_65 : decode cX7_propose 65 = .ok (.getfield 125, 3) := by decide +kernel
theorem dX7_propose_68 : decode cX7_propose 68 = .ok (.bipush 60, 2) := by decide +kernel
theorem dX7_propose_70 : decode cX7_propose 70 = .ok (.if_icmp .lt 13, 3) := by decide +kernel
theorem dX7_propose_73 : decode cX7_propose 73 = .ok (.new 90, 3) := by decide +kernel
theorem dX7_propose_76 : decode cX7_propose 76 = .ok (.dup, 1) := by decide +kernel
theorem dX7_propose_77 : decode cX7_propose 77 = .ok (.ldc 128, 2) := by decide +kernel
theorem dX7_propose_79 : decode cX7_propose 79 = .ok (.invokespecial 94, 3) := by decide +kernel
theorem dX7_propose_82 : decode cX7_propose 82 = .ok (.athrow, 1) := by decide +kernel
theorem dX7_propose_83 : decode cX7_propose 83 = .ok (.aload_n 0, 1) := by decide +kernel
theorem dX7_propose_84 : decode cX7_propose 84 = .ok (.getfield 10, 3) := by decide +kernel
theorem dX7_propose_87 : decode cX7_propose 87 = .ok (.iload_n 1, 1) := by decide +kernel
theorem dX7_propose_88 : decode cX7_propose 88 = .ok (.invokevirtual 130, 3) := by decide +kernel
theorem dX7_propose_91 : decode cX7_propose 91 = .ok (.istore 5, 2) := by decide +kernel
theorem dX7_propose_93 : decode cX7_propose 93 = .ok (.aload_n 0, 1) := by decide +kernel
theorem dX7_propose_94 : decode cX7_propose 94 = .ok (.getfield 29, 3) := by decide +kernel
theorem dX7_propose_97 : decode cX7_propose 97 = .ok (.iload 5, 2) := by decide +kernel
theorem dX7_propose_99 : decode cX7_propose 99 = .ok (.iload_n 2, 1) := by decide +kernel
theorem dX7_propose_100 : decode cX7_propose 100 = .ok (.iload_n 3, 1) := by decide +kernel
theorem dX7_propose_101 : decode cX7_propose 101 = .ok (.iload 4, 2) := by decide +kernel
theorem dX7_propose_103 : decode cX7_propose 103 = .ok (.invokevirtual 133, 3) := by decide +kernel
theorem dX7_propose_106 : decode cX7_propose 106 = .ok (.aload_n 0, 1) := by decide +kernel
theorem dX7_propose_107 : decode cX7_propose 107 = .ok (.getfield 22, 3) := by decide +kernel
theorem dX7_propose_110 : decode cX7_propose 110 = .ok (.iconst 3, 1) := by decide +kernel
theorem dX7_propose_111 : decode cX7_propose 111 = .ok (.iload_n 1, 1) := by decide +kernel
theorem dX7_propose_112 : decode cX7_propose 112 = .ok (.iconst 0, 1) := by decide +kernel
theorem dX7_propose_113 : decode cX7_propose 113 = .ok (.invokevirtual 72, 3) := by decide +kernel
theorem dX7_propose_116 : decode cX7_propose 116 = .ok (.iload 5, 2) := by decide +kernel
theorem dX7_propose_118 : decode cX7_propose 118 = .ok (.ireturn, 1) := by decide +kernel
theorem dX7_tell_0 : decode cX7_tell 0 = .ok (.iload_n 1, 1) := by decide +kernel
theorem dX7_tell_1 : decode cX7_tell 1 = .ok (.iload_n 2, 1) := by decide +kernel
theorem dX7_tell_2 : decode cX7_tell 2 = .ok (.invokestatic 98, 3) := by decide +kernel
theorem dX7_tell_5 : decode cX7_tell 5 = .ok (.aload_n 0, 1) := by decide +kernel
theorem dX7_tell_6 : decode cX7_tell 6 = .ok (.iload_n 1, 1) := by decide +kernel
theorem dX7_tell_7 : decode cX7_tell 7 = .ok (.invokevirtual 119, 3) := by decide +kernel
theorem dX7_tell_10 : decode cX7_tell 10 = .ok (.aload_n 0, 1) := by decide +kernel
theorem dX7_tell_11 : decode cX7_tell 11 = .ok (.iload_n 1, 1) := by decide +kernel
theorem dX7_tell_12 : decode cX7_tell 12 = .ok (.iload_n 2, 1) := by decide +kernel
theorem dX7_tell_13 : decode cX7_tell 13 = .ok (.invokevirtual 107, 3) := by decide +kernel
theorem dX7_tell_16 : decode cX7_tell 16 = .ok (.aload_n 0, 1) := by decide +kernel
theorem dX7_tell_17 : decode cX7_tell 17 = .ok (.getfield 10, 3) := by decide +kernel
theorem dX7_tell_20 : decode cX7_tell 20 = .ok (.getfield 137, 3) := by decide +kernel
theorem dX7_tell_23 : decode cX7_tell 23 = .ok (.lstore_n 3, 1) := by decide +kernel
theorem dX7_tell_24 : decode cX7_tell 24 = .ok (.aload_n 0, 1) := by decide +kernel
theorem dX7_tell_25 : decode cX7_tell 25 = .ok (.getfield 10, 3) := by decide +kernel
theorem dX7_tell_28 : decode cX7_tell 28 = .ok (.iload_n 1, 1) := by decide +kernel
theorem dX7_tell_29 : decode cX7_tell 29 = .ok (.iload_n 2, 1) := by decide +kernel
theorem dX7_tell_30 : decode cX7_tell 30 = .ok (.invokevirtual 141, 3) := by decide +kernel
theorem dX7_tell_33 : decode cX7_tell 33 = .ok (.istore 5, 2) := by decide +kernel
theorem dX7_tell_35 : decode cX7_tell 35 = .ok (.aload_n 0, 1) := by decide +kernel
theorem dX7_tell_36 : decode cX7_tell 36 = .ok (.getfield 22, 3) := by decide +kernel
theorem dX7_tell_39 : decode cX7_tell 39 = .ok (.iconst 4, 1) := by decide +kernel
theorem dX7_tell_40 : decode cX7_tell 40 = .ok (.iload_n 1, 1) := by decide +kernel
theorem dX7_tell_41 : decode cX7_tell 41 = .ok (.iload_n 2, 1) := by decide +kernel
theorem dX7_tell_42 : decode cX7_tell 42 = .ok (.invokevirtual 72, 3) := by decide +kernel
theorem dX7_tell_45 : decode cX7_tell 45 = .ok (.aload_n 0, 1) := by decide +kernel
theorem dX7_tell_46 : decode cX7_tell 46 = .ok (.lload_n 3, 1) := by decide +kernel
theorem dX7_tell_47 : decode cX7_tell 47 = .ok (.aload_n 0, 1) := by decide +kernel
theorem dX7_tell_48 : decode cX7_tell 48 = .ok (.getfield 10, 3) := by decide +kernel
theorem dX7_tell_51 : decode cX7_tell 51 = .ok (.getfield 137, 3) := by decide +kernel
theorem dX7_tell_54 : decode cX7_tell 54 = .ok (.ldc2_w 145, 3) := by decide +kernel
theorem dX7_tell_57 : decode cX7_tell 57 = .ok (.lxor, 1) := by decide +kernel
theorem dX7_tell_58 : decode cX7_tell 58 = .ok (.land, 1) := by decide +kernel
theorem dX7_tell_59 : decode cX7_tell 59 = .ok (.invokevirtual 147, 3) := by decide +kernel
theorem dX7_tell_62 : decode cX7_tell 62 = .ok (.iload 5, 2) := by decide +kernel
theorem dX7_tell_64 : decode cX7_tell 64 = .ok (.ireturn, 1) := by decide +kernel
theorem dX7_role_0 : decode cX7_role 0 = .ok (.iload_n 1, 1) := by decide +kernel
theorem dX7_role_1 : decode cX7_role 1 = .ok (.invokestatic 82, 3) := by decide +kernel
theorem dX7_role_4 : decode cX7_role 4 = .ok (.aload_n 0, 1) := by decide +kernel
theorem dX7_role_5 : decode cX7_role 5 = .ok (.getfield 10, 3) := by decide +kernel
theorem dX7_role_8 : decode cX7_role 8 = .ok (.getfield 102, 3) := by decide +kernel
theorem dX7_role_11 : decode cX7_role 11 = .ok (.iload_n 1, 1) := by decide +kernel
theorem dX7_role_12 : decode cX7_role 12 = .ok (.iaload, 1) := by decide +kernel
theorem dX7_role_13 : decode cX7_role 13 = .ok (.ireturn, 1) := by decide +kernel
theorem dX7_term_0 : decode cX7_term 0 = .ok (.iload_n 1, 1) := by decide +kernel
theorem dX7_term_1 : decode cX7_term 1 = .ok (.invokestatic 82, 3) := by decide +kernel
theorem dX7_term_4 : decode cX7_term 4 = .ok (.aload_n 0, 1) := by decide +kernel
theorem dX7_term_5 : decode cX7_term 5 = .ok (.getfield 10, 3) := by decide +kernel
theorem dX7_term_8 : decode cX7_term 8 = .ok (.getfield 86, 3) := by decide +kernel
theorem dX7_term_11 : decode cX7_term 11 = .ok (.iload_n 1, 1) := by decide +kernel
theorem dX7_term_12 : decode cX7_term 12 = .ok (.iaload, 1) := by decide +kernel
theorem dX7_term_13 : decode cX7_term 13 = .ok (.ireturn, 1) := by decide +kernel
theorem dX7_votedFor_0 : decode cX7_votedFor 0 = .ok (.iload_n 1, 1) := by decide +kernel
theorem dX7_votedFor_1 : decode cX7_votedFor 1 = .ok (.invokestatic 82, 3) := by decide +kernel
theorem dX7_votedFor_4 : decode cX7_votedFor 4 = .ok (.aload_n 0, 1) := by decide +kernel
theorem dX7_votedFor_5 : decode cX7_votedFor 5 = .ok (.getfield 10, 3) := by decide +kernel
theorem dX7_votedFor_8 : decode cX7_votedFor 8 = .ok (.getfield 151, 3) := by decide +kernel
theorem dX7_votedFor_11 : decode cX7_votedFor 11 = .ok (.iload_n 1, 1) := by decide +kernel
theorem dX7_votedFor_12 : decode cX7_votedFor 12 = .ok (.iaload, 1) := by decide +kernel
theorem dX7_votedFor_13 : decode cX7_votedFor 13 = .ok (.ireturn, 1) := by decide +kernel
theorem dX7_reach_0 : decode cX7_reach 0 = .ok (.iload_n 1, 1) := by decide +kernel
theorem dX7_reach_1 : decode cX7_reach 1 = .ok (.invokestatic 82, 3) := by decide +kernel
theorem dX7_reach_4 : decode cX7_reach 4 = .ok (.iload_n 2, 1) := by decide +kernel
theorem dX7_reach_5 : decode cX7_reach 5 = .ok (.invokestatic 82, 3) := by decide +kernel
theorem dX7_reach_8 : decode cX7_reach 8 = .ok (.aload_n 0, 1) := by decide +kernel
theorem dX7_reach_9 : decode cX7_reach 9 = .ok (.getfield 10, 3) := by decide +kernel
theorem dX7_reach_12 : decode cX7_reach 12 = .ok (.iload_n 1, 1) := by decide +kernel
theorem dX7_reach_13 : decode cX7_reach 13 = .ok (.iload_n 2, 1) := by decide +kernel
theorem dX7_reach_14 : decode cX7_reach 14 = .ok (.invokevirtual 154, 3) := by decide +kernel
theorem dX7_reach_17 : decode cX7_reach 17 = .ok (.ireturn, 1) := by decide +kernel
theorem dX7_entries_0 : decode cX7_entries 0 = .ok (.iload_n 1, 1) := by decide +kernel
theorem dX7_entries_1 : decode cX7_entries 1 = .ok (.invokestatic 82, 3) := by decide +kernel
theorem dX7_entries_4 : decode cX7_entries 4 = .ok (.aload_n 0, 1) := by decide +kernel
theorem dX7_entries_5 : decode cX7_entries 5 = .ok (.getfield 10, 3) := by decide +kernel
theorem dX7_entries_8 : decode cX7_entries 8 = .ok (.getfield 122, 3) := by decide +kernel
theorem dX7_entries_11 : decode cX7_entries 11 = .ok (.iload_n 1, 1) := by decide +kernel
theorem dX7_entries_12 : decode cX7_entries 12 = .ok (.iaload, 1) := by decide +kernel
theorem dX7_entries_13 : decode cX7_entries 13 = .ok (.ireturn, 1) := by decide +kernel
theorem dX7_versionAt_0 : decode cX7_versionAt 0 = .ok (.iload_n 1, 1) := by decide +kernel
theorem dX7_versionAt_1 : decode cX7_versionAt 1 = .ok (.invokestatic 82, 3) := by decide +kernel
theorem dX7_versionAt_4 : decode cX7_versionAt 4 = .ok (.iload_n 2, 1) := by decide +kernel
theorem dX7_versionAt_5 : decode cX7_versionAt 5 = .ok (.ifCond .lt 16, 3) := by decide +kernel
theorem dX7_versionAt_8 : decode cX7_versionAt 8 = .ok (.iload_n 2, 1) := by decide +kernel
theorem dX7_versionAt_9 : decode cX7_versionAt 9 = .ok (.aload_n 0, 1) := by decide +kernel
theorem dX7_versionAt_10 : decode cX7_versionAt 10 = .ok (.getfield 10, 3) := by decide +kernel
theorem dX7_versionAt_13 : decode cX7_versionAt 13 = .ok (.getfield 122, 3) := by decide +kernel
theorem dX7_versionAt_16 : decode cX7_versionAt 16 = .ok (.iload_n 1, 1) := by decide +kernel
theorem dX7_versionAt_17 : decode cX7_versionAt 17 = .ok (.iaload, 1) := by decide +kernel
theorem dX7_versionAt_18 : decode cX7_versionAt 18 = .ok (.if_icmp .lt 13, 3) := by decide +kernel
theorem dX7_versionAt_21 : decode cX7_versionAt 21 = .ok (.new 157, 3) := by decide +kernel
theorem dX7_versionAt_24 : decode cX7_versionAt 24 = .ok (.dup, 1) := by decide +kernel
theorem dX7_versionAt_25 : decode cX7_versionAt 25 = .ok (.ldc 159, 2) := by decide +kernel
theorem dX7_versionAt_27 : decode cX7_versionAt 27 = .ok (.invokespecial 161, 3) := by decide +kernel
theorem dX7_versionAt_30 : decode cX7_versionAt 30 = .ok (.athrow, 1) := by decide +kernel
theorem dX7_versionAt_31 : decode cX7_versionAt 31 = .ok (.aload_n 0, 1) := by decide +kernel
theorem dX7_versionAt_32 : decode cX7_versionAt 32 = .ok (.getfield 10, 3) := by decide +kernel
theorem dX7_versionAt_35 : decode cX7_versionAt 35 = .ok (.getfield 162, 3) := by decide +kernel
theorem dX7_versionAt_38 : decode cX7_versionAt 38 = .ok (.iload_n 1, 1) := by decide +kernel
theorem dX7_versionAt_39 : decode cX7_versionAt 39 = .ok (.aaload, 1) := by decide +kernel
theorem dX7_versionAt_40 : decode cX7_versionAt 40 = .ok (.iload_n 2, 1) := by decide +kernel
theorem dX7_versionAt_41 : decode cX7_versionAt 41 = .ok (.iaload, 1) := by decide +kernel
theorem dX7_versionAt_42 : decode cX7_versionAt 42 = .ok (.ireturn, 1) := by decide +kernel
theorem dX7_versions_0 : decode cX7_versions 0 = .ok (.aload_n 0, 1) := by decide +kernel
theorem dX7_versions_1 : decode cX7_versions 1 = .ok (.getfield 10, 3) := by decide +kernel
theorem dX7_versions_4 : decode cX7_versions 4 = .ok (.getfield 125, 3) := by decide +kernel
theorem dX7_versions_7 : decode cX7_versions 7 = .ok (.ireturn, 1) := by decide +kernel
theorem dX7_termOf_0 : decode cX7_termOf 0 = .ok (.aload_n 0, 1) := by decide +kernel
theorem dX7_termOf_1 : decode cX7_termOf 1 = .ok (.iload_n 1, 1) := by decide +kernel
theorem dX7_termOf_2 : decode cX7_termOf 2 = .ok (.invokevirtual 166, 3) := by decide +kernel
theorem dX7_termOf_5 : decode cX7_termOf 5 = .ok (.aload_n 0, 1) := by decide +kernel
theorem dX7_termOf_6 : decode cX7_termOf 6 = .ok (.getfield 10, 3) := by decide +kernel
theorem dX7_termOf_9 : decode cX7_termOf 9 = .ok (.getfield 169, 3) := by decide +kernel
theorem dX7_termOf_12 : decode cX7_termOf 12 = .ok (.iload_n 1, 1) := by decide +kernel
theorem dX7_termOf_13 : decode cX7_termOf 13 = .ok (.iaload, 1) := by decide +kernel
theorem dX7_termOf_14 : decode cX7_termOf 14 = .ok (.ireturn, 1) := by decide +kernel
theorem dX7_holders_0 : decode cX7_holders 0 = .ok (.aload_n 0, 1) := by decide +kernel
theorem dX7_holders_1 : decode cX7_holders 1 = .ok (.iload_n 1, 1) := by decide +kernel
theorem dX7_holders_2 : decode cX7_holders 2 = .ok (.invokevirtual 166, 3) := by decide +kernel
theorem dX7_holders_5 : decode cX7_holders 5 = .ok (.aload_n 0, 1) := by decide +kernel
theorem dX7_holders_6 : decode cX7_holders 6 = .ok (.getfield 10, 3) := by decide +kernel
theorem dX7_holders_9 : decode cX7_holders 9 = .ok (.getfield 172, 3) := by decide +kernel
theorem dX7_holders_12 : decode cX7_holders 12 = .ok (.iload_n 1, 1) := by decide +kernel
theorem dX7_holders_13 : decode cX7_holders 13 = .ok (.iaload, 1) := by decide +kernel
theorem dX7_holders_14 : decode cX7_holders 14 = .ok (.ireturn, 1) := by decide +kernel
theorem dX7_isHeld_0 : decode cX7_isHeld 0 = .ok (.aload_n 0, 1) := by decide +kernel
theorem dX7_isHeld_1 : decode cX7_isHeld 1 = .ok (.iload_n 1, 1) := by decide +kernel
theorem dX7_isHeld_2 : decode cX7_isHeld 2 = .ok (.invokevirtual 166, 3) := by decide +kernel
theorem dX7_isHeld_5 : decode cX7_isHeld 5 = .ok (.aload_n 0, 1) := by decide +kernel
theorem dX7_isHeld_6 : decode cX7_isHeld 6 = .ok (.getfield 10, 3) := by decide +kernel
theorem dX7_isHeld_9 : decode cX7_isHeld 9 = .ok (.getfield 137, 3) := by decide +kernel
theorem dX7_isHeld_12 : decode cX7_isHeld 12 = .ok (.iload_n 1, 1) := by decide +kernel
theorem dX7_isHeld_13 : decode cX7_isHeld 13 = .ok (.invokestatic 175, 3) := by decide +kernel
theorem dX7_isHeld_16 : decode cX7_isHeld 16 = .ok (.ireturn, 1) := by decide +kernel
theorem dX7_wasHeld_0 : decode cX7_wasHeld 0 = .ok (.aload_n 0, 1) := by decide +kernel
theorem dX7_wasHeld_1 : decode cX7_wasHeld 1 = .ok (.iload_n 1, 1) := by decide +kernel
theorem dX7_wasHeld_2 : decode cX7_wasHeld 2 = .ok (.invokevirtual 166, 3) := by decide +kernel
theorem dX7_wasHeld_5 : decode cX7_wasHeld 5 = .ok (.aload_n 0, 1) := by decide +kernel
theorem dX7_wasHeld_6 : decode cX7_wasHeld 6 = .ok (.getfield 10, 3) := by decide +kernel
theorem dX7_wasHeld_9 : decode cX7_wasHeld 9 = .ok (.getfield 179, 3) := by decide +kernel
theorem dX7_wasHeld_12 : decode cX7_wasHeld 12 = .ok (.iload_n 1, 1) := by decide +kernel
theorem dX7_wasHeld_13 : decode cX7_wasHeld 13 = .ok (.invokestatic 175, 3) := by decide +kernel
theorem dX7_wasHeld_16 : decode cX7_wasHeld 16 = .ok (.ireturn, 1) := by decide +kernel
theorem dX7_current_0 : decode cX7_current 0 = .ok (.iload_n 1, 1) := by decide +kernel
theorem dX7_current_1 : decode cX7_current 1 = .ok (.invokestatic 82, 3) := by decide +kernel
theorem dX7_current_4 : decode cX7_current 4 = .ok (.iload_n 2, 1) := by decide +kernel
theorem dX7_current_5 : decode cX7_current 5 = .ok (.invokestatic 114, 3) := by decide +kernel
theorem dX7_current_8 : decode cX7_current 8 = .ok (.aload_n 0, 1) := by decide +kernel
theorem dX7_current_9 : decode cX7_current 9 = .ok (.iload_n 1, 1) := by decide +kernel
theorem dX7_current_10 : decode cX7_current 10 = .ok (.iload_n 2, 1) := by decide +kernel
theorem dX7_current_11 : decode cX7_current 11 = .ok (.invokevirtual 182, 3) := by decide +kernel
theorem dX7_current_14 : decode cX7_current 14 = .ok (.ireturn, 1) := by decide +kernel
theorem dX7_addLot_0 : decode cX7_addLot 0 = .ok (.aload_n 0, 1) := by decide +kernel
theorem dX7_addLot_1 : decode cX7_addLot 1 = .ok (.getfield 36, 3) := by decide +kernel
theorem dX7_addLot_4 : decode cX7_addLot 4 = .ok (.getfield 185, 3) := by decide +kernel
theorem dX7_addLot_7 : decode cX7_addLot 7 = .ok (.bipush 16, 2) := by decide +kernel
theorem dX7_addLot_9 : decode cX7_addLot 9 = .ok (.if_icmp .lt 13, 3) := by decide +kernel
theorem dX7_addLot_12 : decode cX7_addLot 12 = .ok (.new 90, 3) := by decide +kernel
theorem dX7_addLot_15 : decode cX7_addLot 15 = .ok (.dup, 1) := by decide +kernel
theorem dX7_addLot_16 : decode cX7_addLot 16 = .ok (.ldc 188, 2) := by decide +kernel
theorem dX7_addLot_18 : decode cX7_addLot 18 = .ok (.invokespecial 94, 3) := by decide +kernel
theorem dX7_addLot_21 : decode cX7_addLot 21 = .ok (.athrow, 1) := by decide +kernel
theorem dX7_addLot_22 : decode cX7_addLot 22 = .ok (.aload_n 0, 1) := by decide +kernel
theorem dX7_addLot_23 : decode cX7_addLot 23 = .ok (.getfield 36, 3) := by decide +kernel
theorem dX7_addLot_26 : decode cX7_addLot 26 = .ok (.dup, 1) := by decide +kernel
theorem dX7_addLot_27 : decode cX7_addLot 27 = .ok (.getfield 185, 3) := by decide +kernel
theorem dX7_addLot_30 : decode cX7_addLot 30 = .ok (.iconst 1, 1) := by decide +kernel
theorem dX7_addLot_31 : decode cX7_addLot 31 = .ok (.iadd, 1) := by decide +kernel
theorem dX7_addLot_32 : decode cX7_addLot 32 = .ok (.putfield 185, 3) := by decide +kernel
theorem dX7_addLot_35 : decode cX7_addLot 35 = .ok (.aload_n 0, 1) := by decide +kernel
theorem dX7_addLot_36 : decode cX7_addLot 36 = .ok (.getfield 36, 3) := by decide +kernel
theorem dX7_addLot_39 : decode cX7_addLot 39 = .ok (.getfield 185, 3) := by decide +kernel
theorem dX7_addLot_42 : decode cX7_addLot 42 = .ok (.iconst 1, 1) := by decide +kernel
theorem dX7_addLot_43 : decode cX7_addLot 43 = .ok (.isub, 1) := by decide +kernel
theorem dX7_addLot_44 : decode cX7_addLot 44 = .ok (.ireturn, 1) := by decide +kernel
theorem dX7_deliver_0 : decode cX7_deliver 0 = .ok (.iload_n 1, 1) := by decide +kernel
theorem dX7_deliver_1 : decode cX7_deliver 1 = .ok (.invokestatic 82, 3) := by decide +kernel
theorem dX7_deliver_4 : decode cX7_deliver 4 = .ok (.aload_n 0, 1) := by decide +kernel
theorem dX7_deliver_5 : decode cX7_deliver 5 = .ok (.iload_n 2, 1) := by decide +kernel
theorem dX7_deliver_6 : decode cX7_deliver 6 = .ok (.invokevirtual 190, 3) := by decide +kernel
theorem dX7_deliver_9 : decode cX7_deliver 9 = .ok (.iload_n 3, 1) := by decide +kernel
theorem dX7_deliver_10 : decode cX7_deliver 10 = .ok (.iconst 1, 1) := by decide +kernel
theorem dX7_deliver_11 : decode cX7_deliver 11 = .ok (.if_icmp .lt 9, 3) := by decide +kernel
theorem dX7_deliver_14 : decode cX7_deliver 14 = .ok (.iload_n 3, 1) := by decide +kernel
theorem dX7_deliver_15 : decode cX7_deliver 15 = .ok (.bipush 50, 2) := by decide +kernel
theorem dX7_deliver_17 : decode cX7_deliver 17 = .ok (.if_icmp .le 13, 3) := by decide +kernel
theorem dX7_deliver_20 : decode cX7_deliver 20 = .ok (.new 61, 3) := by decide +kernel
theorem dX7_deliver_23 : decode cX7_deliver 23 = .ok (.dup, 1) := by decide +kernel
theorem dX7_deliver_24 : decode cX7_deliver 24 = .ok (.ldc 193, 2) := by decide +kernel
theorem dX7_deliver_26 : decode cX7_deliver 26 = .ok (.invokespecial 65, 3) := by decide +kernel
theorem dX7_deliver_29 : decode cX7_deliver 29 = .ok (.athrow, 1) := by decide +kernel
theorem dX7_deliver_30 : decode cX7_deliver 30 = .ok (.aload_n 0, 1) := by decide +kernel
theorem dX7_deliver_31 : decode cX7_deliver 31 = .ok (.iload_n 2, 1) := by decide +kernel
theorem dX7_deliver_32 : decode cX7_deliver 32 = .ok (.invokevirtual 195, 3) := by decide +kernel
theorem dX7_deliver_35 : decode cX7_deliver 35 = .ok (.aload_n 0, 1) := by decide +kernel
theorem dX7_deliver_36 : decode cX7_deliver 36 = .ok (.getfield 36, 3) := by decide +kernel
theorem dX7_deliver_39 : decode cX7_deliver 39 = .ok (.getfield 198, 3) := by decide +kernel
theorem dX7_deliver_42 : decode cX7_deliver 42 = .ok (.iload_n 1, 1) := by decide +kernel
theorem dX7_deliver_43 : decode cX7_deliver 43 = .ok (.iaload, 1) := by decide +kernel
theorem dX7_deliver_44 : decode cX7_deliver 44 = .ok (.iload_n 3, 1) := by decide +kernel
theorem dX7_deliver_45 : decode cX7_deliver 45 = .ok (.iadd, 1) := by decide +kernel
theorem dX7_deliver_46 : decode cX7_deliver 46 = .ok (.sipush 200, 3) := by decide +kernel
theorem dX7_deliver_49 : decode cX7_deliver 49 = .ok (.if_icmp .le 13, 3) := by decide +kernel
theorem dX7_deliver_52 : decode cX7_deliver 52 = .ok (.new 90, 3) := by decide +kernel
theorem dX7_deliver_55 : decode cX7_deliver 55 = .ok (.dup, 1) := by decide +kernel
theorem dX7_deliver_56 : decode cX7_deliver 56 = .ok (.ldc 201, 2) := by decide +kernel
theorem dX7_deliver_58 : decode cX7_deliver 58 = .ok (.invokespecial 94, 3) := by decide +kernel
theorem dX7_deliver_61 : decode cX7_deliver 61 = .ok (.athrow, 1) := by decide +kernel
theorem dX7_deliver_62 : decode cX7_deliver 62 = .ok (.aload_n 0, 1) := by decide +kernel
theorem dX7_deliver_63 : decode cX7_deliver 63 = .ok (.getfield 36, 3) := by decide +kernel
theorem dX7_deliver_66 : decode cX7_deliver 66 = .ok (.iload_n 1, 1) := by decide +kernel
theorem dX7_deliver_67 : decode cX7_deliver 67 = .ok (.iload_n 2, 1) := by decide +kernel
theorem dX7_deliver_68 : decode cX7_deliver 68 = .ok (.iload_n 3, 1) := by decide +kernel
theorem dX7_deliver_69 : decode cX7_deliver 69 = .ok (.invokevirtual 203, 3) := by decide +kernel
theorem dX7_deliver_72 : decode cX7_deliver 72 = .ok (.aload_n 0, 1) := by decide +kernel
theorem dX7_deliver_73 : decode cX7_deliver 73 = .ok (.getfield 36, 3) := by decide +kernel
theorem dX7_deliver_76 : decode cX7_deliver 76 = .ok (.getfield 198, 3) := by decide +kernel
theorem dX7_deliver_79 : decode cX7_deliver 79 = .ok (.iload_n 1, 1) := by decide +kernel
theorem dX7_deliver_80 : decode cX7_deliver 80 = .ok (.iaload, 1) := by decide +kernel
theorem dX7_deliver_81 : decode cX7_deliver 81 = .ok (.ireturn, 1) := by decide +kernel
theorem dX7_condemn_0 : decode cX7_condemn 0 = .ok (.aload_n 0, 1) := by decide +kernel
theorem dX7_condemn_1 : decode cX7_condemn 1 = .ok (.iload_n 1, 1) := by decide +kernel
theorem dX7_condemn_2 : decode cX7_condemn 2 = .ok (.invokevirtual 190, 3) := by decide +kernel
theorem dX7_condemn_5 : decode cX7_condemn 5 = .ok (.aload_n 0, 1) := by decide +kernel
theorem dX7_condemn_6 : decode cX7_condemn 6 = .ok (.iload_n 1, 1) := by decide +kernel
theorem dX7_condemn_7 : decode cX7_condemn 7 = .ok (.invokevirtual 195, 3) := by decide +kernel
theorem dX7_condemn_10 : decode cX7_condemn 10 = .ok (.aload_n 0, 1) := by decide +kernel
theorem dX7_condemn_11 : decode cX7_condemn 11 = .ok (.getfield 36, 3) := by decide +kernel
theorem dX7_condemn_14 : decode cX7_condemn 14 = .ok (.iload_n 1, 1) := by decide +kernel
theorem dX7_condemn_15 : decode cX7_condemn 15 = .ok (.invokevirtual 206, 3) := by decide +kernel
theorem dX7_condemn_18 : decode cX7_condemn 18 = .ok (.aload_n 0, 1) := by decide +kernel
theorem dX7_condemn_19 : decode cX7_condemn 19 = .ok (.iload_n 1, 1) := by decide +kernel
theorem dX7_condemn_20 : decode cX7_condemn 20 = .ok (.invokevirtual 209, 3) := by decide +kernel
theorem dX7_condemn_23 : decode cX7_condemn 23 = .ok (.ireturn, 1) := by decide +kernel
theorem dX7_store_0 : decode cX7_store 0 = .ok (.iload_n 1, 1) := by decide +kernel
theorem dX7_store_1 : decode cX7_store 1 = .ok (.invokestatic 82, 3) := by decide +kernel
theorem dX7_store_4 : decode cX7_store 4 = .ok (.aload_n 0, 1) := by decide +kernel
theorem dX7_store_5 : decode cX7_store 5 = .ok (.getfield 36, 3) := by decide +kernel
theorem dX7_store_8 : decode cX7_store 8 = .ok (.getfield 198, 3) := by decide +kernel
theorem dX7_store_11 : decode cX7_store 11 = .ok (.iload_n 1, 1) := by decide +kernel
theorem dX7_store_12 : decode cX7_store 12 = .ok (.iaload, 1) := by decide +kernel
theorem dX7_store_13 : decode cX7_store 13 = .ok (.ireturn, 1) := by decide +kernel
theorem dX7_book_0 : decode cX7_book 0 = .ok (.iload_n 1, 1) := by decide +kernel
theorem dX7_book_1 : decode cX7_book 1 = .ok (.invokestatic 82, 3) := by decide +kernel
theorem dX7_book_4 : decode cX7_book 4 = .ok (.iload_n 3, 1) := by decide +kernel
theorem dX7_book_5 : decode cX7_book 5 = .ok (.invokestatic 114, 3) := by decide +kernel
theorem dX7_book_8 : decode cX7_book 8 = .ok (.aload_n 0, 1) := by decide +kernel
theorem dX7_book_9 : decode cX7_book 9 = .ok (.iload_n 2, 1) := by decide +kernel
theorem dX7_book_10 : decode cX7_book 10 = .ok (.invokevirtual 212, 3) := by decide +kernel
theorem dX7_book_13 : decode cX7_book 13 = .ok (.aload_n 0, 1) := by decide +kernel
theorem dX7_book_14 : decode cX7_book 14 = .ok (.getfield 43, 3) := by decide +kernel
theorem dX7_book_17 : decode cX7_book 17 = .ok (.iload_n 1, 1) := by decide +kernel
theorem dX7_book_18 : decode cX7_book 18 = .ok (.iload_n 2, 1) := by decide +kernel
theorem dX7_book_19 : decode cX7_book 19 = .ok (.invokevirtual 215, 3) := by decide +kernel
theorem dX7_book_22 : decode cX7_book 22 = .ok (.iconst (-1), 1) := by decide +kernel
theorem dX7_book_23 : decode cX7_book 23 = .ok (.if_icmp .eq 13, 3) := by decide +kernel
theorem dX7_book_26 : decode cX7_book 26 = .ok (.new 90, 3) := by decide +kernel
theorem dX7_book_29 : decode cX7_book 29 = .ok (.dup, 1) := by decide +kernel
theorem dX7_book_30 : decode cX7_book 30 = .ok (.ldc 218, 2) := by decide +kernel
theorem dX7_book_32 : decode cX7_book 32 = .ok (.invokespecial 94, 3) := by decide +kernel
theorem dX7_book_35 : decode cX7_book 35 = .ok (.athrow, 1) := by decide +kernel
theorem dX7_book_36 : decode cX7_book 36 = .ok (.aload_n 0, 1) := by decide +kernel
theorem dX7_book_37 : decode cX7_book 37 = .ok (.iload_n 1, 1) := by decide +kernel
theorem dX7_book_38 : decode cX7_book 38 = .ok (.iload_n 2, 1) := by decide +kernel
theorem dX7_book_39 : decode cX7_book 39 = .ok (.iload_n 3, 1) := by decide +kernel
theorem dX7_book_40 : decode cX7_book 40 = .ok (.invokevirtual 220, 3) := by decide +kernel
theorem dX7_book_43 : decode cX7_book 43 = .ok (.ireturn, 1) := by decide +kernel
theorem dX7_booked_0 : decode cX7_booked 0 = .ok (.iload_n 1, 1) := by decide +kernel
theorem dX7_booked_1 : decode cX7_booked 1 = .ok (.invokestatic 82, 3) := by decide +kernel
theorem dX7_booked_4 : decode cX7_booked 4 = .ok (.aload_n 0, 1) := by decide +kernel
theorem dX7_booked_5 : decode cX7_booked 5 = .ok (.iload_n 2, 1) := by decide +kernel
theorem dX7_booked_6 : decode cX7_booked 6 = .ok (.invokevirtual 212, 3) := by decide +kernel
theorem dX7_booked_9 : decode cX7_booked 9 = .ok (.aload_n 0, 1) := by decide +kernel
theorem dX7_booked_10 : decode cX7_booked 10 = .ok (.getfield 43, 3) := by decide +kernel
theorem dX7_booked_13 : decode cX7_booked 13 = .ok (.iload_n 1, 1) := by decide +kernel
theorem dX7_booked_14 : decode cX7_booked 14 = .ok (.iload_n 2, 1) := by decide +kernel
theorem dX7_booked_15 : decode cX7_booked 15 = .ok (.invokevirtual 215, 3) := by decide +kernel
theorem dX7_booked_18 : decode cX7_booked 18 = .ok (.ireturn, 1) := by decide +kernel
theorem dX7_stopped_0 : decode cX7_stopped 0 = .ok (.iconst 0, 1) := by decide +kernel
theorem dX7_stopped_1 : decode cX7_stopped 1 = .ok (.istore_n 1, 1) := by decide +kernel
theorem dX7_stopped_2 : decode cX7_stopped 2 = .ok (.iconst 0, 1) := by decide +kernel
theorem dX7_stopped_3 : decode cX7_stopped 3 = .ok (.istore_n 2, 1) := by decide +kernel
theorem dX7_stopped_4 : decode cX7_stopped 4 = .ok (.iload_n 2, 1) := by decide +kernel
theorem dX7_stopped_5 : decode cX7_stopped 5 = .ok (.iconst 5, 1) := by decide +kernel
theorem dX7_stopped_6 : decode cX7_stopped 6 = .ok (.if_icmp .ge 66, 3) := by decide +kernel
theorem dX7_stopped_9 : decode cX7_stopped 9 = .ok (.iconst 0, 1) := by decide +kernel
theorem dX7_stopped_10 : decode cX7_stopped 10 = .ok (.istore_n 3, 1) := by decide +kernel
theorem dX7_stopped_11 : decode cX7_stopped 11 = .ok (.iload_n 3, 1) := by decide +kernel
theorem dX7_stopped_12 : decode cX7_stopped 12 = .ok (.bipush 50, 2) := by decide +kernel
theorem dX7_stopped_14 : decode cX7_stopped 14 = .ok (.if_icmp .gt 52, 3) := by decide +kernel
theorem dX7_stopped_17 : decode cX7_stopped 17 = .ok (.aload_n 0, 1) := by decide +kernel
theorem dX7_stopped_18 : decode cX7_stopped 18 = .ok (.getfield 43, 3) := by decide +kernel
theorem dX7_stopped_21 : decode cX7_stopped 21 = .ok (.iload_n 2, 1) := by decide +kernel
theorem dX7_stopped_22 : decode cX7_stopped 22 = .ok (.aload_n 0, 1) := by decide +kernel
theorem dX7_stopped_23 : decode cX7_stopped 23 = .ok (.getfield 43, 3) := by decide +kernel
theorem dX7_stopped_26 : decode cX7_stopped 26 = .ok (.getfield 233, 3) := by decide +kernel
theorem dX7_stopped_29 : decode cX7_stopped 29 = .ok (.iload_n 3, 1) := by decide +kernel
theorem dX7_stopped_30 : decode cX7_stopped 30 = .ok (.iadd, 1) := by decide +kernel
theorem dX7_stopped_31 : decode cX7_stopped 31 = .ok (.invokevirtual 215, 3) := by decide +kernel
theorem dX7_stopped_34 : decode cX7_stopped 34 = .ok (.istore 4, 2) := by decide +kernel
theorem dX7_stopped_36 : decode cX7_stopped 36 = .ok (.iload 4, 2) := by decide +kernel
theorem dX7_stopped_38 : decode cX7_stopped 38 = .ok (.iconst (-1), 1) := by decide +kernel
theorem dX7_stopped_39 : decode cX7_stopped 39 = .ok (.if_icmp .eq 21, 3) := by decide +kernel
theorem dX7_stopped_42 : decode cX7_stopped 42 = .ok (.aload_n 0, 1) := by decide +kernel
theorem dX7_stopped_43 : decode cX7_stopped 43 = .ok (.getfield 10, 3) := by decide +kernel
theorem dX7_stopped_46 : decode cX7_stopped 46 = .ok (.getfield 137, 3) := by decide +kernel
theorem dX7_stopped_49 : decode cX7_stopped 49 = .ok (.iload 4, 2) := by decide +kernel
theorem dX7_stopped_51 : decode cX7_stopped 51 = .ok (.invokestatic 175, 3) := by decide +kernel
theorem dX7_stopped_54 : decode cX7_stopped 54 = .ok (.ifCond .ne 6, 3) := by decide +kernel
theorem dX7_stopped_57 : decode cX7_stopped 57 = .ok (.iinc 1 1, 3) := by decide +kernel
theorem dX7_stopped_60 : decode cX7_stopped 60 = .ok (.iinc 3 1, 3) := by decide +kernel
theorem dX7_stopped_63 : decode cX7_stopped 63 = .ok (.goto (-52), 3) := by decide +kernel
theorem dX7_stopped_66 : decode cX7_stopped 66 = .ok (.iinc 2 1, 3) := by decide +kernel
theorem dX7_stopped_69 : decode cX7_stopped 69 = .ok (.goto (-65), 3) := by decide +kernel
theorem dX7_stopped_72 : decode cX7_stopped 72 = .ok (.iload_n 1, 1) := by decide +kernel
theorem dX7_stopped_73 : decode cX7_stopped 73 = .ok (.ireturn, 1) := by decide +kernel
theorem dX7_pass_0 : decode cX7_pass 0 = .ok (.iload_n 1, 1) := by decide +kernel
theorem dX7_pass_1 : decode cX7_pass 1 = .ok (.iconst 1, 1) := by decide +kernel
theorem dX7_pass_2 : decode cX7_pass 2 = .ok (.if_icmp .lt 9, 3) := by decide +kernel
theorem dX7_pass_5 : decode cX7_pass 5 = .ok (.iload_n 1, 1) := by decide +kernel
theorem dX7_pass_6 : decode cX7_pass 6 = .ok (.bipush 50, 2) := by decide +kernel
theorem dX7_pass_8 : decode cX7_pass 8 = .ok (.if_icmp .le 13, 3) := by decide +kernel
theorem dX7_pass_11 : decode cX7_pass 11 = .ok (.new 61, 3) := by decide +kernel
theorem dX7_pass_14 : decode cX7_pass 14 = .ok (.dup, 1) := by decide +kernel
theorem dX7_pass_15 : decode cX7_pass 15 = .ok (.ldc 236, 2) := by decide +kernel
theorem dX7_pass_17 : decode cX7_pass 17 = .ok (.invokespecial 65, 3) := by decide +kernel
theorem dX7_pass_20 : decode cX7_pass 20 = .ok (.athrow, 1) := by decide +kernel
theorem dX7_pass_21 : decode cX7_pass 21 = .ok (.aload_n 0, 1) := by decide +kernel
theorem dX7_pass_22 : decode cX7_pass 22 = .ok (.getfield 43, 3) := by decide +kernel
theorem dX7_pass_25 : decode cX7_pass 25 = .ok (.getfield 233, 3) := by decide +kernel
theorem dX7_pass_28 : decode cX7_pass 28 = .ok (.iload_n 1, 1) := by decide +kernel
theorem dX7_pass_29 : decode cX7_pass 29 = .ok (.iadd, 1) := by decide +kernel
theorem dX7_pass_30 : decode cX7_pass 30 = .ok (.sipush 1000, 3) := by decide +kernel
theorem dX7_pass_33 : decode cX7_pass 33 = .ok (.if_icmp .le 13, 3) := by decide +kernel
theorem dX7_pass_36 : decode cX7_pass 36 = .ok (.new 90, 3) := by decide +kernel
theorem dX7_pass_39 : decode cX7_pass 39 = .ok (.dup, 1) := by decide +kernel
theorem dX7_pass_40 : decode cX7_pass 40 = .ok (.ldc 238, 2) := by decide +kernel
theorem dX7_pass_42 : decode cX7_pass 42 = .ok (.invokespecial 94, 3) := by decide +kernel
theorem dX7_pass_45 : decode cX7_pass 45 = .ok (.athrow, 1) := by decide +kernel
theorem dX7_pass_46 : decode cX7_pass 46 = .ok (.iconst 0, 1) := by decide +kernel
theorem dX7_pass_47 : decode cX7_pass 47 = .ok (.istore_n 2, 1) := by decide +kernel
theorem dX7_pass_48 : decode cX7_pass 48 = .ok (.iconst 0, 1) := by decide +kernel
theorem dX7_pass_49 : decode cX7_pass 49 = .ok (.istore_n 3, 1) := by decide +kernel
theorem dX7_pass_50 : decode cX7_pass 50 = .ok (.iload_n 3, 1) := by decide +kernel
theorem dX7_pass_51 : decode cX7_pass 51 = .ok (.iload_n 1, 1) := by decide +kernel
theorem dX7_pass_52 : decode cX7_pass 52 = .ok (.if_icmp .ge 16, 3) := by decide +kernel
theorem dX7_pass_55 : decode cX7_pass 55 = .ok (.iload_n 2, 1) := by decide +kernel
theorem dX7_pass_56 : decode cX7_pass 56 = .ok (.aload_n 0, 1) := by decide +kernel
theorem dX7_pass_57 : decode cX7_pass 57 = .ok (.invokevirtual 240, 3) := by decide +kernel
theorem dX7_pass_60 : decode cX7_pass 60 = .ok (.iadd, 1) := by decide +kernel
theorem dX7_pass_61 : decode cX7_pass 61 = .ok (.istore_n 2, 1) := by decide +kernel
theorem dX7_pass_62 : decode cX7_pass 62 = .ok (.iinc 3 1, 3) := by decide +kernel
theorem dX7_pass_65 : decode cX7_pass 65 = .ok (.goto (-15), 3) := by decide +kernel
theorem dX7_pass_68 : decode cX7_pass 68 = .ok (.iload_n 2, 1) := by decide +kernel
theorem dX7_pass_69 : decode cX7_pass 69 = .ok (.ireturn, 1) := by decide +kernel
theorem dX7_time_0 : decode cX7_time 0 = .ok (.aload_n 0, 1) := by decide +kernel
theorem dX7_time_1 : decode cX7_time 1 = .ok (.getfield 43, 3) := by decide +kernel
theorem dX7_time_4 : decode cX7_time 4 = .ok (.getfield 233, 3) := by decide +kernel
theorem dX7_time_7 : decode cX7_time 7 = .ok (.ireturn, 1) := by decide +kernel
theorem dX7_batches_0 : decode cX7_batches 0 = .ok (.aload_n 0, 1) := by decide +kernel
theorem dX7_batches_1 : decode cX7_batches 1 = .ok (.getfield 50, 3) := by decide +kernel
theorem dX7_batches_4 : decode cX7_batches 4 = .ok (.getfield 247, 3) := by decide +kernel
theorem dX7_batches_7 : decode cX7_batches 7 = .ok (.ireturn, 1) := by decide +kernel
theorem dX7_versionOf_0 : decode cX7_versionOf 0 = .ok (.aload_n 0, 1) := by decide +kernel
theorem dX7_versionOf_1 : decode cX7_versionOf 1 = .ok (.iload_n 1, 1) := by decide +kernel
theorem dX7_versionOf_2 : decode cX7_versionOf 2 = .ok (.invokevirtual 250, 3) := by decide +kernel
theorem dX7_versionOf_5 : decode cX7_versionOf 5 = .ok (.aload_n 0, 1) := by decide +kernel
theorem dX7_versionOf_6 : decode cX7_versionOf 6 = .ok (.getfield 50, 3) := by decide +kernel
theorem dX7_versionOf_9 : decode cX7_versionOf 9 = .ok (.getfield 253, 3) := by decide +kernel
theorem dX7_versionOf_12 : decode cX7_versionOf 12 = .ok (.iload_n 1, 1) := by decide +kernel
theorem dX7_versionOf_13 : decode cX7_versionOf 13 = .ok (.iaload, 1) := by decide +kernel
theorem dX7_versionOf_14 : decode cX7_versionOf 14 = .ok (.ireturn, 1) := by decide +kernel
theorem dX7_lotsOf_0 : decode cX7_lotsOf 0 = .ok (.aload_n 0, 1) := by decide +kernel
theorem dX7_lotsOf_1 : decode cX7_lotsOf 1 = .ok (.iload_n 1, 1) := by decide +kernel
theorem dX7_lotsOf_2 : decode cX7_lotsOf 2 = .ok (.invokevirtual 250, 3) := by decide +kernel
theorem dX7_lotsOf_5 : decode cX7_lotsOf 5 = .ok (.aload_n 0, 1) := by decide +kernel
theorem dX7_lotsOf_6 : decode cX7_lotsOf 6 = .ok (.getfield 50, 3) := by decide +kernel
theorem dX7_lotsOf_9 : decode cX7_lotsOf 9 = .ok (.getfield 256, 3) := by decide +kernel
theorem dX7_lotsOf_12 : decode cX7_lotsOf 12 = .ok (.iload_n 1, 1) := by decide +kernel
theorem dX7_lotsOf_13 : decode cX7_lotsOf 13 = .ok (.iaload, 1) := by decide +kernel
theorem dX7_lotsOf_14 : decode cX7_lotsOf 14 = .ok (.ireturn, 1) := by decide +kernel
theorem dX7_left_0 : decode cX7_left 0 = .ok (.aload_n 0, 1) := by decide +kernel
theorem dX7_left_1 : decode cX7_left 1 = .ok (.iload_n 1, 1) := by decide +kernel
theorem dX7_left_2 : decode cX7_left 2 = .ok (.invokevirtual 250, 3) := by decide +kernel
theorem dX7_left_5 : decode cX7_left 5 = .ok (.aload_n 0, 1) := by decide +kernel
theorem dX7_left_6 : decode cX7_left 6 = .ok (.getfield 50, 3) := by decide +kernel
theorem dX7_left_9 : decode cX7_left 9 = .ok (.getfield 259, 3) := by decide +kernel
theorem dX7_left_12 : decode cX7_left 12 = .ok (.iload_n 1, 1) := by decide +kernel
theorem dX7_left_13 : decode cX7_left 13 = .ok (.iaload, 1) := by decide +kernel
theorem dX7_left_14 : decode cX7_left 14 = .ok (.ireturn, 1) := by decide +kernel
theorem dX7_barred_0 : decode cX7_barred 0 = .ok (.aload_n 0, 1) := by decide +kernel
theorem dX7_barred_1 : decode cX7_barred 1 = .ok (.iload_n 1, 1) := by decide +kernel
theorem dX7_barred_2 : decode cX7_barred 2 = .ok (.invokevirtual 250, 3) := by decide +kernel
theorem dX7_barred_5 : decode cX7_barred 5 = .ok (.aload_n 0, 1) := by decide +kernel
theorem dX7_barred_6 : decode cX7_barred 6 = .ok (.aload_n 0, 1) := by decide +kernel
theorem dX7_barred_7 : decode cX7_barred 7 = .ok (.getfield 10, 3) := by decide +kernel
theorem dX7_barred_10 : decode cX7_barred 10 = .ok (.iload_n 1, 1) := by decide +kernel
theorem dX7_barred_11 : decode cX7_barred 11 = .ok (.invokevirtual 262, 3) := by decide +kernel
theorem dX7_barred_14 : decode cX7_barred 14 = .ok (.ireturn, 1) := by decide +kernel
theorem dX7_barredAnew_0 : decode cX7_barredAnew 0 = .ok (.aload_n 0, 1) := by decide +kernel
theorem dX7_barredAnew_1 : decode cX7_barredAnew 1 = .ok (.iload_n 1, 1) := by decide +kernel
theorem dX7_barredAnew_2 : decode cX7_barredAnew 2 = .ok (.invokevirtual 250, 3) := by decide +kernel
theorem dX7_barredAnew_5 : decode cX7_barredAnew 5 = .ok (.aload_n 0, 1) := by decide +kernel
theorem dX7_barredAnew_6 : decode cX7_barredAnew 6 = .ok (.invokevirtual 266, 3) := by decide +kernel
theorem dX7_barredAnew_9 : decode cX7_barredAnew 9 = .ok (.aload_n 0, 1) := by decide +kernel
theorem dX7_barredAnew_10 : decode cX7_barredAnew 10 = .ok (.aload_n 0, 1) := by decide +kernel
theorem dX7_barredAnew_11 : decode cX7_barredAnew 11 = .ok (.getfield 16, 3) := by decide +kernel
theorem dX7_barredAnew_14 : decode cX7_barredAnew 14 = .ok (.iload_n 1, 1) := by decide +kernel
theorem dX7_barredAnew_15 : decode cX7_barredAnew 15 = .ok (.invokevirtual 262, 3) := by decide +kernel
theorem dX7_barredAnew_18 : decode cX7_barredAnew 18 = .ok (.ireturn, 1) := by decide +kernel
theorem dX7_sell_0 : decode cX7_sell 0 = .ok (.aload_n 0, 1) := by decide +kernel
theorem dX7_sell_1 : decode cX7_sell 1 = .ok (.iload_n 1, 1) := by decide +kernel
theorem dX7_sell_2 : decode cX7_sell 2 = .ok (.invokevirtual 250, 3) := by decide +kernel
theorem dX7_sell_5 : decode cX7_sell 5 = .ok (.iload_n 2, 1) := by decide +kernel
theorem dX7_sell_6 : decode cX7_sell 6 = .ok (.iconst 1, 1) := by decide +kernel
theorem dX7_sell_7 : decode cX7_sell 7 = .ok (.if_icmp .lt 9, 3) := by decide +kernel
theorem dX7_sell_10 : decode cX7_sell 10 = .ok (.iload_n 2, 1) := by decide +kernel
theorem dX7_sell_11 : decode cX7_sell 11 = .ok (.bipush 40, 2) := by decide +kernel
theorem dX7_sell_13 : decode cX7_sell 13 = .ok (.if_icmp .le 14, 3) := by decide +kernel
theorem dX7_sell_16 : decode cX7_sell 16 = .ok (.new 61, 3) := by decide +kernel
theorem dX7_sell_19 : decode cX7_sell 19 = .ok (.dup, 1) := by decide +kernel
theorem dX7_sell_20 : decode cX7_sell 20 = .ok (.ldc_w 269, 3) := by decide +kernel
theorem dX7_sell_23 : decode cX7_sell 23 = .ok (.invokespecial 65, 3) := by decide +kernel
theorem dX7_sell_26 : decode cX7_sell 26 = .ok (.athrow, 1) := by decide +kernel
theorem dX7_sell_27 : decode cX7_sell 27 = .ok (.aload_n 0, 1) := by decide +kernel
theorem dX7_sell_28 : decode cX7_sell 28 = .ok (.aload_n 0, 1) := by decide +kernel
theorem dX7_sell_29 : decode cX7_sell 29 = .ok (.getfield 10, 3) := by decide +kernel
theorem dX7_sell_32 : decode cX7_sell 32 = .ok (.iload_n 1, 1) := by decide +kernel
theorem dX7_sell_33 : decode cX7_sell 33 = .ok (.invokevirtual 262, 3) := by decide +kernel
theorem dX7_sell_36 : decode cX7_sell 36 = .ok (.ifCond .ne 16, 3) := by decide +kernel
theorem dX7_sell_39 : decode cX7_sell 39 = .ok (.aload_n 0, 1) := by decide +kernel
theorem dX7_sell_40 : decode cX7_sell 40 = .ok (.getfield 50, 3) := by decide +kernel
theorem dX7_sell_43 : decode cX7_sell 43 = .ok (.getfield 259, 3) := by decide +kernel
theorem dX7_sell_46 : decode cX7_sell 46 = .ok (.iload_n 1, 1) := by decide +kernel
theorem dX7_sell_47 : decode cX7_sell 47 = .ok (.iaload, 1) := by decide +kernel
theorem dX7_sell_48 : decode cX7_sell 48 = .ok (.iload_n 2, 1) := by decide +kernel
theorem dX7_sell_49 : decode cX7_sell 49 = .ok (.if_icmp .ge 14, 3) := by decide +kernel
theorem dX7_sell_52 : decode cX7_sell 52 = .ok (.new 90, 3) := by decide +kernel
theorem dX7_sell_55 : decode cX7_sell 55 = .ok (.dup, 1) := by decide +kernel
theorem dX7_sell_56 : decode cX7_sell 56 = .ok (.ldc_w 271, 3) := by decide +kernel
theorem dX7_sell_59 : decode cX7_sell 59 = .ok (.invokespecial 94, 3) := by decide +kernel
theorem dX7_sell_62 : decode cX7_sell 62 = .ok (.athrow, 1) := by decide +kernel
theorem dX7_sell_63 : decode cX7_sell 63 = .ok (.aload_n 0, 1) := by decide +kernel
theorem dX7_sell_64 : decode cX7_sell 64 = .ok (.getfield 50, 3) := by decide +kernel
theorem dX7_sell_67 : decode cX7_sell 67 = .ok (.getfield 259, 3) := by decide +kernel
theorem dX7_sell_70 : decode cX7_sell 70 = .ok (.iload_n 1, 1) := by decide +kernel
theorem dX7_sell_71 : decode cX7_sell 71 = .ok (.dup2, 1) := by decide +kernel
theorem dX7_sell_72 : decode cX7_sell 72 = .ok (.iaload, 1) := by decide +kernel
theorem dX7_sell_73 : decode cX7_sell 73 = .ok (.iload_n 2, 1) := by decide +kernel
theorem dX7_sell_74 : decode cX7_sell 74 = .ok (.isub, 1) := by decide +kernel
theorem dX7_sell_75 : decode cX7_sell 75 = .ok (.iastore, 1) := by decide +kernel
theorem dX7_sell_76 : decode cX7_sell 76 = .ok (.aload_n 0, 1) := by decide +kernel
theorem dX7_sell_77 : decode cX7_sell 77 = .ok (.getfield 50, 3) := by decide +kernel
theorem dX7_sell_80 : decode cX7_sell 80 = .ok (.getfield 273, 3) := by decide +kernel
theorem dX7_sell_83 : decode cX7_sell 83 = .ok (.iload_n 1, 1) := by decide +kernel
theorem dX7_sell_84 : decode cX7_sell 84 = .ok (.dup2, 1) := by decide +kernel
theorem dX7_sell_85 : decode cX7_sell 85 = .ok (.iaload, 1) := by decide +kernel
theorem dX7_sell_86 : decode cX7_sell 86 = .ok (.iload_n 2, 1) := by decide +kernel
theorem dX7_sell_87 : decode cX7_sell 87 = .ok (.iadd, 1) := by decide +kernel
theorem dX7_sell_88 : decode cX7_sell 88 = .ok (.iastore, 1) := by decide +kernel
theorem dX7_sell_89 : decode cX7_sell 89 = .ok (.aload_n 0, 1) := by decide +kernel
theorem dX7_sell_90 : decode cX7_sell 90 = .ok (.getfield 50, 3) := by decide +kernel
theorem dX7_sell_93 : decode cX7_sell 93 = .ok (.getfield 259, 3) := by decide +kernel
theorem dX7_sell_96 : decode cX7_sell 96 = .ok (.iload_n 1, 1) := by decide +kernel
theorem dX7_sell_97 : decode cX7_sell 97 = .ok (.iaload, 1) := by decide +kernel
theorem dX7_sell_98 : decode cX7_sell 98 = .ok (.ireturn, 1) := by decide +kernel
theorem dX7_onSale_0 : decode cX7_onSale 0 = .ok (.iconst 0, 1) := by decide +kernel
theorem dX7_onSale_1 : decode cX7_onSale 1 = .ok (.istore_n 1, 1) := by decide +kernel
theorem dX7_onSale_2 : decode cX7_onSale 2 = .ok (.iconst 0, 1) := by decide +kernel
theorem dX7_onSale_3 : decode cX7_onSale 3 = .ok (.istore_n 2, 1) := by decide +kernel
theorem dX7_onSale_4 : decode cX7_onSale 4 = .ok (.iload_n 2, 1) := by decide +kernel
theorem dX7_onSale_5 : decode cX7_onSale 5 = .ok (.aload_n 0, 1) := by decide +kernel
theorem dX7_onSale_6 : decode cX7_onSale 6 = .ok (.getfield 50, 3) := by decide +kernel
theorem dX7_onSale_9 : decode cX7_onSale 9 = .ok (.getfield 247, 3) := by decide +kernel
theorem dX7_onSale_12 : decode cX7_onSale 12 = .ok (.if_icmp .ge 33, 3) := by decide +kernel
theorem dX7_onSale_15 : decode cX7_onSale 15 = .ok (.aload_n 0, 1) := by decide +kernel
theorem dX7_onSale_16 : decode cX7_onSale 16 = .ok (.aload_n 0, 1) := by decide +kernel
theorem dX7_onSale_17 : decode cX7_onSale 17 = .ok (.getfield 10, 3) := by decide +kernel
theorem dX7_onSale_20 : decode cX7_onSale 20 = .ok (.iload_n 2, 1) := by decide +kernel
theorem dX7_onSale_21 : decode cX7_onSale 21 = .ok (.invokevirtual 262, 3) := by decide +kernel
theorem dX7_onSale_24 : decode cX7_onSale 24 = .ok (.ifCond .ne 15, 3) := by decide +kernel
theorem dX7_onSale_27 : decode cX7_onSale 27 = .ok (.iload_n 1, 1) := by decide +kernel
theorem dX7_onSale_28 : decode cX7_onSale 28 = .ok (.aload_n 0, 1) := by decide +kernel
theorem dX7_onSale_29 : decode cX7_onSale 29 = .ok (.getfield 50, 3) := by decide +kernel
theorem dX7_onSale_32 : decode cX7_onSale 32 = .ok (.getfield 259, 3) := by decide +kernel
theorem dX7_onSale_35 : decode cX7_onSale 35 = .ok (.iload_n 2, 1) := by decide +kernel
theorem dX7_onSale_36 : decode cX7_onSale 36 = .ok (.iaload, 1) := by decide +kernel
theorem dX7_onSale_37 : decode cX7_onSale 37 = .ok (.iadd, 1) := by decide +kernel
theorem dX7_onSale_38 : decode cX7_onSale 38 = .ok (.istore_n 1, 1) := by decide +kernel
theorem dX7_onSale_39 : decode cX7_onSale 39 = .ok (.iinc 2 1, 3) := by decide +kernel
theorem dX7_onSale_42 : decode cX7_onSale 42 = .ok (.goto (-38), 3) := by decide +kernel
theorem dX7_onSale_45 : decode cX7_onSale 45 = .ok (.iload_n 1, 1) := by decide +kernel
theorem dX7_onSale_46 : decode cX7_onSale 46 = .ok (.ireturn, 1) := by decide +kernel
theorem dX7_traced_0 : decode cX7_traced 0 = .ok (.aload_n 0, 1) := by decide +kernel
theorem dX7_traced_1 : decode cX7_traced 1 = .ok (.iload_n 1, 1) := by decide +kernel
theorem dX7_traced_2 : decode cX7_traced 2 = .ok (.invokevirtual 190, 3) := by decide +kernel
theorem dX7_traced_5 : decode cX7_traced 5 = .ok (.iconst 0, 1) := by decide +kernel
theorem dX7_traced_6 : decode cX7_traced 6 = .ok (.istore_n 2, 1) := by decide +kernel
theorem dX7_traced_7 : decode cX7_traced 7 = .ok (.iconst 0, 1) := by decide +kernel
theorem dX7_traced_8 : decode cX7_traced 8 = .ok (.istore_n 3, 1) := by decide +kernel
theorem dX7_traced_9 : decode cX7_traced 9 = .ok (.iload_n 3, 1) := by decide +kernel
theorem dX7_traced_10 : decode cX7_traced 10 = .ok (.aload_n 0, 1) := by decide +kernel
theorem dX7_traced_11 : decode cX7_traced 11 = .ok (.getfield 50, 3) := by decide +kernel
theorem dX7_traced_14 : decode cX7_traced 14 = .ok (.getfield 247, 3) := by decide +kernel
theorem dX7_traced_17 : decode cX7_traced 17 = .ok (.if_icmp .ge 29, 3) := by decide +kernel
theorem dX7_traced_20 : decode cX7_traced 20 = .ok (.aload_n 0, 1) := by decide +kernel
theorem dX7_traced_21 : decode cX7_traced 21 = .ok (.getfield 50, 3) := by decide +kernel
theorem dX7_traced_24 : decode cX7_traced 24 = .ok (.getfield 256, 3) := by decide +kernel
theorem dX7_traced_27 : decode cX7_traced 27 = .ok (.iload_n 3, 1) := by decide +kernel
theorem dX7_traced_28 : decode cX7_traced 28 = .ok (.iaload, 1) := by decide +kernel
theorem dX7_traced_29 : decode cX7_traced 29 = .ok (.i2l, 1) := by decide +kernel
theorem dX7_traced_30 : decode cX7_traced 30 = .ok (.iload_n 1, 1) := by decide +kernel
theorem dX7_traced_31 : decode cX7_traced 31 = .ok (.invokestatic 175, 3) := by decide +kernel
theorem dX7_traced_34 : decode cX7_traced 34 = .ok (.ifCond .eq 6, 3) := by decide +kernel
theorem dX7_traced_37 : decode cX7_traced 37 = .ok (.iinc 2 1, 3) := by decide +kernel
theorem dX7_traced_40 : decode cX7_traced 40 = .ok (.iinc 3 1, 3) := by decide +kernel
theorem dX7_traced_43 : decode cX7_traced 43 = .ok (.goto (-34), 3) := by decide +kernel
theorem dX7_traced_46 : decode cX7_traced 46 = .ok (.iload_n 2, 1) := by decide +kernel
theorem dX7_traced_47 : decode cX7_traced 47 = .ok (.ireturn, 1) := by decide +kernel
theorem dX7_tracedAt_0 : decode cX7_tracedAt 0 = .ok (.aload_n 0, 1) := by decide +kernel
theorem dX7_tracedAt_1 : decode cX7_tracedAt 1 = .ok (.iload_n 1, 1) := by decide +kernel
theorem dX7_tracedAt_2 : decode cX7_tracedAt 2 = .ok (.invokevirtual 190, 3) := by decide +kernel
theorem dX7_tracedAt_5 : decode cX7_tracedAt 5 = .ok (.iconst 0, 1) := by decide +kernel
theorem dX7_tracedAt_6 : decode cX7_tracedAt 6 = .ok (.istore_n 3, 1) := by decide +kernel
theorem dX7_tracedAt_7 : decode cX7_tracedAt 7 = .ok (.iconst 0, 1) := by decide +kernel
theorem dX7_tracedAt_8 : decode cX7_tracedAt 8 = .ok (.istore 4, 2) := by decide +kernel
theorem dX7_tracedAt_10 : decode cX7_tracedAt 10 = .ok (.iload 4, 2) := by decide +kernel
theorem dX7_tracedAt_12 : decode cX7_tracedAt 12 = .ok (.aload_n 0, 1) := by decide +kernel
theorem dX7_tracedAt_13 : decode cX7_tracedAt 13 = .ok (.getfield 50, 3) := by decide +kernel
theorem dX7_tracedAt_16 : decode cX7_tracedAt 16 = .ok (.getfield 247, 3) := by decide +kernel
theorem dX7_tracedAt_19 : decode cX7_tracedAt 19 = .ok (.if_icmp .ge 38, 3) := by decide +kernel
theorem dX7_tracedAt_22 : decode cX7_tracedAt 22 = .ok (.aload_n 0, 1) := by decide +kernel
theorem dX7_tracedAt_23 : decode cX7_tracedAt 23 = .ok (.getfield 50, 3) := by decide +kernel
theorem dX7_tracedAt_26 : decode cX7_tracedAt 26 = .ok (.getfield 256, 3) := by decide +kernel
theorem dX7_tracedAt_29 : decode cX7_tracedAt 29 = .ok (.iload 4, 2) := by decide +kernel
theorem dX7_tracedAt_31 : decode cX7_tracedAt 31 = .ok (.iaload, 1) := by decide +kernel
theorem dX7_tracedAt_32 : decode cX7_tracedAt 32 = .ok (.i2l, 1) := by decide +kernel
theorem dX7_tracedAt_33 : decode cX7_tracedAt 33 = .ok (.iload_n 1, 1) := by decide +kernel
theorem dX7_tracedAt_34 : decode cX7_tracedAt 34 = .ok (.invokestatic 175, 3) := by decide +kernel
theorem dX7_tracedAt_37 : decode cX7_tracedAt 37 = .ok (.ifCond .eq 14, 3) := by decide +kernel
theorem dX7_tracedAt_40 : decode cX7_tracedAt 40 = .ok (.iload_n 3, 1) := by decide +kernel
theorem dX7_tracedAt_41 : decode cX7_tracedAt 41 = .ok (.iload_n 2, 1) := by decide +kernel
theorem dX7_tracedAt_42 : decode cX7_tracedAt 42 = .ok (.if_icmp .ne 6, 3) := by decide +kernel
theorem dX7_tracedAt_45 : decode cX7_tracedAt 45 = .ok (.iload 4, 2) := by decide +kernel
theorem dX7_tracedAt_47 : decode cX7_tracedAt 47 = .ok (.ireturn, 1) := by decide +kernel
theorem dX7_tracedAt_48 : decode cX7_tracedAt 48 = .ok (.iinc 3 1, 3) := by decide +kernel
theorem dX7_tracedAt_51 : decode cX7_tracedAt 51 = .ok (.iinc 4 1, 3) := by decide +kernel
theorem dX7_tracedAt_54 : decode cX7_tracedAt 54 = .ok (.goto (-44), 3) := by decide +kernel
theorem dX7_tracedAt_57 : decode cX7_tracedAt 57 = .ok (.new 157, 3) := by decide +kernel
theorem dX7_tracedAt_60 : decode cX7_tracedAt 60 = .ok (.dup, 1) := by decide +kernel
theorem dX7_tracedAt_61 : decode cX7_tracedAt 61 = .ok (.ldc 159, 2) := by decide +kernel
theorem dX7_tracedAt_63 : decode cX7_tracedAt 63 = .ok (.invokespecial 161, 3) := by decide +kernel
theorem dX7_tracedAt_66 : decode cX7_tracedAt 66 = .ok (.athrow, 1) := by decide +kernel
theorem dX7_recalls_0 : decode cX7_recalls 0 = .ok (.aload_n 0, 1) := by decide +kernel
theorem dX7_recalls_1 : decode cX7_recalls 1 = .ok (.getfield 57, 3) := by decide +kernel
theorem dX7_recalls_4 : decode cX7_recalls 4 = .ok (.getfield 276, 3) := by decide +kernel
theorem dX7_recalls_7 : decode cX7_recalls 7 = .ok (.ireturn, 1) := by decide +kernel
theorem dX7_recallOf_0 : decode cX7_recallOf 0 = .ok (.aload_n 0, 1) := by decide +kernel
theorem dX7_recallOf_1 : decode cX7_recallOf 1 = .ok (.iload_n 1, 1) := by decide +kernel
theorem dX7_recallOf_2 : decode cX7_recallOf 2 = .ok (.invokevirtual 277, 3) := by decide +kernel
theorem dX7_recallOf_5 : decode cX7_recallOf 5 = .ok (.aload_n 0, 1) := by decide +kernel
theorem dX7_recallOf_6 : decode cX7_recallOf 6 = .ok (.getfield 57, 3) := by decide +kernel
theorem dX7_recallOf_9 : decode cX7_recallOf 9 = .ok (.getfield 280, 3) := by decide +kernel
theorem dX7_recallOf_12 : decode cX7_recallOf 12 = .ok (.iload_n 1, 1) := by decide +kernel
theorem dX7_recallOf_13 : decode cX7_recallOf 13 = .ok (.iaload, 1) := by decide +kernel
theorem dX7_recallOf_14 : decode cX7_recallOf 14 = .ok (.ireturn, 1) := by decide +kernel
theorem dX7_calledBack_0 : decode cX7_calledBack 0 = .ok (.aload_n 0, 1) := by decide +kernel
theorem dX7_calledBack_1 : decode cX7_calledBack 1 = .ok (.iload_n 1, 1) := by decide +kernel
theorem dX7_calledBack_2 : decode cX7_calledBack 2 = .ok (.invokevirtual 277, 3) := by decide +kernel
theorem dX7_calledBack_5 : decode cX7_calledBack 5 = .ok (.aload_n 0, 1) := by decide +kernel
theorem dX7_calledBack_6 : decode cX7_calledBack 6 = .ok (.getfield 57, 3) := by decide +kernel
theorem dX7_calledBack_9 : decode cX7_calledBack 9 = .ok (.getfield 283, 3) := by decide +kernel
theorem dX7_calledBack_12 : decode cX7_calledBack 12 = .ok (.iload_n 1, 1) := by decide +kernel
theorem dX7_calledBack_13 : decode cX7_calledBack 13 = .ok (.iaload, 1) := by decide +kernel
theorem dX7_calledBack_14 : decode cX7_calledBack 14 = .ok (.ireturn, 1) := by decide +kernel
theorem dX7_why_0 : decode cX7_why 0 = .ok (.aload_n 0, 1) := by decide +kernel
theorem dX7_why_1 : decode cX7_why 1 = .ok (.iload_n 1, 1) := by decide +kernel
theorem dX7_why_2 : decode cX7_why 2 = .ok (.invokevirtual 277, 3) := by decide +kernel
theorem dX7_why_5 : decode cX7_why 5 = .ok (.aload_n 0, 1) := by decide +kernel
theorem dX7_why_6 : decode cX7_why 6 = .ok (.getfield 57, 3) := by decide +kernel
theorem dX7_why_9 : decode cX7_why 9 = .ok (.getfield 286, 3) := by decide +kernel
theorem dX7_why_12 : decode cX7_why 12 = .ok (.iload_n 1, 1) := by decide +kernel
theorem dX7_why_13 : decode cX7_why 13 = .ok (.iaload, 1) := by decide +kernel
theorem dX7_why_14 : decode cX7_why 14 = .ok (.ireturn, 1) := by decide +kernel
theorem dX7_checkBakery_0 : decode cX7_checkBakery 0 = .ok (.iload_n 0, 1) := by decide +kernel
theorem dX7_checkBakery_1 : decode cX7_checkBakery 1 = .ok (.ifCond .lt 8, 3) := by decide +kernel
theorem dX7_checkBakery_4 : decode cX7_checkBakery 4 = .ok (.iload_n 0, 1) := by decide +kernel
theorem dX7_checkBakery_5 : decode cX7_checkBakery 5 = .ok (.iconst 5, 1) := by decide +kernel
theorem dX7_checkBakery_6 : decode cX7_checkBakery 6 = .ok (.if_icmp .lt 14, 3) := by decide +kernel
theorem dX7_checkBakery_9 : decode cX7_checkBakery 9 = .ok (.new 157, 3) := by decide +kernel
theorem dX7_checkBakery_12 : decode cX7_checkBakery 12 = .ok (.dup, 1) := by decide +kernel
theorem dX7_checkBakery_13 : decode cX7_checkBakery 13 = .ok (.ldc_w 289, 3) := by decide +kernel
theorem dX7_checkBakery_16 : decode cX7_checkBakery 16 = .ok (.invokespecial 161, 3) := by decide +kernel
theorem dX7_checkBakery_19 : decode cX7_checkBakery 19 = .ok (.athrow, 1) := by decide +kernel
theorem dX7_checkBakery_20 : decode cX7_checkBakery 20 = .ok (.return_, 1) := by decide +kernel
theorem dX7_checkPair_0 : decode cX7_checkPair 0 = .ok (.iload_n 0, 1) := by decide +kernel
theorem dX7_checkPair_1 : decode cX7_checkPair 1 = .ok (.invokestatic 82, 3) := by decide +kernel
theorem dX7_checkPair_4 : decode cX7_checkPair 4 = .ok (.iload_n 1, 1) := by decide +kernel
theorem dX7_checkPair_5 : decode cX7_checkPair 5 = .ok (.invokestatic 82, 3) := by decide +kernel
theorem dX7_checkPair_8 : decode cX7_checkPair 8 = .ok (.iload_n 0, 1) := by decide +kernel
theorem dX7_checkPair_9 : decode cX7_checkPair 9 = .ok (.iload_n 1, 1) := by decide +kernel
theorem dX7_checkPair_10 : decode cX7_checkPair 10 = .ok (.if_icmp .ne 14, 3) := by decide +kernel
theorem dX7_checkPair_13 : decode cX7_checkPair 13 = .ok (.new 61, 3) := by decide +kernel
theorem dX7_checkPair_16 : decode cX7_checkPair 16 = .ok (.dup, 1) := by decide +kernel
theorem dX7_checkPair_17 : decode cX7_checkPair 17 = .ok (.ldc_w 291, 3) := by decide +kernel
theorem dX7_checkPair_20 : decode cX7_checkPair 20 = .ok (.invokespecial 65, 3) := by decide +kernel
theorem dX7_checkPair_23 : decode cX7_checkPair 23 = .ok (.athrow, 1) := by decide +kernel
theorem dX7_checkPair_24 : decode cX7_checkPair 24 = .ok (.return_, 1) := by decide +kernel
theorem dX7_checkReach_0 : decode cX7_checkReach 0 = .ok (.aload_n 0, 1) := by decide +kernel
theorem dX7_checkReach_1 : decode cX7_checkReach 1 = .ok (.getfield 10, 3) := by decide +kernel
theorem dX7_checkReach_4 : decode cX7_checkReach 4 = .ok (.iload_n 1, 1) := by decide +kernel
theorem dX7_checkReach_5 : decode cX7_checkReach 5 = .ok (.iload_n 2, 1) := by decide +kernel
theorem dX7_checkReach_6 : decode cX7_checkReach 6 = .ok (.invokevirtual 154, 3) := by decide +kernel
theorem dX7_checkReach_9 : decode cX7_checkReach 9 = .ok (.ifCond .ne 14, 3) := by decide +kernel
theorem dX7_checkReach_12 : decode cX7_checkReach 12 = .ok (.new 90, 3) := by decide +kernel
theorem dX7_checkReach_15 : decode cX7_checkReach 15 = .ok (.dup, 1) := by decide +kernel
theorem dX7_checkReach_16 : decode cX7_checkReach 16 = .ok (.ldc_w 293, 3) := by decide +kernel
theorem dX7_checkReach_19 : decode cX7_checkReach 19 = .ok (.invokespecial 94, 3) := by decide +kernel
theorem dX7_checkReach_22 : decode cX7_checkReach 22 = .ok (.athrow, 1) := by decide +kernel
theorem dX7_checkReach_23 : decode cX7_checkReach 23 = .ok (.return_, 1) := by decide +kernel
theorem dX7_checkLeader_0 : decode cX7_checkLeader 0 = .ok (.aload_n 0, 1) := by decide +kernel
theorem dX7_checkLeader_1 : decode cX7_checkLeader 1 = .ok (.getfield 10, 3) := by decide +kernel
theorem dX7_checkLeader_4 : decode cX7_checkLeader 4 = .ok (.getfield 102, 3) := by decide +kernel
theorem dX7_checkLeader_7 : decode cX7_checkLeader 7 = .ok (.iload_n 1, 1) := by decide +kernel
theorem dX7_checkLeader_8 : decode cX7_checkLeader 8 = .ok (.iaload, 1) := by decide +kernel
theorem dX7_checkLeader_9 : decode cX7_checkLeader 9 = .ok (.iconst 2, 1) := by decide +kernel
theorem dX7_checkLeader_10 : decode cX7_checkLeader 10 = .ok (.if_icmp .eq 14, 3) := by decide +kernel
theorem dX7_checkLeader_13 : decode cX7_checkLeader 13 = .ok (.new 90, 3) := by decide +kernel
theorem dX7_checkLeader_16 : decode cX7_checkLeader 16 = .ok (.dup, 1) := by decide +kernel
theorem dX7_checkLeader_17 : decode cX7_checkLeader 17 = .ok (.ldc_w 295, 3) := by decide +kernel
theorem dX7_checkLeader_20 : decode cX7_checkLeader 20 = .ok (.invokespecial 94, 3) := by decide +kernel
theorem dX7_checkLeader_23 : decode cX7_checkLeader 23 = .ok (.athrow, 1) := by decide +kernel
theorem dX7_checkLeader_24 : decode cX7_checkLeader 24 = .ok (.return_, 1) := by decide +kernel
theorem dX7_checkRecipe_0 : decode cX7_checkRecipe 0 = .ok (.iload_n 0, 1) := by decide +kernel
theorem dX7_checkRecipe_1 : decode cX7_checkRecipe 1 = .ok (.ifCond .lt 9, 3) := by decide +kernel
theorem dX7_checkRecipe_4 : decode cX7_checkRecipe 4 = .ok (.iload_n 0, 1) := by decide +kernel
theorem dX7_checkRecipe_5 : decode cX7_checkRecipe 5 = .ok (.bipush 6, 2) := by decide +kernel
theorem dX7_checkRecipe_7 : decode cX7_checkRecipe 7 = .ok (.if_icmp .lt 14, 3) := by decide +kernel
theorem dX7_checkRecipe_10 : decode cX7_checkRecipe 10 = .ok (.new 157, 3) := by decide +kernel
theorem dX7_checkRecipe_13 : decode cX7_checkRecipe 13 = .ok (.dup, 1) := by decide +kernel
theorem dX7_checkRecipe_14 : decode cX7_checkRecipe 14 = .ok (.ldc_w 297, 3) := by decide +kernel
theorem dX7_checkRecipe_17 : decode cX7_checkRecipe 17 = .ok (.invokespecial 161, 3) := by decide +kernel
theorem dX7_checkRecipe_20 : decode cX7_checkRecipe 20 = .ok (.athrow, 1) := by decide +kernel
theorem dX7_checkRecipe_21 : decode cX7_checkRecipe 21 = .ok (.return_, 1) := by decide +kernel
theorem dX7_checkVersion_0 : decode cX7_checkVersion 0 = .ok (.iload_n 1, 1) := by decide +kernel
theorem dX7_checkVersion_1 : decode cX7_checkVersion 1 = .ok (.ifCond .lt 14, 3) := by decide +kernel
theorem dX7_checkVersion_4 : decode cX7_checkVersion 4 = .ok (.iload_n 1, 1) := by decide +kernel
theorem dX7_checkVersion_5 : decode cX7_checkVersion 5 = .ok (.aload_n 0, 1) := by decide +kernel
theorem dX7_checkVersion_6 : decode cX7_checkVersion 6 = .ok (.getfield 10, 3) := by decide +kernel
theorem dX7_checkVersion_9 : decode cX7_checkVersion 9 = .ok (.getfield 125, 3) := by decide +kernel
theorem dX7_checkVersion_12 : decode cX7_checkVersion 12 = .ok (.if_icmp .lt 14, 3) := by decide +kernel
theorem dX7_checkVersion_15 : decode cX7_checkVersion 15 = .ok (.new 157, 3) := by decide +kernel
theorem dX7_checkVersion_18 : decode cX7_checkVersion 18 = .ok (.dup, 1) := by decide +kernel
theorem dX7_checkVersion_19 : decode cX7_checkVersion 19 = .ok (.ldc_w 299, 3) := by decide +kernel
theorem dX7_checkVersion_22 : decode cX7_checkVersion 22 = .ok (.invokespecial 161, 3) := by decide +kernel
theorem dX7_checkVersion_25 : decode cX7_checkVersion 25 = .ok (.athrow, 1) := by decide +kernel
theorem dX7_checkVersion_26 : decode cX7_checkVersion 26 = .ok (.return_, 1) := by decide +kernel
theorem dX7_checkLot_0 : decode cX7_checkLot 0 = .ok (.iload_n 1, 1) := by decide +kernel
theorem dX7_checkLot_1 : decode cX7_checkLot 1 = .ok (.ifCond .lt 14, 3) := by decide +kernel
theorem dX7_checkLot_4 : decode cX7_checkLot 4 = .ok (.iload_n 1, 1) := by decide +kernel
theorem dX7_checkLot_5 : decode cX7_checkLot 5 = .ok (.aload_n 0, 1) := by decide +kernel
theorem dX7_checkLot_6 : decode cX7_checkLot 6 = .ok (.getfield 36, 3) := by decide +kernel
theorem dX7_checkLot_9 : decode cX7_checkLot 9 = .ok (.getfield 185, 3) := by decide +kernel
theorem dX7_checkLot_12 : decode cX7_checkLot 12 = .ok (.if_icmp .lt 14, 3) := by decide +kernel
theorem dX7_checkLot_15 : decode cX7_checkLot 15 = .ok (.new 157, 3) := by decide +kernel
theorem dX7_checkLot_18 : decode cX7_checkLot 18 = .ok (.dup, 1) := by decide +kernel
theorem dX7_checkLot_19 : decode cX7_checkLot 19 = .ok (.ldc_w 301, 3) := by decide +kernel
theorem dX7_checkLot_22 : decode cX7_checkLot 22 = .ok (.invokespecial 161, 3) := by decide +kernel
theorem dX7_checkLot_25 : decode cX7_checkLot 25 = .ok (.athrow, 1) := by decide +kernel
theorem dX7_checkLot_26 : decode cX7_checkLot 26 = .ok (.return_, 1) := by decide +kernel
theorem dX7_checkGood_0 : decode cX7_checkGood 0 = .ok (.aload_n 0, 1) := by decide +kernel
theorem dX7_checkGood_1 : decode cX7_checkGood 1 = .ok (.getfield 36, 3) := by decide +kernel
theorem dX7_checkGood_4 : decode cX7_checkGood 4 = .ok (.getfield 303, 3) := by decide +kernel
theorem dX7_checkGood_7 : decode cX7_checkGood 7 = .ok (.i2l, 1) := by decide +kernel
theorem dX7_checkGood_8 : decode cX7_checkGood 8 = .ok (.iload_n 1, 1) := by decide +kernel
theorem dX7_checkGood_9 : decode cX7_checkGood 9 = .ok (.invokestatic 175, 3) := by decide +kernel
theorem dX7_checkGood_12 : decode cX7_checkGood 12 = .ok (.ifCond .eq 14, 3) := by decide +kernel
theorem dX7_checkGood_15 : decode cX7_checkGood 15 = .ok (.new 90, 3) := by decide +kernel
theorem dX7_checkGood_18 : decode cX7_checkGood 18 = .ok (.dup, 1) := by decide +kernel
theorem dX7_checkGood_19 : decode cX7_checkGood 19 = .ok (.ldc_w 306, 3) := by decide +kernel
theorem dX7_checkGood_22 : decode cX7_checkGood 22 = .ok (.invokespecial 94, 3) := by decide +kernel
theorem dX7_checkGood_25 : decode cX7_checkGood 25 = .ok (.athrow, 1) := by decide +kernel
theorem dX7_checkGood_26 : decode cX7_checkGood 26 = .ok (.return_, 1) := by decide +kernel
theorem dX7_checkHour_0 : decode cX7_checkHour 0 = .ok (.iload_n 1, 1) := by decide +kernel
theorem dX7_checkHour_1 : decode cX7_checkHour 1 = .ok (.aload_n 0, 1) := by decide +kernel
theorem dX7_checkHour_2 : decode cX7_checkHour 2 = .ok (.getfield 43, 3) := by decide +kernel
theorem dX7_checkHour_5 : decode cX7_checkHour 5 = .ok (.getfield 233, 3) := by decide +kernel
theorem dX7_checkHour_8 : decode cX7_checkHour 8 = .ok (.if_icmp .lt 17, 3) := by decide +kernel
theorem dX7_checkHour_11 : decode cX7_checkHour 11 = .ok (.iload_n 1, 1) := by decide +kernel
theorem dX7_checkHour_12 : decode cX7_checkHour 12 = .ok (.aload_n 0, 1) := by decide +kernel
theorem dX7_checkHour_13 : decode cX7_checkHour 13 = .ok (.getfield 43, 3) := by decide +kernel
theorem dX7_checkHour_16 : decode cX7_checkHour 16 = .ok (.getfield 233, 3) := by decide +kernel
theorem dX7_checkHour_19 : decode cX7_checkHour 19 = .ok (.bipush 50, 2) := by decide +kernel
theorem dX7_checkHour_21 : decode cX7_checkHour 21 = .ok (.iadd, 1) := by decide +kernel
theorem dX7_checkHour_22 : decode cX7_checkHour 22 = .ok (.if_icmp .le 14, 3) := by decide +kernel
theorem dX7_checkHour_25 : decode cX7_checkHour 25 = .ok (.new 61, 3) := by decide +kernel
theorem dX7_checkHour_28 : decode cX7_checkHour 28 = .ok (.dup, 1) := by decide +kernel
theorem dX7_checkHour_29 : decode cX7_checkHour 29 = .ok (.ldc_w 308, 3) := by decide +kernel
theorem dX7_checkHour_32 : decode cX7_checkHour 32 = .ok (.invokespecial 65, 3) := by decide +kernel
theorem dX7_checkHour_35 : decode cX7_checkHour 35 = .ok (.athrow, 1) := by decide +kernel
theorem dX7_checkHour_36 : decode cX7_checkHour 36 = .ok (.return_, 1) := by decide +kernel
theorem dX7_checkBatch_0 : decode cX7_checkBatch 0 = .ok (.iload_n 1, 1) := by decide +kernel
theorem dX7_checkBatch_1 : decode cX7_checkBatch 1 = .ok (.ifCond .lt 14, 3) := by decide +kernel
theorem dX7_checkBatch_4 : decode cX7_checkBatch 4 = .ok (.iload_n 1, 1) := by decide +kernel
theorem dX7_checkBatch_5 : decode cX7_checkBatch 5 = .ok (.aload_n 0, 1) := by decide +kernel
theorem dX7_checkBatch_6 : decode cX7_checkBatch 6 = .ok (.getfield 50, 3) := by decide +kernel
theorem dX7_checkBatch_9 : decode cX7_checkBatch 9 = .ok (.getfield 247, 3) := by decide +kernel
theorem dX7_checkBatch_12 : decode cX7_checkBatch 12 = .ok (.if_icmp .lt 14, 3) := by decide +kernel
theorem dX7_checkBatch_15 : decode cX7_checkBatch 15 = .ok (.new 157, 3) := by decide +kernel
theorem dX7_checkBatch_18 : decode cX7_checkBatch 18 = .ok (.dup, 1) := by decide +kernel
theorem dX7_checkBatch_19 : decode cX7_checkBatch 19 = .ok (.ldc_w 312, 3) := by decide +kernel
theorem dX7_checkBatch_22 : decode cX7_checkBatch 22 = .ok (.invokespecial 161, 3) := by decide +kernel
theorem dX7_checkBatch_25 : decode cX7_checkBatch 25 = .ok (.athrow, 1) := by decide +kernel
theorem dX7_checkBatch_26 : decode cX7_checkBatch 26 = .ok (.return_, 1) := by decide +kernel
theorem dX7_checkRecall_0 : decode cX7_checkRecall 0 = .ok (.iload_n 1, 1) := by decide +kernel
theorem dX7_checkRecall_1 : decode cX7_checkRecall 1 = .ok (.ifCond .lt 14, 3) := by decide +kernel
theorem dX7_checkRecall_4 : decode cX7_checkRecall 4 = .ok (.iload_n 1, 1) := by decide +kernel
theorem dX7_checkRecall_5 : decode cX7_checkRecall 5 = .ok (.aload_n 0, 1) := by decide +kernel
theorem dX7_checkRecall_6 : decode cX7_checkRecall 6 = .ok (.getfield 57, 3) := by decide +kernel
theorem dX7_checkRecall_9 : decode cX7_checkRecall 9 = .ok (.getfield 276, 3) := by decide +kernel
theorem dX7_checkRecall_12 : decode cX7_checkRecall 12 = .ok (.if_icmp .lt 14, 3) := by decide +kernel
theorem dX7_checkRecall_15 : decode cX7_checkRecall 15 = .ok (.new 157, 3) := by decide +kernel
theorem dX7_checkRecall_18 : decode cX7_checkRecall 18 = .ok (.dup, 1) := by decide +kernel
theorem dX7_checkRecall_19 : decode cX7_checkRecall 19 = .ok (.ldc_w 314, 3) := by decide +kernel
theorem dX7_checkRecall_22 : decode cX7_checkRecall 22 = .ok (.invokespecial 161, 3) := by decide +kernel
theorem dX7_checkRecall_25 : decode cX7_checkRecall 25 = .ok (.athrow, 1) := by decide +kernel
theorem dX7_checkRecall_26 : decode cX7_checkRecall 26 = .ok (.return_, 1) := by decide +kernel
theorem dX7_contains_0 : decode cX7_contains 0 = .ok (.lload_n 0, 1) := by decide +kernel
theorem dX7_contains_1 : decode cX7_contains 1 = .ok (.iload_n 2, 1) := by decide +kernel
theorem dX7_contains_2 : decode cX7_contains 2 = .ok (.lushr, 1) := by decide +kernel
theorem dX7_contains_3 : decode cX7_contains 3 = .ok (.lconst 1, 1) := by decide +kernel
theorem dX7_contains_4 : decode cX7_contains 4 = .ok (.land, 1) := by decide +kernel
theorem dX7_contains_5 : decode cX7_contains 5 = .ok (.lconst 0, 1) := by decide +kernel
theorem dX7_contains_6 : decode cX7_contains 6 = .ok (.lcmp, 1) := by decide +kernel
theorem dX7_contains_7 : decode cX7_contains 7 = .ok (.ifCond .eq 7, 3) := by decide +kernel
theorem dX7_contains_10 : decode cX7_contains 10 = .ok (.iconst 1, 1) := by decide +kernel
theorem dX7_contains_11 : decode cX7_contains 11 = .ok (.goto 4, 3) := by decide +kernel
theorem dX7_contains_14 : decode cX7_contains 14 = .ok (.iconst 0, 1) := by decide +kernel
theorem dX7_contains_15 : decode cX7_contains 15 = .ok (.ireturn, 1) := by decide +kernel
theorem dX7_findCurrent_0 : decode cX7_findCurrent 0 = .ok (.aload_n 0, 1) := by decide +kernel
theorem dX7_findCurrent_1 : decode cX7_findCurrent 1 = .ok (.getfield 10, 3) := by decide +kernel
theorem dX7_findCurrent_4 : decode cX7_findCurrent 4 = .ok (.getfield 122, 3) := by decide +kernel
theorem dX7_findCurrent_7 : decode cX7_findCurrent 7 = .ok (.iload_n 1, 1) := by decide +kernel
theorem dX7_findCurrent_8 : decode cX7_findCurrent 8 = .ok (.iaload, 1) := by decide +kernel
theorem dX7_findCurrent_9 : decode cX7_findCurrent 9 = .ok (.iconst 1, 1) := by decide +kernel
theorem dX7_findCurrent_10 : decode cX7_findCurrent 10 = .ok (.isub, 1) := by decide +kernel
theorem dX7_findCurrent_11 : decode cX7_findCurrent 11 = .ok (.istore_n 3, 1) := by decide +kernel
theorem dX7_findCurrent_12 : decode cX7_findCurrent 12 = .ok (.iload_n 3, 1) := by decide +kernel
theorem dX7_findCurrent_13 : decode cX7_findCurrent 13 = .ok (.ifCond .lt 54, 3) := by decide +kernel
theorem dX7_findCurrent_16 : decode cX7_findCurrent 16 = .ok (.aload_n 0, 1) := by decide +kernel
theorem dX7_findCurrent_17 : decode cX7_findCurrent 17 = .ok (.getfield 10, 3) := by decide +kernel
theorem dX7_findCurrent_20 : decode cX7_findCurrent 20 = .ok (.getfield 162, 3) := by decide +kernel
theorem dX7_findCurrent_23 : decode cX7_findCurrent 23 = .ok (.iload_n 1, 1) := by decide +kernel
theorem dX7_findCurrent_24 : decode cX7_findCurrent 24 = .ok (.aaload, 1) := by decide +kernel
theorem dX7_findCurrent_25 : decode cX7_findCurrent 25 = .ok (.iload_n 3, 1) := by decide +kernel
theorem dX7_findCurrent_26 : decode cX7_findCurrent 26 = .ok (.iaload, 1) := by decide +kernel
theorem dX7_findCurrent_27 : decode cX7_findCurrent 27 = .ok (.istore 4, 2) := by decide +kernel
theorem dX7_findCurrent_29 : decode cX7_findCurrent 29 = .ok (.aload_n 0, 1) := by decide +kernel
theorem dX7_findCurrent_30 : decode cX7_findCurrent 30 = .ok (.getfield 29, 3) := by decide +kernel
theorem dX7_findCurrent_33 : decode cX7_findCurrent 33 = .ok (.getfield 227, 3) := by decide +kernel
theorem dX7_findCurrent_36 : decode cX7_findCurrent 36 = .ok (.iload 4, 2) := by decide +kernel
theorem dX7_findCurrent_38 : decode cX7_findCurrent 38 = .ok (.iaload, 1) := by decide +kernel
theorem dX7_findCurrent_39 : decode cX7_findCurrent 39 = .ok (.iload_n 2, 1) := by decide +kernel
theorem dX7_findCurrent_40 : decode cX7_findCurrent 40 = .ok (.if_icmp .ne 21, 3) := by decide +kernel
theorem dX7_findCurrent_43 : decode cX7_findCurrent 43 = .ok (.aload_n 0, 1) := by decide +kernel
theorem dX7_findCurrent_44 : decode cX7_findCurrent 44 = .ok (.getfield 10, 3) := by decide +kernel
theorem dX7_findCurrent_47 : decode cX7_findCurrent 47 = .ok (.getfield 137, 3) := by decide +kernel
theorem dX7_findCurrent_50 : decode cX7_findCurrent 50 = .ok (.iload 4, 2) := by decide +kernel
theorem dX7_findCurrent_52 : decode cX7_findCurrent 52 = .ok (.invokestatic 175, 3) := by decide +kernel
theorem dX7_findCurrent_55 : decode cX7_findCurrent 55 = .ok (.ifCond .eq 6, 3) := by decide +kernel
theorem dX7_findCurrent_58 : decode cX7_findCurrent 58 = .ok (.iload 4, 2) := by decide +kernel
theorem dX7_findCurrent_60 : decode cX7_findCurrent 60 = .ok (.ireturn, 1) := by decide +kernel
theorem dX7_findCurrent_61 : decode cX7_findCurrent 61 = .ok (.iinc 3 (-1), 3) := by decide +kernel
theorem dX7_findCurrent_64 : decode cX7_findCurrent 64 = .ok (.goto (-52), 3) := by decide +kernel
theorem dX7_findCurrent_67 : decode cX7_findCurrent 67 = .ok (.iconst (-1), 1) := by decide +kernel
theorem dX7_findCurrent_68 : decode cX7_findCurrent 68 = .ok (.ireturn, 1) := by decide +kernel
theorem dX7_putCurrent_0 : decode cX7_putCurrent 0 = .ok (.aload_n 0, 1) := by decide +kernel
theorem dX7_putCurrent_1 : decode cX7_putCurrent 1 = .ok (.iload_n 1, 1) := by decide +kernel
theorem dX7_putCurrent_2 : decode cX7_putCurrent 2 = .ok (.iload_n 3, 1) := by decide +kernel
theorem dX7_putCurrent_3 : decode cX7_putCurrent 3 = .ok (.invokevirtual 182, 3) := by decide +kernel
theorem dX7_putCurrent_6 : decode cX7_putCurrent 6 = .ok (.istore 4, 2) := by decide +kernel
theorem dX7_putCurrent_8 : decode cX7_putCurrent 8 = .ok (.iload 4, 2) := by decide +kernel
theorem dX7_putCurrent_10 : decode cX7_putCurrent 10 = .ok (.iconst (-1), 1) := by decide +kernel
theorem dX7_putCurrent_11 : decode cX7_putCurrent 11 = .ok (.if_icmp .ne 14, 3) := by decide +kernel
theorem dX7_putCurrent_14 : decode cX7_putCurrent 14 = .ok (.new 90, 3) := by decide +kernel
theorem dX7_putCurrent_17 : decode cX7_putCurrent 17 = .ok (.dup, 1) := by decide +kernel
theorem dX7_putCurrent_18 : decode cX7_putCurrent 18 = .ok (.ldc_w 316, 3) := by decide +kernel
theorem dX7_putCurrent_21 : decode cX7_putCurrent 21 = .ok (.invokespecial 94, 3) := by decide +kernel
theorem dX7_putCurrent_24 : decode cX7_putCurrent 24 = .ok (.athrow, 1) := by decide +kernel
theorem dX7_putCurrent_25 : decode cX7_putCurrent 25 = .ok (.aload_n 0, 1) := by decide +kernel
theorem dX7_putCurrent_26 : decode cX7_putCurrent 26 = .ok (.getfield 43, 3) := by decide +kernel
theorem dX7_putCurrent_29 : decode cX7_putCurrent 29 = .ok (.iload_n 1, 1) := by decide +kernel
theorem dX7_putCurrent_30 : decode cX7_putCurrent 30 = .ok (.iload_n 2, 1) := by decide +kernel
theorem dX7_putCurrent_31 : decode cX7_putCurrent 31 = .ok (.iload 4, 2) := by decide +kernel
theorem dX7_putCurrent_33 : decode cX7_putCurrent 33 = .ok (.invokevirtual 230, 3) := by decide +kernel
theorem dX7_putCurrent_36 : decode cX7_putCurrent 36 = .ok (.iload 4, 2) := by decide +kernel
theorem dX7_putCurrent_38 : decode cX7_putCurrent 38 = .ok (.ireturn, 1) := by decide +kernel
theorem dX7_passHour_0 : decode cX7_passHour 0 = .ok (.iconst 0, 1) := by decide +kernel
theorem dX7_passHour_1 : decode cX7_passHour 1 = .ok (.istore_n 1, 1) := by decide +kernel
theorem dX7_passHour_2 : decode cX7_passHour 2 = .ok (.iconst 0, 1) := by decide +kernel
theorem dX7_passHour_3 : decode cX7_passHour 3 = .ok (.istore_n 2, 1) := by decide +kernel
theorem dX7_passHour_4 : decode cX7_passHour 4 = .ok (.iload_n 2, 1) := by decide +kernel
theorem dX7_passHour_5 : decode cX7_passHour 5 = .ok (.iconst 5, 1) := by decide +kernel
theorem dX7_passHour_6 : decode cX7_passHour 6 = .ok (.if_icmp .ge 80, 3) := by decide +kernel
theorem dX7_passHour_9 : decode cX7_passHour 9 = .ok (.aload_n 0, 1) := by decide +kernel
theorem dX7_passHour_10 : decode cX7_passHour 10 = .ok (.getfield 43, 3) := by decide +kernel
theorem dX7_passHour_13 : decode cX7_passHour 13 = .ok (.iload_n 2, 1) := by decide +kernel
theorem dX7_passHour_14 : decode cX7_passHour 14 = .ok (.aload_n 0, 1) := by decide +kernel
theorem dX7_passHour_15 : decode cX7_passHour 15 = .ok (.getfield 43, 3) := by decide +kernel
theorem dX7_passHour_18 : decode cX7_passHour 18 = .ok (.getfield 233, 3) := by decide +kernel
theorem dX7_passHour_21 : decode cX7_passHour 21 = .ok (.invokevirtual 215, 3) := by decide +kernel
theorem dX7_passHour_24 : decode cX7_passHour 24 = .ok (.istore_n 3, 1) := by decide +kernel
theorem dX7_passHour_25 : decode cX7_passHour 25 = .ok (.iload_n 3, 1) := by decide +kernel
theorem dX7_passHour_26 : decode cX7_passHour 26 = .ok (.iconst (-1), 1) := by decide +kernel
theorem dX7_passHour_27 : decode cX7_passHour 27 = .ok (.if_icmp .eq 53, 3) := by decide +kernel
theorem dX7_passHour_30 : decode cX7_passHour 30 = .ok (.aload_n 0, 1) := by decide +kernel
theorem dX7_passHour_31 : decode cX7_passHour 31 = .ok (.iload_n 2, 1) := by decide +kernel
theorem dX7_passHour_32 : decode cX7_passHour 32 = .ok (.iload_n 3, 1) := by decide +kernel
theorem dX7_passHour_33 : decode cX7_passHour 33 = .ok (.invokevirtual 318, 3) := by decide +kernel
theorem dX7_passHour_36 : decode cX7_passHour 36 = .ok (.ifCond .eq 15, 3) := by decide +kernel
theorem dX7_passHour_39 : decode cX7_passHour 39 = .ok (.aload_n 0, 1) := by decide +kernel
theorem dX7_passHour_40 : decode cX7_passHour 40 = .ok (.iload_n 2, 1) := by decide +kernel
theorem dX7_passHour_41 : decode cX7_passHour 41 = .ok (.iload_n 3, 1) := by decide +kernel
theorem dX7_passHour_42 : decode cX7_passHour 42 = .ok (.invokevirtual 321, 3) := by decide +kernel
theorem dX7_passHour_45 : decode cX7_passHour 45 = .ok (.iinc 1 1, 3) := by decide +kernel
theorem dX7_passHour_48 : decode cX7_passHour 48 = .ok (.goto 16, 3) := by decide +kernel
theorem dX7_passHour_51 : decode cX7_passHour 51 = .ok (.aload_n 0, 1) := by decide +kernel
theorem dX7_passHour_52 : decode cX7_passHour 52 = .ok (.getfield 43, 3) := by decide +kernel
theorem dX7_passHour_55 : decode cX7_passHour 55 = .ok (.getfield 244, 3) := by decide +kernel
theorem dX7_passHour_58 : decode cX7_passHour 58 = .ok (.iload_n 2, 1) := by decide +kernel
theorem dX7_passHour_59 : decode cX7_passHour 59 = .ok (.dup2, 1) := by decide +kernel
theorem dX7_passHour_60 : decode cX7_passHour 60 = .ok (.iaload, 1) := by decide +kernel
theorem dX7_passHour_61 : decode cX7_passHour 61 = .ok (.iconst 1, 1) := by decide +kernel
theorem dX7_passHour_62 : decode cX7_passHour 62 = .ok (.iadd, 1) := by decide +kernel
theorem dX7_passHour_63 : decode cX7_passHour 63 = .ok (.iastore, 1) := by decide +kernel
theorem dX7_passHour_64 : decode cX7_passHour 64 = .ok (.aload_n 0, 1) := by decide +kernel
theorem dX7_passHour_65 : decode cX7_passHour 65 = .ok (.getfield 43, 3) := by decide +kernel
theorem dX7_passHour_68 : decode cX7_passHour 68 = .ok (.iload_n 2, 1) := by decide +kernel
theorem dX7_passHour_69 : decode cX7_passHour 69 = .ok (.aload_n 0, 1) := by decide +kernel
theorem dX7_passHour_70 : decode cX7_passHour 70 = .ok (.getfield 43, 3) := by decide +kernel
theorem dX7_passHour_73 : decode cX7_passHour 73 = .ok (.getfield 233, 3) := by decide +kernel
theorem dX7_passHour_76 : decode cX7_passHour 76 = .ok (.iconst (-1), 1) := by decide +kernel
theorem dX7_passHour_77 : decode cX7_passHour 77 = .ok (.invokevirtual 230, 3) := by decide +kernel
theorem dX7_passHour_80 : decode cX7_passHour 80 = .ok (.iinc 2 1, 3) := by decide +kernel
theorem dX7_passHour_83 : decode cX7_passHour 83 = .ok (.goto (-79), 3) := by decide +kernel
theorem dX7_passHour_86 : decode cX7_passHour 86 = .ok (.aload_n 0, 1) := by decide +kernel
theorem dX7_passHour_87 : decode cX7_passHour 87 = .ok (.getfield 43, 3) := by decide +kernel
theorem dX7_passHour_90 : decode cX7_passHour 90 = .ok (.dup, 1) := by decide +kernel
theorem dX7_passHour_91 : decode cX7_passHour 91 = .ok (.getfield 233, 3) := by decide +kernel
theorem dX7_passHour_94 : decode cX7_passHour 94 = .ok (.iconst 1, 1) := by decide +kernel
theorem dX7_passHour_95 : decode cX7_passHour 95 = .ok (.iadd, 1) := by decide +kernel
theorem dX7_passHour_96 : decode cX7_passHour 96 = .ok (.putfield 233, 3) := by decide +kernel
theorem dX7_passHour_99 : decode cX7_passHour 99 = .ok (.iload_n 1, 1) := by decide +kernel
theorem dX7_passHour_100 : decode cX7_passHour 100 = .ok (.ireturn, 1) := by decide +kernel
theorem dX7_canBake_0 : decode cX7_canBake 0 = .ok (.aload_n 0, 1) := by decide +kernel
theorem dX7_canBake_1 : decode cX7_canBake 1 = .ok (.getfield 10, 3) := by decide +kernel
theorem dX7_canBake_4 : decode cX7_canBake 4 = .ok (.getfield 137, 3) := by decide +kernel
theorem dX7_canBake_7 : decode cX7_canBake 7 = .ok (.iload_n 2, 1) := by decide +kernel
theorem dX7_canBake_8 : decode cX7_canBake 8 = .ok (.invokestatic 175, 3) := by decide +kernel
theorem dX7_canBake_11 : decode cX7_canBake 11 = .ok (.ifCond .eq 40, 3) := by decide +kernel
theorem dX7_canBake_14 : decode cX7_canBake 14 = .ok (.aload_n 0, 1) := by decide +kernel
theorem dX7_canBake_15 : decode cX7_canBake 15 = .ok (.getfield 36, 3) := by decide +kernel
theorem dX7_canBake_18 : decode cX7_canBake 18 = .ok (.getfield 198, 3) := by decide +kernel
theorem dX7_canBake_21 : decode cX7_canBake 21 = .ok (.iload_n 1, 1) := by decide +kernel
theorem dX7_canBake_22 : decode cX7_canBake 22 = .ok (.iaload, 1) := by decide +kernel
theorem dX7_canBake_23 : decode cX7_canBake 23 = .ok (.aload_n 0, 1) := by decide +kernel
theorem dX7_canBake_24 : decode cX7_canBake 24 = .ok (.getfield 29, 3) := by decide +kernel
theorem dX7_canBake_27 : decode cX7_canBake 27 = .ok (.getfield 324, 3) := by decide +kernel
theorem dX7_canBake_30 : decode cX7_canBake 30 = .ok (.iload_n 2, 1) := by decide +kernel
theorem dX7_canBake_31 : decode cX7_canBake 31 = .ok (.iaload, 1) := by decide +kernel
theorem dX7_canBake_32 : decode cX7_canBake 32 = .ok (.if_icmp .lt 19, 3) := by decide +kernel
theorem dX7_canBake_35 : decode cX7_canBake 35 = .ok (.aload_n 0, 1) := by decide +kernel
theorem dX7_canBake_36 : decode cX7_canBake 36 = .ok (.getfield 50, 3) := by decide +kernel
theorem dX7_canBake_39 : decode cX7_canBake 39 = .ok (.getfield 247, 3) := by decide +kernel
theorem dX7_canBake_42 : decode cX7_canBake 42 = .ok (.bipush 60, 2) := by decide +kernel
theorem dX7_canBake_44 : decode cX7_canBake 44 = .ok (.if_icmp .ge 7, 3) := by decide +kernel
theorem dX7_canBake_47 : decode cX7_canBake 47 = .ok (.iconst 1, 1) := by decide +kernel
theorem dX7_canBake_48 : decode cX7_canBake 48 = .ok (.goto 4, 3) := by decide +kernel
theorem dX7_canBake_51 : decode cX7_canBake 51 = .ok (.iconst 0, 1) := by decide +kernel
theorem dX7_canBake_52 : decode cX7_canBake 52 = .ok (.ireturn, 1) := by decide +kernel
theorem dX7_bake_0 : decode cX7_bake 0 = .ok (.aload_n 0, 1) := by decide +kernel
theorem dX7_bake_1 : decode cX7_bake 1 = .ok (.getfield 36, 3) := by decide +kernel
theorem dX7_bake_4 : decode cX7_bake 4 = .ok (.iload_n 1, 1) := by decide +kernel
theorem dX7_bake_5 : decode cX7_bake 5 = .ok (.aload_n 0, 1) := by decide +kernel
theorem dX7_bake_6 : decode cX7_bake 6 = .ok (.getfield 29, 3) := by decide +kernel
theorem dX7_bake_9 : decode cX7_bake 9 = .ok (.getfield 324, 3) := by decide +kernel
theorem dX7_bake_12 : decode cX7_bake 12 = .ok (.iload_n 2, 1) := by decide +kernel
theorem dX7_bake_13 : decode cX7_bake 13 = .ok (.iaload, 1) := by decide +kernel
theorem dX7_bake_14 : decode cX7_bake 14 = .ok (.invokevirtual 327, 3) := by decide +kernel
theorem dX7_bake_17 : decode cX7_bake 17 = .ok (.istore_n 3, 1) := by decide +kernel
theorem dX7_bake_18 : decode cX7_bake 18 = .ok (.aload_n 0, 1) := by decide +kernel
theorem dX7_bake_19 : decode cX7_bake 19 = .ok (.getfield 50, 3) := by decide +kernel
theorem dX7_bake_22 : decode cX7_bake 22 = .ok (.iload_n 2, 1) := by decide +kernel
theorem dX7_bake_23 : decode cX7_bake 23 = .ok (.iload_n 3, 1) := by decide +kernel
theorem dX7_bake_24 : decode cX7_bake 24 = .ok (.aload_n 0, 1) := by decide +kernel
theorem dX7_bake_25 : decode cX7_bake 25 = .ok (.getfield 29, 3) := by decide +kernel
theorem dX7_bake_28 : decode cX7_bake 28 = .ok (.getfield 330, 3) := by decide +kernel
theorem dX7_bake_31 : decode cX7_bake 31 = .ok (.iload_n 2, 1) := by decide +kernel
theorem dX7_bake_32 : decode cX7_bake 32 = .ok (.iaload, 1) := by decide +kernel
theorem dX7_bake_33 : decode cX7_bake 33 = .ok (.invokevirtual 333, 3) := by decide +kernel
theorem dX7_bake_36 : decode cX7_bake 36 = .ok (.return_, 1) := by decide +kernel
theorem dX7_barredUnder_0 : decode cX7_barredUnder 0 = .ok (.aload_n 1, 1) := by decide +kernel
theorem dX7_barredUnder_1 : decode cX7_barredUnder 1 = .ok (.getfield 137, 3) := by decide +kernel
theorem dX7_barredUnder_4 : decode cX7_barredUnder 4 = .ok (.aload_n 0, 1) := by decide +kernel
theorem dX7_barredUnder_5 : decode cX7_barredUnder 5 = .ok (.getfield 50, 3) := by decide +kernel
theorem dX7_barredUnder_8 : decode cX7_barredUnder 8 = .ok (.getfield 253, 3) := by decide +kernel
theorem dX7_barredUnder_11 : decode cX7_barredUnder 11 = .ok (.iload_n 2, 1) := by decide +kernel
theorem dX7_barredUnder_12 : decode cX7_barredUnder 12 = .ok (.iaload, 1) := by decide +kernel
theorem dX7_barredUnder_13 : decode cX7_barredUnder 13 = .ok (.invokestatic 175, 3) := by decide +kernel
theorem dX7_barredUnder_16 : decode cX7_barredUnder 16 = .ok (.ifCond .eq 7, 3) := by decide +kernel
theorem dX7_barredUnder_19 : decode cX7_barredUnder 19 = .ok (.iconst 0, 1) := by decide +kernel
theorem dX7_barredUnder_20 : decode cX7_barredUnder 20 = .ok (.goto 4, 3) := by decide +kernel
theorem dX7_barredUnder_23 : decode cX7_barredUnder 23 = .ok (.iconst 1, 1) := by decide +kernel
theorem dX7_barredUnder_24 : decode cX7_barredUnder 24 = .ok (.istore_n 3, 1) := by decide +kernel
theorem dX7_barredUnder_25 : decode cX7_barredUnder 25 = .ok (.aload_n 0, 1) := by decide +kernel
theorem dX7_barredUnder_26 : decode cX7_barredUnder 26 = .ok (.getfield 50, 3) := by decide +kernel
theorem dX7_barredUnder_29 : decode cX7_barredUnder 29 = .ok (.getfield 256, 3) := by decide +kernel
theorem dX7_barredUnder_32 : decode cX7_barredUnder 32 = .ok (.iload_n 2, 1) := by decide +kernel
theorem dX7_barredUnder_33 : decode cX7_barredUnder 33 = .ok (.iaload, 1) := by decide +kernel
theorem dX7_barredUnder_34 : decode cX7_barredUnder 34 = .ok (.aload_n 0, 1) := by decide +kernel
theorem dX7_barredUnder_35 : decode cX7_barredUnder 35 = .ok (.getfield 36, 3) := by decide +kernel
theorem dX7_barredUnder_38 : decode cX7_barredUnder 38 = .ok (.getfield 303, 3) := by decide +kernel
theorem dX7_barredUnder_41 : decode cX7_barredUnder 41 = .ok (.iand, 1) := by decide +kernel
theorem dX7_barredUnder_42 : decode cX7_barredUnder 42 = .ok (.ifCond .ne 7, 3) := by decide +kernel
theorem dX7_barredUnder_45 : decode cX7_barredUnder 45 = .ok (.iconst 0, 1) := by decide +kernel
theorem dX7_barredUnder_46 : decode cX7_barredUnder 46 = .ok (.goto 4, 3) := by decide +kernel
theorem dX7_barredUnder_49 : decode cX7_barredUnder 49 = .ok (.iconst 2, 1) := by decide +kernel
theorem dX7_barredUnder_50 : decode cX7_barredUnder 50 = .ok (.istore 4, 2) := by decide +kernel
theorem dX7_barredUnder_52 : decode cX7_barredUnder 52 = .ok (.iload_n 3, 1) := by decide +kernel
theorem dX7_barredUnder_53 : decode cX7_barredUnder 53 = .ok (.iload 4, 2) := by decide +kernel
theorem dX7_barredUnder_55 : decode cX7_barredUnder 55 = .ok (.iadd, 1) := by decide +kernel
theorem dX7_barredUnder_56 : decode cX7_barredUnder 56 = .ok (.ireturn, 1) := by decide +kernel
theorem dX7_callBackUnheld_0 : decode cX7_callBackUnheld 0 = .ok (.iconst 0, 1) := by decide +kernel
theorem dX7_callBackUnheld_1 : decode cX7_callBackUnheld 1 = .ok (.istore_n 3, 1) := by decide +kernel
theorem dX7_callBackUnheld_2 : decode cX7_callBackUnheld 2 = .ok (.iload_n 3, 1) := by decide +kernel
theorem dX7_callBackUnheld_3 : decode cX7_callBackUnheld 3 = .ok (.aload_n 0, 1) := by decide +kernel
theorem dX7_callBackUnheld_4 : decode cX7_callBackUnheld 4 = .ok (.getfield 10, 3) := by decide +kernel
theorem dX7_callBackUnheld_7 : decode cX7_callBackUnheld 7 = .ok (.getfield 125, 3) := by decide +kernel
theorem dX7_callBackUnheld_10 : decode cX7_callBackUnheld 10 = .ok (.if_icmp .ge 22, 3) := by decide +kernel
theorem dX7_callBackUnheld_13 : decode cX7_callBackUnheld 13 = .ok (.lload_n 1, 1) := by decide +kernel
theorem dX7_callBackUnheld_14 : decode cX7_callBackUnheld 14 = .ok (.iload_n 3, 1) := by decide +kernel
theorem dX7_callBackUnheld_15 : decode cX7_callBackUnheld 15 = .ok (.invokestatic 175, 3) := by decide +kernel
theorem dX7_callBackUnheld_18 : decode cX7_callBackUnheld 18 = .ok (.ifCond .eq 8, 3) := by decide +kernel
theorem dX7_callBackUnheld_21 : decode cX7_callBackUnheld 21 = .ok (.aload_n 0, 1) := by decide +kernel
theorem dX7_callBackUnheld_22 : decode cX7_callBackUnheld 22 = .ok (.iload_n 3, 1) := by decide +kernel
theorem dX7_callBackUnheld_23 : decode cX7_callBackUnheld 23 = .ok (.invokevirtual 334, 3) := by decide +kernel
theorem dX7_callBackUnheld_26 : decode cX7_callBackUnheld 26 = .ok (.iinc 3 1, 3) := by decide +kernel
theorem dX7_callBackUnheld_29 : decode cX7_callBackUnheld 29 = .ok (.goto (-27), 3) := by decide +kernel
theorem dX7_callBackUnheld_32 : decode cX7_callBackUnheld 32 = .ok (.return_, 1) := by decide +kernel
theorem dX7_callBackVersion_0 : decode cX7_callBackVersion 0 = .ok (.iconst 0, 1) := by decide +kernel
theorem dX7_callBackVersion_1 : decode cX7_callBackVersion 1 = .ok (.istore_n 2, 1) := by decide +kernel
theorem dX7_callBackVersion_2 : decode cX7_callBackVersion 2 = .ok (.iload_n 2, 1) := by decide +kernel
theorem dX7_callBackVersion_3 : decode cX7_callBackVersion 3 = .ok (.aload_n 0, 1) := by decide +kernel
theorem dX7_callBackVersion_4 : decode cX7_callBackVersion 4 = .ok (.getfield 50, 3) := by decide +kernel
theorem dX7_callBackVersion_7 : decode cX7_callBackVersion 7 = .ok (.getfield 247, 3) := by decide +kernel
theorem dX7_callBackVersion_10 : decode cX7_callBackVersion 10 = .ok (.if_icmp .ge 29, 3) := by decide +kernel
theorem dX7_callBackVersion_13 : decode cX7_callBackVersion 13 = .ok (.aload_n 0, 1) := by decide +kernel
theorem dX7_callBackVersion_14 : decode cX7_callBackVersion 14 = .ok (.getfield 50, 3) := by decide +kernel
theorem dX7_callBackVersion_17 : decode cX7_callBackVersion 17 = .ok (.getfield 253, 3) := by decide +kernel
theorem dX7_callBackVersion_20 : decode cX7_callBackVersion 20 = .ok (.iload_n 2, 1) := by decide +kernel
theorem dX7_callBackVersion_21 : decode cX7_callBackVersion 21 = .ok (.iaload, 1) := by decide +kernel
theorem dX7_callBackVersion_22 : decode cX7_callBackVersion 22 = .ok (.iload_n 1, 1) := by decide +kernel
theorem dX7_callBackVersion_23 : decode cX7_callBackVersion 23 = .ok (.if_icmp .ne 10, 3) := by decide +kernel
theorem dX7_callBackVersion_26 : decode cX7_callBackVersion 26 = .ok (.aload_n 0, 1) := by decide +kernel
theorem dX7_callBackVersion_27 : decode cX7_callBackVersion 27 = .ok (.iload_n 2, 1) := by decide +kernel
theorem dX7_callBackVersion_28 : decode cX7_callBackVersion 28 = .ok (.iconst 1, 1) := by decide +kernel
theorem dX7_callBackVersion_29 : decode cX7_callBackVersion 29 = .ok (.invokevirtual 337, 3) := by decide +kernel
theorem dX7_callBackVersion_32 : decode cX7_callBackVersion 32 = .ok (.pop, 1) := by decide +kernel
theorem dX7_callBackVersion_33 : decode cX7_callBackVersion 33 = .ok (.iinc 2 1, 3) := by decide +kernel
theorem dX7_callBackVersion_36 : decode cX7_callBackVersion 36 = .ok (.goto (-34), 3) := by decide +kernel
theorem dX7_callBackVersion_39 : decode cX7_callBackVersion 39 = .ok (.return_, 1) := by decide +kernel
theorem dX7_callBackLot_0 : decode cX7_callBackLot 0 = .ok (.iconst 0, 1) := by decide +kernel
theorem dX7_callBackLot_1 : decode cX7_callBackLot 1 = .ok (.istore_n 2, 1) := by decide +kernel
theorem dX7_callBackLot_2 : decode cX7_callBackLot 2 = .ok (.iconst 0, 1) := by decide +kernel
theorem dX7_callBackLot_3 : decode cX7_callBackLot 3 = .ok (.istore_n 3, 1) := by decide +kernel
theorem dX7_callBackLot_4 : decode cX7_callBackLot 4 = .ok (.iload_n 3, 1) := by decide +kernel
theorem dX7_callBackLot_5 : decode cX7_callBackLot 5 = .ok (.aload_n 0, 1) := by decide +kernel
theorem dX7_callBackLot_6 : decode cX7_callBackLot 6 = .ok (.getfield 50, 3) := by decide +kernel
theorem dX7_callBackLot_9 : decode cX7_callBackLot 9 = .ok (.getfield 247, 3) := by decide +kernel
theorem dX7_callBackLot_12 : decode cX7_callBackLot 12 = .ok (.if_icmp .ge 35, 3) := by decide +kernel
theorem dX7_callBackLot_15 : decode cX7_callBackLot 15 = .ok (.aload_n 0, 1) := by decide +kernel
theorem dX7_callBackLot_16 : decode cX7_callBackLot 16 = .ok (.getfield 50, 3) := by decide +kernel
theorem dX7_callBackLot_19 : decode cX7_callBackLot 19 = .ok (.getfield 256, 3) := by decide +kernel
theorem dX7_callBackLot_22 : decode cX7_callBackLot 22 = .ok (.iload_n 3, 1) := by decide +kernel
theorem dX7_callBackLot_23 : decode cX7_callBackLot 23 = .ok (.iaload, 1) := by decide +kernel
theorem dX7_callBackLot_24 : decode cX7_callBackLot 24 = .ok (.i2l, 1) := by decide +kernel
theorem dX7_callBackLot_25 : decode cX7_callBackLot 25 = .ok (.iload_n 1, 1) := by decide +kernel
theorem dX7_callBackLot_26 : decode cX7_callBackLot 26 = .ok (.invokestatic 175, 3) := by decide +kernel
theorem dX7_callBackLot_29 : decode cX7_callBackLot 29 = .ok (.ifCond .eq 12, 3) := by decide +kernel
theorem dX7_callBackLot_32 : decode cX7_callBackLot 32 = .ok (.iload_n 2, 1) := by decide +kernel
theorem dX7_callBackLot_33 : decode cX7_callBackLot 33 = .ok (.aload_n 0, 1) := by decide +kernel
theorem dX7_callBackLot_34 : decode cX7_callBackLot 34 = .ok (.iload_n 3, 1) := by decide +kernel
theorem dX7_callBackLot_35 : decode cX7_callBackLot 35 = .ok (.iconst 2, 1) := by decide +kernel
theorem dX7_callBackLot_36 : decode cX7_callBackLot 36 = .ok (.invokevirtual 337, 3) := by decide +kernel
theorem dX7_callBackLot_39 : decode cX7_callBackLot 39 = .ok (.iadd, 1) := by decide +kernel
theorem dX7_callBackLot_40 : decode cX7_callBackLot 40 = .ok (.istore_n 2, 1) := by decide +kernel
theorem dX7_callBackLot_41 : decode cX7_callBackLot 41 = .ok (.iinc 3 1, 3) := by decide +kernel
theorem dX7_callBackLot_44 : decode cX7_callBackLot 44 = .ok (.goto (-40), 3) := by decide +kernel
theorem dX7_callBackLot_47 : decode cX7_callBackLot 47 = .ok (.iload_n 2, 1) := by decide +kernel
theorem dX7_callBackLot_48 : decode cX7_callBackLot 48 = .ok (.ireturn, 1) := by decide +kernel
theorem dX7_callBackBatch_0 : decode cX7_callBackBatch 0 = .ok (.aload_n 0, 1) := by decide +kernel
theorem dX7_callBackBatch_1 : decode cX7_callBackBatch 1 = .ok (.getfield 50, 3) := by decide +kernel
theorem dX7_callBackBatch_4 : decode cX7_callBackBatch 4 = .ok (.getfield 273, 3) := by decide +kernel
theorem dX7_callBackBatch_7 : decode cX7_callBackBatch 7 = .ok (.iload_n 1, 1) := by decide +kernel
theorem dX7_callBackBatch_8 : decode cX7_callBackBatch 8 = .ok (.iaload, 1) := by decide +kernel
theorem dX7_callBackBatch_9 : decode cX7_callBackBatch 9 = .ok (.istore_n 3, 1) := by decide +kernel
theorem dX7_callBackBatch_10 : decode cX7_callBackBatch 10 = .ok (.iload_n 3, 1) := by decide +kernel
theorem dX7_callBackBatch_11 : decode cX7_callBackBatch 11 = .ok (.ifCond .le 23, 3) := by decide +kernel
theorem dX7_callBackBatch_14 : decode cX7_callBackBatch 14 = .ok (.aload_n 0, 1) := by decide +kernel
theorem dX7_callBackBatch_15 : decode cX7_callBackBatch 15 = .ok (.getfield 50, 3) := by decide +kernel
theorem dX7_callBackBatch_18 : decode cX7_callBackBatch 18 = .ok (.getfield 273, 3) := by decide +kernel
theorem dX7_callBackBatch_21 : decode cX7_callBackBatch 21 = .ok (.iload_n 1, 1) := by decide +kernel
theorem dX7_callBackBatch_22 : decode cX7_callBackBatch 22 = .ok (.iconst 0, 1) := by decide +kernel
theorem dX7_callBackBatch_23 : decode cX7_callBackBatch 23 = .ok (.iastore, 1) := by decide +kernel
theorem dX7_callBackBatch_24 : decode cX7_callBackBatch 24 = .ok (.aload_n 0, 1) := by decide +kernel
theorem dX7_callBackBatch_25 : decode cX7_callBackBatch 25 = .ok (.getfield 57, 3) := by decide +kernel
theorem dX7_callBackBatch_28 : decode cX7_callBackBatch 28 = .ok (.iload_n 1, 1) := by decide +kernel
theorem dX7_callBackBatch_29 : decode cX7_callBackBatch 29 = .ok (.iload_n 3, 1) := by decide +kernel
theorem dX7_callBackBatch_30 : decode cX7_callBackBatch 30 = .ok (.iload_n 2, 1) := by decide +kernel
theorem dX7_callBackBatch_31 : decode cX7_callBackBatch 31 = .ok (.invokevirtual 340, 3) := by decide +kernel
theorem dX7_callBackBatch_34 : decode cX7_callBackBatch 34 = .ok (.iload_n 3, 1) := by decide +kernel
theorem dX7_callBackBatch_35 : decode cX7_callBackBatch 35 = .ok (.ireturn, 1) := by decide +kernel
theorem dX7_repeatHistory_0 : decode cX7_repeatHistory 0 = .ok (.aload_n 0, 1) := by decide +kernel
theorem dX7_repeatHistory_1 : decode cX7_repeatHistory 1 = .ok (.getfield 16, 3) := by decide +kernel
theorem dX7_repeatHistory_4 : decode cX7_repeatHistory 4 = .ok (.invokevirtual 343, 3) := by decide +kernel
theorem dX7_repeatHistory_7 : decode cX7_repeatHistory 7 = .ok (.iconst 0, 1) := by decide +kernel
theorem dX7_repeatHistory_8 : decode cX7_repeatHistory 8 = .ok (.istore_n 1, 1) := by decide +kernel
theorem dX7_repeatHistory_9 : decode cX7_repeatHistory 9 = .ok (.iload_n 1, 1) := by decide +kernel
theorem dX7_repeatHistory_10 : decode cX7_repeatHistory 10 = .ok (.aload_n 0, 1) := by decide +kernel
theorem dX7_repeatHistory_11 : decode cX7_repeatHistory 11 = .ok (.getfield 22, 3) := by decide +kernel
theorem dX7_repeatHistory_14 : decode cX7_repeatHistory 14 = .ok (.getfield 346, 3) := by decide +kernel
theorem dX7_repeatHistory_17 : decode cX7_repeatHistory 17 = .ok (.if_icmp .ge 40, 3) := by decide +kernel
theorem dX7_repeatHistory_20 : decode cX7_repeatHistory 20 = .ok (.aload_n 0, 1) := by decide +kernel
theorem dX7_repeatHistory_21 : decode cX7_repeatHistory 21 = .ok (.aload_n 0, 1) := by decide +kernel
theorem dX7_repeatHistory_22 : decode cX7_repeatHistory 22 = .ok (.getfield 22, 3) := by decide +kernel
theorem dX7_repeatHistory_25 : decode cX7_repeatHistory 25 = .ok (.getfield 347, 3) := by decide +kernel
theorem dX7_repeatHistory_28 : decode cX7_repeatHistory 28 = .ok (.iload_n 1, 1) := by decide +kernel
theorem dX7_repeatHistory_29 : decode cX7_repeatHistory 29 = .ok (.iaload, 1) := by decide +kernel
theorem dX7_repeatHistory_30 : decode cX7_repeatHistory 30 = .ok (.aload_n 0, 1) := by decide +kernel
theorem dX7_repeatHistory_31 : decode cX7_repeatHistory 31 = .ok (.getfield 22, 3) := by decide +kernel
theorem dX7_repeatHistory_34 : decode cX7_repeatHistory 34 = .ok (.getfield 350, 3) := by decide +kernel
theorem dX7_repeatHistory_37 : decode cX7_repeatHistory 37 = .ok (.iload_n 1, 1) := by decide +kernel
theorem dX7_repeatHistory_38 : decode cX7_repeatHistory 38 = .ok (.iaload, 1) := by decide +kernel
theorem dX7_repeatHistory_39 : decode cX7_repeatHistory 39 = .ok (.aload_n 0, 1) := by decide +kernel
theorem dX7_repeatHistory_40 : decode cX7_repeatHistory 40 = .ok (.getfield 22, 3) := by decide +kernel
theorem dX7_repeatHistory_43 : decode cX7_repeatHistory 43 = .ok (.getfield 353, 3) := by decide +kernel
theorem dX7_repeatHistory_46 : decode cX7_repeatHistory 46 = .ok (.iload_n 1, 1) := by decide +kernel
theorem dX7_repeatHistory_47 : decode cX7_repeatHistory 47 = .ok (.iaload, 1) := by decide +kernel
theorem dX7_repeatHistory_48 : decode cX7_repeatHistory 48 = .ok (.invokevirtual 356, 3) := by decide +kernel
theorem dX7_repeatHistory_51 : decode cX7_repeatHistory 51 = .ok (.iinc 1 1, 3) := by decide +kernel
theorem dX7_repeatHistory_54 : decode cX7_repeatHistory 54 = .ok (.goto (-45), 3) := by decide +kernel
theorem dX7_repeatHistory_57 : decode cX7_repeatHistory 57 = .ok (.return_, 1) := by decide +kernel
theorem dX7_repeatCall_0 : decode cX7_repeatCall 0 = .ok (.iload_n 1, 1) := by decide +kernel
theorem dX7_repeatCall_1 : decode cX7_repeatCall 1 = .ok (.tableswitch 95 0 4 #[35, 46, 57, 70, 82], 35) := by decide +kernel
theorem dX7_repeatCall_36 : decode cX7_repeatCall 36 = .ok (.aload_n 0, 1) := by decide +kernel
theorem dX7_repeatCall_37 : decode cX7_repeatCall 37 = .ok (.getfield 16, 3) := by decide +kernel
theorem dX7_repeatCall_40 : decode cX7_repeatCall 40 = .ok (.iload_n 2, 1) := by decide +kernel
theorem dX7_repeatCall_41 : decode cX7_repeatCall 41 = .ok (.putfield 68, 3) := by decide +kernel
theorem dX7_repeatCall_44 : decode cX7_repeatCall 44 = .ok (.goto 52, 3) := by decide +kernel
theorem dX7_repeatCall_47 : decode cX7_repeatCall 47 = .ok (.aload_n 0, 1) := by decide +kernel
theorem dX7_repeatCall_48 : decode cX7_repeatCall 48 = .ok (.getfield 16, 3) := by decide +kernel
theorem dX7_repeatCall_51 : decode cX7_repeatCall 51 = .ok (.iload_n 2, 1) := by decide +kernel
theorem dX7_repeatCall_52 : decode cX7_repeatCall 52 = .ok (.invokevirtual 95, 3) := by decide +kernel
theorem dX7_repeatCall_55 : decode cX7_repeatCall 55 = .ok (.goto 41, 3) := by decide +kernel
theorem dX7_repeatCall_58 : decode cX7_repeatCall 58 = .ok (.aload_n 0, 1) := by decide +kernel
theorem dX7_repeatCall_59 : decode cX7_repeatCall 59 = .ok (.getfield 16, 3) := by decide +kernel
theorem dX7_repeatCall_62 : decode cX7_repeatCall 62 = .ok (.iload_n 2, 1) := by decide +kernel
theorem dX7_repeatCall_63 : decode cX7_repeatCall 63 = .ok (.iload_n 3, 1) := by decide +kernel
theorem dX7_repeatCall_64 : decode cX7_repeatCall 64 = .ok (.invokevirtual 110, 3) := by decide +kernel
theorem dX7_repeatCall_67 : decode cX7_repeatCall 67 = .ok (.pop, 1) := by decide +kernel
theorem dX7_repeatCall_68 : decode cX7_repeatCall 68 = .ok (.goto 28, 3) := by decide +kernel
theorem dX7_repeatCall_71 : decode cX7_repeatCall 71 = .ok (.aload_n 0, 1) := by decide +kernel
theorem dX7_repeatCall_72 : decode cX7_repeatCall 72 = .ok (.getfield 16, 3) := by decide +kernel
theorem dX7_repeatCall_75 : decode cX7_repeatCall 75 = .ok (.iload_n 2, 1) := by decide +kernel
theorem dX7_repeatCall_76 : decode cX7_repeatCall 76 = .ok (.invokevirtual 130, 3) := by decide +kernel
theorem dX7_repeatCall_79 : decode cX7_repeatCall 79 = .ok (.pop, 1) := by decide +kernel
theorem dX7_repeatCall_80 : decode cX7_repeatCall 80 = .ok (.goto 16, 3) := by decide +kernel
theorem dX7_repeatCall_83 : decode cX7_repeatCall 83 = .ok (.aload_n 0, 1) := by decide +kernel
theorem dX7_repeatCall_84 : decode cX7_repeatCall 84 = .ok (.getfield 16, 3) := by decide +kernel
theorem dX7_repeatCall_87 : decode cX7_repeatCall 87 = .ok (.iload_n 2, 1) := by decide +kernel
theorem dX7_repeatCall_88 : decode cX7_repeatCall 88 = .ok (.iload_n 3, 1) := by decide +kernel
theorem dX7_repeatCall_89 : decode cX7_repeatCall 89 = .ok (.invokevirtual 141, 3) := by decide +kernel
theorem dX7_repeatCall_92 : decode cX7_repeatCall 92 = .ok (.pop, 1) := by decide +kernel
theorem dX7_repeatCall_93 : decode cX7_repeatCall 93 = .ok (.goto 3, 3) := by decide +kernel
theorem dX7_repeatCall_96 : decode cX7_repeatCall 96 = .ok (.return_, 1) := by decide +kernel
