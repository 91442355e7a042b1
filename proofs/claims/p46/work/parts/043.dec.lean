theorem dL_low_0 : decode cL_low 0 = .ok (.iload_n 0, 1) := by decide +kernel
theorem dL_low_1 : decode cL_low 1 = .ok (.ldc 7, 2) := by decide +kernel
theorem dL_low_3 : decode cL_low 3 = .ok (.iand, 1) := by decide +kernel
theorem dL_low_4 : decode cL_low 4 = .ok (.iload_n 1, 1) := by decide +kernel
theorem dL_low_5 : decode cL_low 5 = .ok (.irem, 1) := by decide +kernel
theorem dL_low_6 : decode cL_low 6 = .ok (.ireturn, 1) := by decide +kernel
theorem dL_cell_0 : decode cL_cell 0 = .ok (.iload_n 1, 1) := by decide +kernel
theorem dL_cell_1 : decode cL_cell 1 = .ok (.aload_n 0, 1) := by decide +kernel
theorem dL_cell_2 : decode cL_cell 2 = .ok (.arraylength, 1) := by decide +kernel
theorem dL_cell_3 : decode cL_cell 3 = .ok (.if_icmp .ge 9, 3) := by decide +kernel
theorem dL_cell_6 : decode cL_cell 6 = .ok (.aload_n 0, 1) := by decide +kernel
theorem dL_cell_7 : decode cL_cell 7 = .ok (.iload_n 1, 1) := by decide +kernel
theorem dL_cell_8 : decode cL_cell 8 = .ok (.iaload, 1) := by decide +kernel
theorem dL_cell_9 : decode cL_cell 9 = .ok (.goto 11, 3) := by decide +kernel
theorem dL_cell_12 : decode cL_cell 12 = .ok (.ldc 8, 2) := by decide +kernel
theorem dL_cell_14 : decode cL_cell 14 = .ok (.iload_n 1, 1) := by decide +kernel
theorem dL_cell_15 : decode cL_cell 15 = .ok (.imul, 1) := by decide +kernel
theorem dL_cell_16 : decode cL_cell 16 = .ok (.sipush 977, 3) := by decide +kernel
theorem dL_cell_19 : decode cL_cell 19 = .ok (.iadd, 1) := by decide +kernel
theorem dL_cell_20 : decode cL_cell 20 = .ok (.ireturn, 1) := by decide +kernel
theorem dL_vote_0 : decode cL_vote 0 = .ok (.aload_n 0, 1) := by decide +kernel
theorem dL_vote_1 : decode cL_vote 1 = .ok (.iload_n 1, 1) := by decide +kernel
theorem dL_vote_2 : decode cL_vote 2 = .ok (.iload_n 2, 1) := by decide +kernel
theorem dL_vote_3 : decode cL_vote 3 = .ok (.invokevirtual 9, 3) := by decide +kernel
theorem dL_vote_6 : decode cL_vote 6 = .ok (.ireturn, 1) := by decide +kernel
theorem dL_vote_7 : decode cL_vote 7 = .ok (.astore_n 3, 1) := by decide +kernel
theorem dL_vote_8 : decode cL_vote 8 = .ok (.iconst 0, 1) := by decide +kernel
theorem dL_vote_9 : decode cL_vote 9 = .ok (.ireturn, 1) := by decide +kernel
theorem dL_propose_0 : decode cL_propose 0 = .ok (.aload_n 0, 1) := by decide +kernel
theorem dL_propose_1 : decode cL_propose 1 = .ok (.iload_n 1, 1) := by decide +kernel
theorem dL_propose_2 : decode cL_propose 2 = .ok (.iload_n 2, 1) := by decide +kernel
theorem dL_propose_3 : decode cL_propose 3 = .ok (.iload_n 3, 1) := by decide +kernel
theorem dL_propose_4 : decode cL_propose 4 = .ok (.iload 4, 2) := by decide +kernel
theorem dL_propose_6 : decode cL_propose 6 = .ok (.invokevirtual 17, 3) := by decide +kernel
theorem dL_propose_9 : decode cL_propose 9 = .ok (.ireturn, 1) := by decide +kernel
theorem dL_propose_10 : decode cL_propose 10 = .ok (.astore 5, 2) := by decide +kernel
theorem dL_propose_12 : decode cL_propose 12 = .ok (.bipush (-3), 2) := by decide +kernel
theorem dL_propose_14 : decode cL_propose 14 = .ok (.ireturn, 1) := by decide +kernel
theorem dL_tell_0 : decode cL_tell 0 = .ok (.aload_n 0, 1) := by decide +kernel
theorem dL_tell_1 : decode cL_tell 1 = .ok (.iload_n 1, 1) := by decide +kernel
theorem dL_tell_2 : decode cL_tell 2 = .ok (.iload_n 2, 1) := by decide +kernel
theorem dL_tell_3 : decode cL_tell 3 = .ok (.invokevirtual 21, 3) := by decide +kernel
theorem dL_tell_6 : decode cL_tell 6 = .ok (.ireturn, 1) := by decide +kernel
theorem dL_tell_7 : decode cL_tell 7 = .ok (.astore_n 3, 1) := by decide +kernel
theorem dL_tell_8 : decode cL_tell 8 = .ok (.bipush (-3), 2) := by decide +kernel
theorem dL_tell_10 : decode cL_tell 10 = .ok (.ireturn, 1) := by decide +kernel
theorem dL_deliver_0 : decode cL_deliver 0 = .ok (.aload_n 0, 1) := by decide +kernel
theorem dL_deliver_1 : decode cL_deliver 1 = .ok (.iload_n 1, 1) := by decide +kernel
theorem dL_deliver_2 : decode cL_deliver 2 = .ok (.iload_n 2, 1) := by decide +kernel
theorem dL_deliver_3 : decode cL_deliver 3 = .ok (.iload_n 3, 1) := by decide +kernel
theorem dL_deliver_4 : decode cL_deliver 4 = .ok (.invokevirtual 25, 3) := by decide +kernel
theorem dL_deliver_7 : decode cL_deliver 7 = .ok (.ireturn, 1) := by decide +kernel
theorem dL_deliver_8 : decode cL_deliver 8 = .ok (.astore 4, 2) := by decide +kernel
theorem dL_deliver_10 : decode cL_deliver 10 = .ok (.bipush (-3), 2) := by decide +kernel
theorem dL_deliver_12 : decode cL_deliver 12 = .ok (.ireturn, 1) := by decide +kernel
theorem dL_book_0 : decode cL_book 0 = .ok (.aload_n 0, 1) := by decide +kernel
theorem dL_book_1 : decode cL_book 1 = .ok (.iload_n 1, 1) := by decide +kernel
theorem dL_book_2 : decode cL_book 2 = .ok (.iload_n 2, 1) := by decide +kernel
theorem dL_book_3 : decode cL_book 3 = .ok (.iload_n 3, 1) := by decide +kernel
theorem dL_book_4 : decode cL_book 4 = .ok (.invokevirtual 29, 3) := by decide +kernel
theorem dL_book_7 : decode cL_book 7 = .ok (.ireturn, 1) := by decide +kernel
theorem dL_book_8 : decode cL_book 8 = .ok (.astore 4, 2) := by decide +kernel
theorem dL_book_10 : decode cL_book 10 = .ok (.bipush (-3), 2) := by decide +kernel
theorem dL_book_12 : decode cL_book 12 = .ok (.ireturn, 1) := by decide +kernel
theorem dL_sell_0 : decode cL_sell 0 = .ok (.aload_n 0, 1) := by decide +kernel
theorem dL_sell_1 : decode cL_sell 1 = .ok (.iload_n 1, 1) := by decide +kernel
theorem dL_sell_2 : decode cL_sell 2 = .ok (.iload_n 2, 1) := by decide +kernel
theorem dL_sell_3 : decode cL_sell 3 = .ok (.invokevirtual 32, 3) := by decide +kernel
theorem dL_sell_6 : decode cL_sell 6 = .ok (.ireturn, 1) := by decide +kernel
theorem dL_sell_7 : decode cL_sell 7 = .ok (.astore_n 3, 1) := by decide +kernel
theorem dL_sell_8 : decode cL_sell 8 = .ok (.bipush (-3), 2) := by decide +kernel
theorem dL_sell_10 : decode cL_sell 10 = .ok (.ireturn, 1) := by decide +kernel
theorem dL_condemn_0 : decode cL_condemn 0 = .ok (.aload_n 0, 1) := by decide +kernel
theorem dL_condemn_1 : decode cL_condemn 1 = .ok (.iload_n 1, 1) := by decide +kernel
theorem dL_condemn_2 : decode cL_condemn 2 = .ok (.invokevirtual 35, 3) := by decide +kernel
theorem dL_condemn_5 : decode cL_condemn 5 = .ok (.ireturn, 1) := by decide +kernel
theorem dL_condemn_6 : decode cL_condemn 6 = .ok (.astore_n 2, 1) := by decide +kernel
theorem dL_condemn_7 : decode cL_condemn 7 = .ok (.bipush (-3), 2) := by decide +kernel
theorem dL_condemn_9 : decode cL_condemn 9 = .ok (.ireturn, 1) := by decide +kernel
theorem dL_bits_0 : decode cL_bits 0 = .ok (.iconst 0, 1) := by decide +kernel
theorem dL_bits_1 : decode cL_bits 1 = .ok (.istore_n 1, 1) := by decide +kernel
theorem dL_bits_2 : decode cL_bits 2 = .ok (.iload_n 0, 1) := by decide +kernel
theorem dL_bits_3 : decode cL_bits 3 = .ok (.istore_n 2, 1) := by decide +kernel
theorem dL_bits_4 : decode cL_bits 4 = .ok (.iload_n 2, 1) := by decide +kernel
theorem dL_bits_5 : decode cL_bits 5 = .ok (.ifCond .eq 15, 3) := by decide +kernel
theorem dL_bits_8 : decode cL_bits 8 = .ok (.iinc 1 1, 3) := by decide +kernel
theorem dL_bits_11 : decode cL_bits 11 = .ok (.iload_n 2, 1) := by decide +kernel
theorem dL_bits_12 : decode cL_bits 12 = .ok (.iload_n 2, 1) := by decide +kernel
theorem dL_bits_13 : decode cL_bits 13 = .ok (.iconst 1, 1) := by decide +kernel
theorem dL_bits_14 : decode cL_bits 14 = .ok (.isub, 1) := by decide +kernel
theorem dL_bits_15 : decode cL_bits 15 = .ok (.iand, 1) := by decide +kernel
theorem dL_bits_16 : decode cL_bits 16 = .ok (.istore_n 2, 1) := by decide +kernel
theorem dL_bits_17 : decode cL_bits 17 = .ok (.goto (-13), 3) := by decide +kernel
theorem dL_bits_20 : decode cL_bits 20 = .ok (.iload_n 1, 1) := by decide +kernel
theorem dL_bits_21 : decode cL_bits 21 = .ok (.ireturn, 1) := by decide +kernel
theorem dL_roles_0 : decode cL_roles 0 = .ok (.iconst 1, 1) := by decide +kernel
theorem dL_roles_1 : decode cL_roles 1 = .ok (.istore_n 1, 1) := by decide +kernel
theorem dL_roles_2 : decode cL_roles 2 = .ok (.iconst 0, 1) := by decide +kernel
theorem dL_roles_3 : decode cL_roles 3 = .ok (.istore_n 2, 1) := by decide +kernel
theorem dL_roles_4 : decode cL_roles 4 = .ok (.iload_n 2, 1) := by decide +kernel
theorem dL_roles_5 : decode cL_roles 5 = .ok (.iconst 5, 1) := by decide +kernel
theorem dL_roles_6 : decode cL_roles 6 = .ok (.if_icmp .ge 92, 3) := by decide +kernel
theorem dL_roles_9 : decode cL_roles 9 = .ok (.iload_n 1, 1) := by decide +kernel
theorem dL_roles_10 : decode cL_roles 10 = .ok (.ifCond .eq 88, 3) := by decide +kernel
theorem dL_roles_13 : decode cL_roles 13 = .ok (.aload_n 0, 1) := by decide +kernel
theorem dL_roles_14 : decode cL_roles 14 = .ok (.iload_n 2, 1) := by decide +kernel
theorem dL_roles_15 : decode cL_roles 15 = .ok (.invokevirtual 39, 3) := by decide +kernel
theorem dL_roles_18 : decode cL_roles 18 = .ok (.istore_n 3, 1) := by decide +kernel
theorem dL_roles_19 : decode cL_roles 19 = .ok (.iload_n 3, 1) := by decide +kernel
theorem dL_roles_20 : decode cL_roles 20 = .ok (.ifCond .eq 12, 3) := by decide +kernel
theorem dL_roles_23 : decode cL_roles 23 = .ok (.aload_n 0, 1) := by decide +kernel
theorem dL_roles_24 : decode cL_roles 24 = .ok (.iload_n 2, 1) := by decide +kernel
theorem dL_roles_25 : decode cL_roles 25 = .ok (.invokevirtual 42, 3) := by decide +kernel
theorem dL_roles_28 : decode cL_roles 28 = .ok (.iload_n 2, 1) := by decide +kernel
theorem dL_roles_29 : decode cL_roles 29 = .ok (.if_icmp .ne 7, 3) := by decide +kernel
theorem dL_roles_32 : decode cL_roles 32 = .ok (.iconst 1, 1) := by decide +kernel
theorem dL_roles_33 : decode cL_roles 33 = .ok (.goto 4, 3) := by decide +kernel
theorem dL_roles_36 : decode cL_roles 36 = .ok (.iconst 0, 1) := by decide +kernel
theorem dL_roles_37 : decode cL_roles 37 = .ok (.istore_n 1, 1) := by decide +kernel
theorem dL_roles_38 : decode cL_roles 38 = .ok (.iconst 0, 1) := by decide +kernel
theorem dL_roles_39 : decode cL_roles 39 = .ok (.istore 4, 2) := by decide +kernel
theorem dL_roles_41 : decode cL_roles 41 = .ok (.iload 4, 2) := by decide +kernel
theorem dL_roles_43 : decode cL_roles 43 = .ok (.iload_n 2, 1) := by decide +kernel
theorem dL_roles_44 : decode cL_roles 44 = .ok (.if_icmp .ge 48, 3) := by decide +kernel
theorem dL_roles_47 : decode cL_roles 47 = .ok (.iload_n 1, 1) := by decide +kernel
theorem dL_roles_48 : decode cL_roles 48 = .ok (.ifCond .eq 44, 3) := by decide +kernel
theorem dL_roles_51 : decode cL_roles 51 = .ok (.iload_n 3, 1) := by decide +kernel
theorem dL_roles_52 : decode cL_roles 52 = .ok (.iconst 2, 1) := by decide +kernel
theorem dL_roles_53 : decode cL_roles 53 = .ok (.if_icmp .ne 27, 3) := by decide +kernel
theorem dL_roles_56 : decode cL_roles 56 = .ok (.aload_n 0, 1) := by decide +kernel
theorem dL_roles_57 : decode cL_roles 57 = .ok (.iload 4, 2) := by decide +kernel
theorem dL_roles_59 : decode cL_roles 59 = .ok (.invokevirtual 39, 3) := by decide +kernel
theorem dL_roles_62 : decode cL_roles 62 = .ok (.iconst 2, 1) := by decide +kernel
theorem dL_roles_63 : decode cL_roles 63 = .ok (.if_icmp .ne 17, 3) := by decide +kernel
theorem dL_roles_66 : decode cL_roles 66 = .ok (.aload_n 0, 1) := by decide +kernel
theorem dL_roles_67 : decode cL_roles 67 = .ok (.iload 4, 2) := by decide +kernel
theorem dL_roles_69 : decode cL_roles 69 = .ok (.invokevirtual 45, 3) := by decide +kernel
theorem dL_roles_72 : decode cL_roles 72 = .ok (.aload_n 0, 1) := by decide +kernel
theorem dL_roles_73 : decode cL_roles 73 = .ok (.iload_n 2, 1) := by decide +kernel
theorem dL_roles_74 : decode cL_roles 74 = .ok (.invokevirtual 45, 3) := by decide +kernel
theorem dL_roles_77 : decode cL_roles 77 = .ok (.if_icmp .eq 7, 3) := by decide +kernel
theorem dL_roles_80 : decode cL_roles 80 = .ok (.iconst 1, 1) := by decide +kernel
theorem dL_roles_81 : decode cL_roles 81 = .ok (.goto 4, 3) := by decide +kernel
theorem dL_roles_84 : decode cL_roles 84 = .ok (.iconst 0, 1) := by decide +kernel
theorem dL_roles_85 : decode cL_roles 85 = .ok (.istore_n 1, 1) := by decide +kernel
theorem dL_roles_86 : decode cL_roles 86 = .ok (.iinc 4 1, 3) := by decide +kernel
theorem dL_roles_89 : decode cL_roles 89 = .ok (.goto (-48), 3) := by decide +kernel
theorem dL_roles_92 : decode cL_roles 92 = .ok (.iinc 2 1, 3) := by decide +kernel
theorem dL_roles_95 : decode cL_roles 95 = .ok (.goto (-91), 3) := by decide +kernel
theorem dL_roles_98 : decode cL_roles 98 = .ok (.iload_n 1, 1) := by decide +kernel
theorem dL_roles_99 : decode cL_roles 99 = .ok (.ireturn, 1) := by decide +kernel
theorem dL_logs_0 : decode cL_logs 0 = .ok (.iconst 1, 1) := by decide +kernel
theorem dL_logs_1 : decode cL_logs 1 = .ok (.istore_n 2, 1) := by decide +kernel
theorem dL_logs_2 : decode cL_logs 2 = .ok (.aload_n 0, 1) := by decide +kernel
theorem dL_logs_3 : decode cL_logs 3 = .ok (.iload_n 1, 1) := by decide +kernel
theorem dL_logs_4 : decode cL_logs 4 = .ok (.invokevirtual 48, 3) := by decide +kernel
theorem dL_logs_7 : decode cL_logs 7 = .ok (.istore_n 3, 1) := by decide +kernel
theorem dL_logs_8 : decode cL_logs 8 = .ok (.iconst 0, 1) := by decide +kernel
theorem dL_logs_9 : decode cL_logs 9 = .ok (.istore 4, 2) := by decide +kernel
theorem dL_logs_11 : decode cL_logs 11 = .ok (.iload 4, 2) := by decide +kernel
theorem dL_logs_13 : decode cL_logs 13 = .ok (.iload_n 3, 1) := by decide +kernel
theorem dL_logs_14 : decode cL_logs 14 = .ok (.if_icmp .ge 138, 3) := by decide +kernel
theorem dL_logs_17 : decode cL_logs 17 = .ok (.iload_n 2, 1) := by decide +kernel
theorem dL_logs_18 : decode cL_logs 18 = .ok (.ifCond .eq 134, 3) := by decide +kernel
theorem dL_logs_21 : decode cL_logs 21 = .ok (.aload_n 0, 1) := by decide +kernel
theorem dL_logs_22 : decode cL_logs 22 = .ok (.iload_n 1, 1) := by decide +kernel
theorem dL_logs_23 : decode cL_logs 23 = .ok (.iload 4, 2) := by decide +kernel
theorem dL_logs_25 : decode cL_logs 25 = .ok (.invokevirtual 51, 3) := by decide +kernel
theorem dL_logs_28 : decode cL_logs 28 = .ok (.istore 5, 2) := by decide +kernel
theorem dL_logs_30 : decode cL_logs 30 = .ok (.aload_n 0, 1) := by decide +kernel
theorem dL_logs_31 : decode cL_logs 31 = .ok (.iload 5, 2) := by decide +kernel
theorem dL_logs_33 : decode cL_logs 33 = .ok (.invokevirtual 54, 3) := by decide +kernel
theorem dL_logs_36 : decode cL_logs 36 = .ok (.iload_n 1, 1) := by decide +kernel
theorem dL_logs_37 : decode cL_logs 37 = .ok (.ishr, 1) := by decide +kernel
theorem dL_logs_38 : decode cL_logs 38 = .ok (.iconst 1, 1) := by decide +kernel
theorem dL_logs_39 : decode cL_logs 39 = .ok (.iand, 1) := by decide +kernel
theorem dL_logs_40 : decode cL_logs 40 = .ok (.iconst 1, 1) := by decide +kernel
theorem dL_logs_41 : decode cL_logs 41 = .ok (.if_icmp .ne 48, 3) := by decide +kernel
theorem dL_logs_44 : decode cL_logs 44 = .ok (.iload 4, 2) := by decide +kernel
theorem dL_logs_46 : decode cL_logs 46 = .ok (.ifCond .eq 25, 3) := by decide +kernel
theorem dL_logs_49 : decode cL_logs 49 = .ok (.aload_n 0, 1) := by decide +kernel
theorem dL_logs_50 : decode cL_logs 50 = .ok (.aload_n 0, 1) := by decide +kernel
theorem dL_logs_51 : decode cL_logs 51 = .ok (.iload_n 1, 1) := by decide +kernel
theorem dL_logs_52 : decode cL_logs 52 = .ok (.iload 4, 2) := by decide +kernel
theorem dL_logs_54 : decode cL_logs 54 = .ok (.iconst 1, 1) := by decide +kernel
theorem dL_logs_55 : decode cL_logs 55 = .ok (.isub, 1) := by decide +kernel
theorem dL_logs_56 : decode cL_logs 56 = .ok (.invokevirtual 51, 3) := by decide +kernel
theorem dL_logs_59 : decode cL_logs 59 = .ok (.invokevirtual 57, 3) := by decide +kernel
theorem dL_logs_62 : decode cL_logs 62 = .ok (.aload_n 0, 1) := by decide +kernel
theorem dL_logs_63 : decode cL_logs 63 = .ok (.iload 5, 2) := by decide +kernel
theorem dL_logs_65 : decode cL_logs 65 = .ok (.invokevirtual 57, 3) := by decide +kernel
theorem dL_logs_68 : decode cL_logs 68 = .ok (.if_icmp .gt 21, 3) := by decide +kernel
theorem dL_logs_71 : decode cL_logs 71 = .ok (.aload_n 0, 1) := by decide +kernel
theorem dL_logs_72 : decode cL_logs 72 = .ok (.iload 5, 2) := by decide +kernel
theorem dL_logs_74 : decode cL_logs 74 = .ok (.invokevirtual 57, 3) := by decide +kernel
theorem dL_logs_77 : decode cL_logs 77 = .ok (.aload_n 0, 1) := by decide +kernel
theorem dL_logs_78 : decode cL_logs 78 = .ok (.iload_n 1, 1) := by decide +kernel
theorem dL_logs_79 : decode cL_logs 79 = .ok (.invokevirtual 45, 3) := by decide +kernel
theorem dL_logs_82 : decode cL_logs 82 = .ok (.if_icmp .gt 7, 3) := by decide +kernel
theorem dL_logs_85 : decode cL_logs 85 = .ok (.iconst 1, 1) := by decide +kernel
theorem dL_logs_86 : decode cL_logs 86 = .ok (.goto 4, 3) := by decide +kernel
theorem dL_logs_89 : decode cL_logs 89 = .ok (.iconst 0, 1) := by decide +kernel
theorem dL_logs_90 : decode cL_logs 90 = .ok (.istore_n 2, 1) := by decide +kernel
theorem dL_logs_91 : decode cL_logs 91 = .ok (.iload_n 2, 1) := by decide +kernel
theorem dL_logs_92 : decode cL_logs 92 = .ok (.ifCond .eq 52, 3) := by decide +kernel
theorem dL_logs_95 : decode cL_logs 95 = .ok (.aload_n 0, 1) := by decide +kernel
theorem dL_logs_96 : decode cL_logs 96 = .ok (.iload 5, 2) := by decide +kernel
theorem dL_logs_98 : decode cL_logs 98 = .ok (.invokevirtual 60, 3) := by decide +kernel
theorem dL_logs_101 : decode cL_logs 101 = .ok (.aload_n 0, 1) := by decide +kernel
theorem dL_logs_102 : decode cL_logs 102 = .ok (.iload 5, 2) := by decide +kernel
theorem dL_logs_104 : decode cL_logs 104 = .ok (.invokevirtual 54, 3) := by decide +kernel
theorem dL_logs_107 : decode cL_logs 107 = .ok (.invokestatic 64, 3) := by decide +kernel
theorem dL_logs_110 : decode cL_logs 110 = .ok (.iconst 2, 1) := by decide +kernel
theorem dL_logs_111 : decode cL_logs 111 = .ok (.if_icmp .le 7, 3) := by decide +kernel
theorem dL_logs_114 : decode cL_logs 114 = .ok (.iconst 1, 1) := by decide +kernel
theorem dL_logs_115 : decode cL_logs 115 = .ok (.goto 4, 3) := by decide +kernel
theorem dL_logs_118 : decode cL_logs 118 = .ok (.iconst 0, 1) := by decide +kernel
theorem dL_logs_119 : decode cL_logs 119 = .ok (.if_icmp .ne 25, 3) := by decide +kernel
theorem dL_logs_122 : decode cL_logs 122 = .ok (.aload_n 0, 1) := by decide +kernel
theorem dL_logs_123 : decode cL_logs 123 = .ok (.iload 5, 2) := by decide +kernel
theorem dL_logs_125 : decode cL_logs 125 = .ok (.invokevirtual 60, 3) := by decide +kernel
theorem dL_logs_128 : decode cL_logs 128 = .ok (.ifCond .eq 12, 3) := by decide +kernel
theorem dL_logs_131 : decode cL_logs 131 = .ok (.aload_n 0, 1) := by decide +kernel
theorem dL_logs_132 : decode cL_logs 132 = .ok (.iload 5, 2) := by decide +kernel
theorem dL_logs_134 : decode cL_logs 134 = .ok (.invokevirtual 69, 3) := by decide +kernel
theorem dL_logs_137 : decode cL_logs 137 = .ok (.ifCond .eq 7, 3) := by decide +kernel
theorem dL_logs_140 : decode cL_logs 140 = .ok (.iconst 1, 1) := by decide +kernel
theorem dL_logs_141 : decode cL_logs 141 = .ok (.goto 4, 3) := by decide +kernel
theorem dL_logs_144 : decode cL_logs 144 = .ok (.iconst 0, 1) := by decide +kernel
theorem dL_logs_145 : decode cL_logs 145 = .ok (.istore_n 2, 1) := by decide +kernel
theorem dL_logs_146 : decode cL_logs 146 = .ok (.iinc 4 1, 3) := by decide +kernel
theorem dL_logs_149 : decode cL_logs 149 = .ok (.goto (-138), 3) := by decide +kernel
theorem dL_logs_152 : decode cL_logs 152 = .ok (.iload_n 2, 1) := by decide +kernel
theorem dL_logs_153 : decode cL_logs 153 = .ok (.ireturn, 1) := by decide +kernel
theorem dL_batches_0 : decode cL_batches 0 = .ok (.iconst 0, 1) := by decide +kernel
theorem dL_batches_1 : decode cL_batches 1 = .ok (.istore_n 1, 1) := by decide +kernel
theorem dL_batches_2 : decode cL_batches 2 = .ok (.aload_n 0, 1) := by decide +kernel
theorem dL_batches_3 : decode cL_batches 3 = .ok (.invokevirtual 72, 3) := by decide +kernel
theorem dL_batches_6 : decode cL_batches 6 = .ok (.istore_n 2, 1) := by decide +kernel
theorem dL_batches_7 : decode cL_batches 7 = .ok (.iconst 1, 1) := by decide +kernel
theorem dL_batches_8 : decode cL_batches 8 = .ok (.istore_n 3, 1) := by decide +kernel
theorem dL_batches_9 : decode cL_batches 9 = .ok (.iconst 0, 1) := by decide +kernel
theorem dL_batches_10 : decode cL_batches 10 = .ok (.istore 4, 2) := by decide +kernel
theorem dL_batches_12 : decode cL_batches 12 = .ok (.iload 4, 2) := by decide +kernel
theorem dL_batches_14 : decode cL_batches 14 = .ok (.iload_n 2, 1) := by decide +kernel
theorem dL_batches_15 : decode cL_batches 15 = .ok (.if_icmp .ge 99, 3) := by decide +kernel
theorem dL_batches_18 : decode cL_batches 18 = .ok (.iload_n 3, 1) := by decide +kernel
theorem dL_batches_19 : decode cL_batches 19 = .ok (.ifCond .eq 95, 3) := by decide +kernel
theorem dL_batches_22 : decode cL_batches 22 = .ok (.aload_n 0, 1) := by decide +kernel
theorem dL_batches_23 : decode cL_batches 23 = .ok (.iload 4, 2) := by decide +kernel
theorem dL_batches_25 : decode cL_batches 25 = .ok (.invokevirtual 76, 3) := by decide +kernel
theorem dL_batches_28 : decode cL_batches 28 = .ok (.istore 5, 2) := by decide +kernel
theorem dL_batches_30 : decode cL_batches 30 = .ok (.iload 5, 2) := by decide +kernel
theorem dL_batches_32 : decode cL_batches 32 = .ok (.iconst 1, 1) := by decide +kernel
theorem dL_batches_33 : decode cL_batches 33 = .ok (.iand, 1) := by decide +kernel
theorem dL_batches_34 : decode cL_batches 34 = .ok (.aload_n 0, 1) := by decide +kernel
theorem dL_batches_35 : decode cL_batches 35 = .ok (.aload_n 0, 1) := by decide +kernel
theorem dL_batches_36 : decode cL_batches 36 = .ok (.iload 4, 2) := by decide +kernel
theorem dL_batches_38 : decode cL_batches 38 = .ok (.invokevirtual 79, 3) := by decide +kernel
theorem dL_batches_41 : decode cL_batches 41 = .ok (.invokevirtual 60, 3) := by decide +kernel
theorem dL_batches_44 : decode cL_batches 44 = .ok (.ifCond .eq 7, 3) := by decide +kernel
theorem dL_batches_47 : decode cL_batches 47 = .ok (.iconst 0, 1) := by decide +kernel
theorem dL_batches_48 : decode cL_batches 48 = .ok (.goto 4, 3) := by decide +kernel
theorem dL_batches_51 : decode cL_batches 51 = .ok (.iconst 1, 1) := by decide +kernel
theorem dL_batches_52 : decode cL_batches 52 = .ok (.if_icmp .ne 36, 3) := by decide +kernel
theorem dL_batches_55 : decode cL_batches 55 = .ok (.aload_n 0, 1) := by decide +kernel
theorem dL_batches_56 : decode cL_batches 56 = .ok (.iload 4, 2) := by decide +kernel
theorem dL_batches_58 : decode cL_batches 58 = .ok (.invokevirtual 82, 3) := by decide +kernel
theorem dL_batches_61 : decode cL_batches 61 = .ok (.ifCond .lt 27, 3) := by decide +kernel
theorem dL_batches_64 : decode cL_batches 64 = .ok (.aload_n 0, 1) := by decide +kernel
theorem dL_batches_65 : decode cL_batches 65 = .ok (.iload 4, 2) := by decide +kernel
theorem dL_batches_67 : decode cL_batches 67 = .ok (.invokevirtual 82, 3) := by decide +kernel
theorem dL_batches_70 : decode cL_batches 70 = .ok (.bipush 40, 2) := by decide +kernel
theorem dL_batches_72 : decode cL_batches 72 = .ok (.if_icmp .gt 16, 3) := by decide +kernel
theorem dL_batches_75 : decode cL_batches 75 = .ok (.aload_n 0, 1) := by decide +kernel
theorem dL_batches_76 : decode cL_batches 76 = .ok (.iload 4, 2) := by decide +kernel
theorem dL_batches_78 : decode cL_batches 78 = .ok (.invokevirtual 85, 3) := by decide +kernel
theorem dL_batches_81 : decode cL_batches 81 = .ok (.ifCond .le 7, 3) := by decide +kernel
theorem dL_batches_84 : decode cL_batches 84 = .ok (.iconst 1, 1) := by decide +kernel
theorem dL_batches_85 : decode cL_batches 85 = .ok (.goto 4, 3) := by decide +kernel
theorem dL_batches_88 : decode cL_batches 88 = .ok (.iconst 0, 1) := by decide +kernel
theorem dL_batches_89 : decode cL_batches 89 = .ok (.istore_n 3, 1) := by decide +kernel
theorem dL_batches_90 : decode cL_batches 90 = .ok (.iload_n 1, 1) := by decide +kernel
theorem dL_batches_91 : decode cL_batches 91 = .ok (.iload 5, 2) := by decide +kernel
theorem dL_batches_93 : decode cL_batches 93 = .ok (.ifCond .ne 12, 3) := by decide +kernel
theorem dL_batches_96 : decode cL_batches 96 = .ok (.aload_n 0, 1) := by decide +kernel
theorem dL_batches_97 : decode cL_batches 97 = .ok (.iload 4, 2) := by decide +kernel
theorem dL_batches_99 : decode cL_batches 99 = .ok (.invokevirtual 82, 3) := by decide +kernel
theorem dL_batches_102 : decode cL_batches 102 = .ok (.goto 4, 3) := by decide +kernel
theorem dL_batches_105 : decode cL_batches 105 = .ok (.iconst 0, 1) := by decide +kernel
theorem dL_batches_106 : decode cL_batches 106 = .ok (.iadd, 1) := by decide +kernel
theorem dL_batches_107 : decode cL_batches 107 = .ok (.istore_n 1, 1) := by decide +kernel
theorem dL_batches_108 : decode cL_batches 108 = .ok (.iinc 4 1, 3) := by decide +kernel
theorem dL_batches_111 : decode cL_batches 111 = .ok (.goto (-99), 3) := by decide +kernel
theorem dL_batches_114 : decode cL_batches 114 = .ok (.iload_n 3, 1) := by decide +kernel
theorem dL_batches_115 : decode cL_batches 115 = .ok (.ifCond .eq 15, 3) := by decide +kernel
theorem dL_batches_118 : decode cL_batches 118 = .ok (.aload_n 0, 1) := by decide +kernel
theorem dL_batches_119 : decode cL_batches 119 = .ok (.invokevirtual 88, 3) := by decide +kernel
theorem dL_batches_122 : decode cL_batches 122 = .ok (.iload_n 1, 1) := by decide +kernel
theorem dL_batches_123 : decode cL_batches 123 = .ok (.if_icmp .ne 7, 3) := by decide +kernel
theorem dL_batches_126 : decode cL_batches 126 = .ok (.iconst 1, 1) := by decide +kernel
theorem dL_batches_127 : decode cL_batches 127 = .ok (.goto 4, 3) := by decide +kernel
theorem dL_batches_130 : decode cL_batches 130 = .ok (.iconst 0, 1) := by decide +kernel
theorem dL_batches_131 : decode cL_batches 131 = .ok (.ireturn, 1) := by decide +kernel
theorem dL_law_0 : decode cL_law 0 = .ok (.new 10, 3) := by decide +kernel
theorem dL_law_3 : decode cL_law 3 = .ok (.dup, 1) := by decide +kernel
theorem dL_law_4 : decode cL_law 4 = .ok (.invokespecial 91, 3) := by decide +kernel
theorem dL_law_7 : decode cL_law 7 = .ok (.astore_n 1, 1) := by decide +kernel
theorem dL_law_8 : decode cL_law 8 = .ok (.iconst 0, 1) := by decide +kernel
theorem dL_law_9 : decode cL_law 9 = .ok (.istore_n 2, 1) := by decide +kernel
theorem dL_law_10 : decode cL_law 10 = .ok (.iconst 0, 1) := by decide +kernel
theorem dL_law_11 : decode cL_law 11 = .ok (.istore_n 3, 1) := by decide +kernel
theorem dL_law_12 : decode cL_law 12 = .ok (.aload_n 1, 1) := by decide +kernel
theorem dL_law_13 : decode cL_law 13 = .ok (.invokestatic 92, 3) := by decide +kernel
theorem dL_law_16 : decode cL_law 16 = .ok (.ifCond .eq 28, 3) := by decide +kernel
theorem dL_law_19 : decode cL_law 19 = .ok (.aload_n 1, 1) := by decide +kernel
theorem dL_law_20 : decode cL_law 20 = .ok (.invokestatic 96, 3) := by decide +kernel
theorem dL_law_23 : decode cL_law 23 = .ok (.ifCond .eq 21, 3) := by decide +kernel
theorem dL_law_26 : decode cL_law 26 = .ok (.aload_n 1, 1) := by decide +kernel
theorem dL_law_27 : decode cL_law 27 = .ok (.invokevirtual 98, 3) := by decide +kernel
theorem dL_law_30 : decode cL_law 30 = .ok (.ifCond .ne 14, 3) := by decide +kernel
theorem dL_law_33 : decode cL_law 33 = .ok (.aload_n 1, 1) := by decide +kernel
theorem dL_law_34 : decode cL_law 34 = .ok (.invokevirtual 101, 3) := by decide +kernel
theorem dL_law_37 : decode cL_law 37 = .ok (.ifCond .ne 7, 3) := by decide +kernel
theorem dL_law_40 : decode cL_law 40 = .ok (.iconst 1, 1) := by decide +kernel
theorem dL_law_41 : decode cL_law 41 = .ok (.goto 4, 3) := by decide +kernel
theorem dL_law_44 : decode cL_law 44 = .ok (.iconst 0, 1) := by decide +kernel
theorem dL_law_45 : decode cL_law 45 = .ok (.istore 4, 2) := by decide +kernel
theorem dL_law_47 : decode cL_law 47 = .ok (.bipush 6, 2) := by decide +kernel
theorem dL_law_49 : decode cL_law 49 = .ok (.aload_n 0, 1) := by decide +kernel
theorem dL_law_50 : decode cL_law 50 = .ok (.iconst 0, 1) := by decide +kernel
theorem dL_law_51 : decode cL_law 51 = .ok (.invokestatic 104, 3) := by decide +kernel
theorem dL_law_54 : decode cL_law 54 = .ok (.bipush 55, 2) := by decide +kernel
theorem dL_law_56 : decode cL_law 56 = .ok (.invokestatic 108, 3) := by decide +kernel
theorem dL_law_59 : decode cL_law 59 = .ok (.iadd, 1) := by decide +kernel
theorem dL_law_60 : decode cL_law 60 = .ok (.istore 5, 2) := by decide +kernel
theorem dL_law_62 : decode cL_law 62 = .ok (.iconst 0, 1) := by decide +kernel
theorem dL_law_63 : decode cL_law 63 = .ok (.istore 6, 2) := by decide +kernel
theorem dL_law_65 : decode cL_law 65 = .ok (.iload 6, 2) := by decide +kernel
theorem dL_law_67 : decode cL_law 67 = .ok (.iload 5, 2) := by decide +kernel
theorem dL_law_69 : decode cL_law 69 = .ok (.if_icmp .ge 1008, 3) := by decide +kernel
theorem dL_law_72 : decode cL_law 72 = .ok (.iload 4, 2) := by decide +kernel
theorem dL_law_74 : decode cL_law 74 = .ok (.ifCond .eq 1003, 3) := by decide +kernel
theorem dL_law_77 : decode cL_law 77 = .ok (.aload_n 0, 1) := by decide +kernel
theorem dL_law_78 : decode cL_law 78 = .ok (.iconst 1, 1) := by decide +kernel
theorem dL_law_79 : decode cL_law 79 = .ok (.iload 6, 2) := by decide +kernel
theorem dL_law_81 : decode cL_law 81 = .ok (.iadd, 1) := by decide +kernel
theorem dL_law_82 : decode cL_law 82 = .ok (.invokestatic 104, 3) := by decide +kernel
theorem dL_law_85 : decode cL_law 85 = .ok (.istore 7, 2) := by decide +kernel
theorem dL_law_87 : decode cL_law 87 = .ok (.iload 7, 2) := by decide +kernel
theorem dL_law_89 : decode cL_law 89 = .ok (.iconst 3, 1) := by decide +kernel
theorem dL_law_90 : decode cL_law 90 = .ok (.ishr, 1) := by decide +kernel
theorem dL_law_91 : decode cL_law 91 = .ok (.iconst 5, 1) := by decide +kernel
theorem dL_law_92 : decode cL_law 92 = .ok (.invokestatic 108, 3) := by decide +kernel
theorem dL_law_95 : decode cL_law 95 = .ok (.istore 8, 2) := by decide +kernel
theorem dL_law_97 : decode cL_law 97 = .ok (.iload 8, 2) := by decide +kernel
theorem dL_law_99 : decode cL_law 99 = .ok (.iconst 1, 1) := by decide +kernel
theorem dL_law_100 : decode cL_law 100 = .ok (.iadd, 1) := by decide +kernel
theorem dL_law_101 : decode cL_law 101 = .ok (.iload 7, 2) := by decide +kernel
theorem dL_law_103 : decode cL_law 103 = .ok (.bipush 6, 2) := by decide +kernel
theorem dL_law_105 : decode cL_law 105 = .ok (.ishr, 1) := by decide +kernel
theorem dL_law_106 : decode cL_law 106 = .ok (.iconst 4, 1) := by decide +kernel
theorem dL_law_107 : decode cL_law 107 = .ok (.invokestatic 108, 3) := by decide +kernel
theorem dL_law_110 : decode cL_law 110 = .ok (.iadd, 1) := by decide +kernel
theorem dL_law_111 : decode cL_law 111 = .ok (.iconst 5, 1) := by decide +kernel
theorem dL_law_112 : decode cL_law 112 = .ok (.irem, 1) := by decide +kernel
theorem dL_law_113 : decode cL_law 113 = .ok (.istore 9, 2) := by decide +kernel
theorem dL_law_115 : decode cL_law 115 = .ok (.iload 7, 2) := by decide +kernel
theorem dL_law_117 : decode cL_law 117 = .ok (.bipush 20, 2) := by decide +kernel
theorem dL_law_119 : decode cL_law 119 = .ok (.ishr, 1) := by decide +kernel
theorem dL_law_120 : decode cL_law 120 = .ok (.bipush 28, 2) := by decide +kernel
theorem dL_law_122 : decode cL_law 122 = .ok (.invokestatic 108, 3) := by decide +kernel
theorem dL_law_125 : decode cL_law 125 = .ok (.istore 10, 2) := by decide +kernel
theorem dL_law_127 : decode cL_law 127 = .ok (.iload 10, 2) := by decide +kernel
theorem dL_law_129 : decode cL_law 129 = .ok (.iconst 4, 1) := by decide +kernel
theorem dL_law_130 : decode cL_law 130 = .ok (.if_icmp .ge 58, 3) := by decide +kernel
theorem dL_law_133 : decode cL_law 133 = .ok (.aload_n 1, 1) := by decide +kernel
theorem dL_law_134 : decode cL_law 134 = .ok (.iload 8, 2) := by decide +kernel
theorem dL_law_136 : decode cL_law 136 = .ok (.invokevirtual 45, 3) := by decide +kernel
theorem dL_law_139 : decode cL_law 139 = .ok (.istore 11, 2) := by decide +kernel
theorem dL_law_141 : decode cL_law 141 = .ok (.aload_n 1, 1) := by decide +kernel
theorem dL_law_142 : decode cL_law 142 = .ok (.iload 8, 2) := by decide +kernel
theorem dL_law_144 : decode cL_law 144 = .ok (.invokevirtual 111, 3) := by decide +kernel
theorem dL_law_147 : decode cL_law 147 = .ok (.iload 11, 2) := by decide +kernel
theorem dL_law_149 : decode cL_law 149 = .ok (.iconst 1, 1) := by decide +kernel
theorem dL_law_150 : decode cL_law 150 = .ok (.iadd, 1) := by decide +kernel
theorem dL_law_151 : decode cL_law 151 = .ok (.if_icmp .ne 28, 3) := by decide +kernel
theorem dL_law_154 : decode cL_law 154 = .ok (.aload_n 1, 1) := by decide +kernel
theorem dL_law_155 : decode cL_law 155 = .ok (.iload 8, 2) := by decide +kernel
theorem dL_law_157 : decode cL_law 157 = .ok (.invokevirtual 39, 3) := by decide +kernel
theorem dL_law_160 : decode cL_law 160 = .ok (.iconst 1, 1) := by decide +kernel
theorem dL_law_161 : decode cL_law 161 = .ok (.if_icmp .ne 18, 3) := by decide +kernel
theorem dL_law_164 : decode cL_law 164 = .ok (.aload_n 1, 1) := by decide +kernel
theorem dL_law_165 : decode cL_law 165 = .ok (.iload 8, 2) := by decide +kernel
theorem dL_law_167 : decode cL_law 167 = .ok (.invokevirtual 42, 3) := by decide +kernel
theorem dL_law_170 : decode cL_law 170 = .ok (.iload 8, 2) := by decide +kernel
theorem dL_law_172 : decode cL_law 172 = .ok (.if_icmp .ne 7, 3) := by decide +kernel
theorem dL_law_175 : decode cL_law 175 = .ok (.iconst 1, 1) := by decide +kernel
theorem dL_law_176 : decode cL_law 176 = .ok (.goto 4, 3) := by decide +kernel
theorem dL_law_179 : decode cL_law 179 = .ok (.iconst 0, 1) := by decide +kernel
theorem dL_law_180 : decode cL_law 180 = .ok (.istore 4, 2) := by decide +kernel
theorem dL_law_182 : decode cL_law 182 = .ok (.iinc 3 1, 3) := by decide +kernel
theorem dL_law_185 : decode cL_law 185 = .ok (.goto 834, 3) := by decide +kernel
theorem dL_law_188 : decode cL_law 188 = .ok (.iload 10, 2) := by decide +kernel
theorem dL_law_190 : decode cL_law 190 = .ok (.bipush 12, 2) := by decide +kernel
theorem dL_law_192 : decode cL_law 192 = .ok (.if_icmp .ge 68, 3) := by decide +kernel
theorem dL_law_195 : decode cL_law 195 = .ok (.aload_n 1, 1) := by decide +kernel
theorem dL_law_196 : decode cL_law 196 = .ok (.iload 9, 2) := by decide +kernel
theorem dL_law_198 : decode cL_law 198 = .ok (.invokevirtual 39, 3) := by decide +kernel
theorem dL_law_201 : decode cL_law 201 = .ok (.istore 11, 2) := by decide +kernel
theorem dL_law_203 : decode cL_law 203 = .ok (.aload_n 1, 1) := by decide +kernel
theorem dL_law_204 : decode cL_law 204 = .ok (.iload 8, 2) := by decide +kernel
theorem dL_law_206 : decode cL_law 206 = .ok (.iload 9, 2) := by decide +kernel
theorem dL_law_208 : decode cL_law 208 = .ok (.invokestatic 114, 3) := by decide +kernel
theorem dL_law_211 : decode cL_law 211 = .ok (.istore 12, 2) := by decide +kernel
theorem dL_law_213 : decode cL_law 213 = .ok (.iload 12, 2) := by decide +kernel
theorem dL_law_215 : decode cL_law 215 = .ok (.ifCond .eq 35, 3) := by decide +kernel
theorem dL_law_218 : decode cL_law 218 = .ok (.aload_n 1, 1) := by decide +kernel
theorem dL_law_219 : decode cL_law 219 = .ok (.iload 8, 2) := by decide +kernel
theorem dL_law_221 : decode cL_law 221 = .ok (.invokevirtual 42, 3) := by decide +kernel
theorem dL_law_224 : decode cL_law 224 = .ok (.iload 9, 2) := by decide +kernel
theorem dL_law_226 : decode cL_law 226 = .ok (.if_icmp .ne 28, 3) := by decide +kernel
theorem dL_law_229 : decode cL_law 229 = .ok (.aload_n 1, 1) := by decide +kernel
theorem dL_law_230 : decode cL_law 230 = .ok (.iload 8, 2) := by decide +kernel
theorem dL_law_232 : decode cL_law 232 = .ok (.invokevirtual 45, 3) := by decide +kernel
theorem dL_law_235 : decode cL_law 235 = .ok (.aload_n 1, 1) := by decide +kernel
theorem dL_law_236 : decode cL_law 236 = .ok (.iload 9, 2) := by decide +kernel
theorem dL_law_238 : decode cL_law 238 = .ok (.invokevirtual 45, 3) := by decide +kernel
theorem dL_law_241 : decode cL_law 241 = .ok (.if_icmp .ne 13, 3) := by decide +kernel
theorem dL_law_244 : decode cL_law 244 = .ok (.iload 11, 2) := by decide +kernel
theorem dL_law_246 : decode cL_law 246 = .ok (.iconst 1, 1) := by decide +kernel
theorem dL_law_247 : decode cL_law 247 = .ok (.if_icmp .ne 7, 3) := by decide +kernel
theorem dL_law_250 : decode cL_law 250 = .ok (.iconst 1, 1) := by decide +kernel
theorem dL_law_251 : decode cL_law 251 = .ok (.goto 4, 3) := by decide +kernel
theorem dL_law_254 : decode cL_law 254 = .ok (.iconst 0, 1) := by decide +kernel
theorem dL_law_255 : decode cL_law 255 = .ok (.istore 4, 2) := by decide +kernel
theorem dL_law_257 : decode cL_law 257 = .ok (.goto 762, 3) := by decide +kernel
theorem dL_law_260 : decode cL_law 260 = .ok (.iload 10, 2) := by decide +kernel
theorem dL_law_262 : decode cL_law 262 = .ok (.bipush 15, 2) := by decide +kernel
theorem dL_law_264 : decode cL_law 264 = .ok (.if_icmp .ge 118, 3) := by decide +kernel
theorem dL_law_267 : decode cL_law 267 = .ok (.aload_n 1, 1) := by decide +kernel
theorem dL_law_268 : decode cL_law 268 = .ok (.invokevirtual 117, 3) := by decide +kernel
theorem dL_law_271 : decode cL_law 271 = .ok (.istore 11, 2) := by decide +kernel
theorem dL_law_273 : decode cL_law 273 = .ok (.aload_n 1, 1) := by decide +kernel
theorem dL_law_274 : decode cL_law 274 = .ok (.iload 8, 2) := by decide +kernel
theorem dL_law_276 : decode cL_law 276 = .ok (.iload 7, 2) := by decide +kernel
theorem dL_law_278 : decode cL_law 278 = .ok (.iconst 2, 1) := by decide +kernel
theorem dL_law_279 : decode cL_law 279 = .ok (.invokestatic 108, 3) := by decide +kernel
theorem dL_law_282 : decode cL_law 282 = .ok (.iconst 1, 1) := by decide +kernel
theorem dL_law_283 : decode cL_law 283 = .ok (.iload 7, 2) := by decide +kernel
theorem dL_law_285 : decode cL_law 285 = .ok (.iconst 5, 1) := by decide +kernel
theorem dL_law_286 : decode cL_law 286 = .ok (.ishr, 1) := by decide +kernel
theorem dL_law_287 : decode cL_law 287 = .ok (.iconst 3, 1) := by decide +kernel
theorem dL_law_288 : decode cL_law 288 = .ok (.invokestatic 108, 3) := by decide +kernel
theorem dL_law_291 : decode cL_law 291 = .ok (.iadd, 1) := by decide +kernel
theorem dL_law_292 : decode cL_law 292 = .ok (.iconst 1, 1) := by decide +kernel
theorem dL_law_293 : decode cL_law 293 = .ok (.iload 7, 2) := by decide +kernel
theorem dL_law_295 : decode cL_law 295 = .ok (.bipush 8, 2) := by decide +kernel
