theorem dX8_currentOf_27 : decode cX8_currentOf 27 = .ok (.iaload, 1) := by decide +kernel
theorem dX8_currentOf_28 : decode cX8_currentOf 28 = .ok (.istore 5, 2) := by decide +kernel
theorem dX8_currentOf_30 : decode cX8_currentOf 30 = .ok (.aload_n 0, 1) := by decide +kernel
theorem dX8_currentOf_31 : decode cX8_currentOf 31 = .ok (.getfield 31, 3) := by decide +kernel
theorem dX8_currentOf_34 : decode cX8_currentOf 34 = .ok (.iload 5, 2) := by decide +kernel
theorem dX8_currentOf_36 : decode cX8_currentOf 36 = .ok (.iaload, 1) := by decide +kernel
theorem dX8_currentOf_37 : decode cX8_currentOf 37 = .ok (.iload_n 2, 1) := by decide +kernel
theorem dX8_currentOf_38 : decode cX8_currentOf 38 = .ok (.if_icmp .ne 17, 3) := by decide +kernel
theorem dX8_currentOf_41 : decode cX8_currentOf 41 = .ok (.aload_n 0, 1) := by decide +kernel
theorem dX8_currentOf_42 : decode cX8_currentOf 42 = .ok (.iload 5, 2) := by decide +kernel
theorem dX8_currentOf_44 : decode cX8_currentOf 44 = .ok (.invokevirtual 125, 3) := by decide +kernel
theorem dX8_currentOf_47 : decode cX8_currentOf 47 = .ok (.ifCond .eq 8, 3) := by decide +kernel
theorem dX8_currentOf_50 : decode cX8_currentOf 50 = .ok (.iload 5, 2) := by decide +kernel
theorem dX8_currentOf_52 : decode cX8_currentOf 52 = .ok (.goto 4, 3) := by decide +kernel
theorem dX8_currentOf_55 : decode cX8_currentOf 55 = .ok (.iload_n 3, 1) := by decide +kernel
theorem dX8_currentOf_56 : decode cX8_currentOf 56 = .ok (.istore_n 3, 1) := by decide +kernel
theorem dX8_currentOf_57 : decode cX8_currentOf 57 = .ok (.iinc 4 1, 3) := by decide +kernel
theorem dX8_currentOf_60 : decode cX8_currentOf 60 = .ok (.goto (-55), 3) := by decide +kernel
theorem dX8_currentOf_63 : decode cX8_currentOf 63 = .ok (.iload_n 3, 1) := by decide +kernel
theorem dX8_currentOf_64 : decode cX8_currentOf 64 = .ok (.ireturn, 1) := by decide +kernel
theorem dX8_current_0 : decode cX8_current 0 = .ok (.aload_n 0, 1) := by decide +kernel
theorem dX8_current_1 : decode cX8_current 1 = .ok (.iload_n 1, 1) := by decide +kernel
theorem dX8_current_2 : decode cX8_current 2 = .ok (.invokestatic 93, 3) := by decide +kernel
theorem dX8_current_5 : decode cX8_current 5 = .ok (.ifCond .eq 16, 3) := by decide +kernel
theorem dX8_current_8 : decode cX8_current 8 = .ok (.iload_n 2, 1) := by decide +kernel
theorem dX8_current_9 : decode cX8_current 9 = .ok (.iconst 0, 1) := by decide +kernel
theorem dX8_current_10 : decode cX8_current 10 = .ok (.iconst 5, 1) := by decide +kernel
theorem dX8_current_11 : decode cX8_current 11 = .ok (.invokestatic 86, 3) := by decide +kernel
theorem dX8_current_14 : decode cX8_current 14 = .ok (.ifCond .eq 7, 3) := by decide +kernel
theorem dX8_current_17 : decode cX8_current 17 = .ok (.iconst 0, 1) := by decide +kernel
theorem dX8_current_18 : decode cX8_current 18 = .ok (.goto 4, 3) := by decide +kernel
theorem dX8_current_21 : decode cX8_current 21 = .ok (.iconst 1, 1) := by decide +kernel
theorem dX8_current_22 : decode cX8_current 22 = .ok (.putfield 82, 3) := by decide +kernel
theorem dX8_current_25 : decode cX8_current 25 = .ok (.aload_n 0, 1) := by decide +kernel
theorem dX8_current_26 : decode cX8_current 26 = .ok (.getfield 82, 3) := by decide +kernel
theorem dX8_current_29 : decode cX8_current 29 = .ok (.ifCond .ne 12, 3) := by decide +kernel
theorem dX8_current_32 : decode cX8_current 32 = .ok (.aload_n 0, 1) := by decide +kernel
theorem dX8_current_33 : decode cX8_current 33 = .ok (.iload_n 1, 1) := by decide +kernel
theorem dX8_current_34 : decode cX8_current 34 = .ok (.iload_n 2, 1) := by decide +kernel
theorem dX8_current_35 : decode cX8_current 35 = .ok (.invokevirtual 144, 3) := by decide +kernel
theorem dX8_current_38 : decode cX8_current 38 = .ok (.goto 4, 3) := by decide +kernel
theorem dX8_current_41 : decode cX8_current 41 = .ok (.iconst 0, 1) := by decide +kernel
theorem dX8_current_42 : decode cX8_current 42 = .ok (.ireturn, 1) := by decide +kernel
theorem dX8_addLot_0 : decode cX8_addLot 0 = .ok (.aload_n 0, 1) := by decide +kernel
theorem dX8_addLot_1 : decode cX8_addLot 1 = .ok (.aload_n 0, 1) := by decide +kernel
theorem dX8_addLot_2 : decode cX8_addLot 2 = .ok (.getfield 147, 3) := by decide +kernel
theorem dX8_addLot_5 : decode cX8_addLot 5 = .ok (.bipush 16, 2) := by decide +kernel
theorem dX8_addLot_7 : decode cX8_addLot 7 = .ok (.if_icmp .ne 7, 3) := by decide +kernel
theorem dX8_addLot_10 : decode cX8_addLot 10 = .ok (.iconst 1, 1) := by decide +kernel
theorem dX8_addLot_11 : decode cX8_addLot 11 = .ok (.goto 4, 3) := by decide +kernel
theorem dX8_addLot_14 : decode cX8_addLot 14 = .ok (.iconst 0, 1) := by decide +kernel
theorem dX8_addLot_15 : decode cX8_addLot 15 = .ok (.putfield 82, 3) := by decide +kernel
theorem dX8_addLot_18 : decode cX8_addLot 18 = .ok (.aload_n 0, 1) := by decide +kernel
theorem dX8_addLot_19 : decode cX8_addLot 19 = .ok (.getfield 82, 3) := by decide +kernel
theorem dX8_addLot_22 : decode cX8_addLot 22 = .ok (.ifCond .le 5, 3) := by decide +kernel
theorem dX8_addLot_25 : decode cX8_addLot 25 = .ok (.iconst 0, 1) := by decide +kernel
theorem dX8_addLot_26 : decode cX8_addLot 26 = .ok (.ireturn, 1) := by decide +kernel
theorem dX8_addLot_27 : decode cX8_addLot 27 = .ok (.aload_n 0, 1) := by decide +kernel
theorem dX8_addLot_28 : decode cX8_addLot 28 = .ok (.dup, 1) := by decide +kernel
theorem dX8_addLot_29 : decode cX8_addLot 29 = .ok (.getfield 147, 3) := by decide +kernel
theorem dX8_addLot_32 : decode cX8_addLot 32 = .ok (.iconst 1, 1) := by decide +kernel
theorem dX8_addLot_33 : decode cX8_addLot 33 = .ok (.iadd, 1) := by decide +kernel
theorem dX8_addLot_34 : decode cX8_addLot 34 = .ok (.putfield 147, 3) := by decide +kernel
theorem dX8_addLot_37 : decode cX8_addLot 37 = .ok (.aload_n 0, 1) := by decide +kernel
theorem dX8_addLot_38 : decode cX8_addLot 38 = .ok (.getfield 147, 3) := by decide +kernel
theorem dX8_addLot_41 : decode cX8_addLot 41 = .ok (.iconst 1, 1) := by decide +kernel
theorem dX8_addLot_42 : decode cX8_addLot 42 = .ok (.isub, 1) := by decide +kernel
theorem dX8_addLot_43 : decode cX8_addLot 43 = .ok (.ireturn, 1) := by decide +kernel
theorem dX8_isLot_0 : decode cX8_isLot 0 = .ok (.iload_n 1, 1) := by decide +kernel
theorem dX8_isLot_1 : decode cX8_isLot 1 = .ok (.iconst 0, 1) := by decide +kernel
theorem dX8_isLot_2 : decode cX8_isLot 2 = .ok (.aload_n 0, 1) := by decide +kernel
theorem dX8_isLot_3 : decode cX8_isLot 3 = .ok (.getfield 147, 3) := by decide +kernel
theorem dX8_isLot_6 : decode cX8_isLot 6 = .ok (.iconst 1, 1) := by decide +kernel
theorem dX8_isLot_7 : decode cX8_isLot 7 = .ok (.isub, 1) := by decide +kernel
theorem dX8_isLot_8 : decode cX8_isLot 8 = .ok (.invokestatic 86, 3) := by decide +kernel
theorem dX8_isLot_11 : decode cX8_isLot 11 = .ok (.ireturn, 1) := by decide +kernel
theorem dX8_deliver_0 : decode cX8_deliver 0 = .ok (.aload_n 0, 1) := by decide +kernel
theorem dX8_deliver_1 : decode cX8_deliver 1 = .ok (.iload_n 1, 1) := by decide +kernel
theorem dX8_deliver_2 : decode cX8_deliver 2 = .ok (.invokestatic 93, 3) := by decide +kernel
theorem dX8_deliver_5 : decode cX8_deliver 5 = .ok (.ifCond .eq 11, 3) := by decide +kernel
theorem dX8_deliver_8 : decode cX8_deliver 8 = .ok (.aload_n 0, 1) := by decide +kernel
theorem dX8_deliver_9 : decode cX8_deliver 9 = .ok (.iload_n 2, 1) := by decide +kernel
theorem dX8_deliver_10 : decode cX8_deliver 10 = .ok (.invokevirtual 150, 3) := by decide +kernel
theorem dX8_deliver_13 : decode cX8_deliver 13 = .ok (.ifCond .ne 7, 3) := by decide +kernel
theorem dX8_deliver_16 : decode cX8_deliver 16 = .ok (.iconst 1, 1) := by decide +kernel
theorem dX8_deliver_17 : decode cX8_deliver 17 = .ok (.goto 46, 3) := by decide +kernel
theorem dX8_deliver_20 : decode cX8_deliver 20 = .ok (.iload_n 3, 1) := by decide +kernel
theorem dX8_deliver_21 : decode cX8_deliver 21 = .ok (.iconst 1, 1) := by decide +kernel
theorem dX8_deliver_22 : decode cX8_deliver 22 = .ok (.bipush 50, 2) := by decide +kernel
theorem dX8_deliver_24 : decode cX8_deliver 24 = .ok (.invokestatic 86, 3) := by decide +kernel
theorem dX8_deliver_27 : decode cX8_deliver 27 = .ok (.ifCond .ne 7, 3) := by decide +kernel
theorem dX8_deliver_30 : decode cX8_deliver 30 = .ok (.iconst 2, 1) := by decide +kernel
theorem dX8_deliver_31 : decode cX8_deliver 31 = .ok (.goto 32, 3) := by decide +kernel
theorem dX8_deliver_34 : decode cX8_deliver 34 = .ok (.aload_n 0, 1) := by decide +kernel
theorem dX8_deliver_35 : decode cX8_deliver 35 = .ok (.getfield 49, 3) := by decide +kernel
theorem dX8_deliver_38 : decode cX8_deliver 38 = .ok (.iload_n 2, 1) := by decide +kernel
theorem dX8_deliver_39 : decode cX8_deliver 39 = .ok (.iaload, 1) := by decide +kernel
theorem dX8_deliver_40 : decode cX8_deliver 40 = .ok (.iconst 1, 1) := by decide +kernel
theorem dX8_deliver_41 : decode cX8_deliver 41 = .ok (.if_icmp .eq 17, 3) := by decide +kernel
theorem dX8_deliver_44 : decode cX8_deliver 44 = .ok (.aload_n 0, 1) := by decide +kernel
theorem dX8_deliver_45 : decode cX8_deliver 45 = .ok (.getfield 55, 3) := by decide +kernel
theorem dX8_deliver_48 : decode cX8_deliver 48 = .ok (.iload_n 1, 1) := by decide +kernel
theorem dX8_deliver_49 : decode cX8_deliver 49 = .ok (.iaload, 1) := by decide +kernel
theorem dX8_deliver_50 : decode cX8_deliver 50 = .ok (.iload_n 3, 1) := by decide +kernel
theorem dX8_deliver_51 : decode cX8_deliver 51 = .ok (.iadd, 1) := by decide +kernel
theorem dX8_deliver_52 : decode cX8_deliver 52 = .ok (.sipush 200, 3) := by decide +kernel
theorem dX8_deliver_55 : decode cX8_deliver 55 = .ok (.if_icmp .le 7, 3) := by decide +kernel
theorem dX8_deliver_58 : decode cX8_deliver 58 = .ok (.iconst 3, 1) := by decide +kernel
theorem dX8_deliver_59 : decode cX8_deliver 59 = .ok (.goto 4, 3) := by decide +kernel
theorem dX8_deliver_62 : decode cX8_deliver 62 = .ok (.iconst 0, 1) := by decide +kernel
theorem dX8_deliver_63 : decode cX8_deliver 63 = .ok (.putfield 82, 3) := by decide +kernel
theorem dX8_deliver_66 : decode cX8_deliver 66 = .ok (.aload_n 0, 1) := by decide +kernel
theorem dX8_deliver_67 : decode cX8_deliver 67 = .ok (.getfield 82, 3) := by decide +kernel
theorem dX8_deliver_70 : decode cX8_deliver 70 = .ok (.ifCond .le 5, 3) := by decide +kernel
theorem dX8_deliver_73 : decode cX8_deliver 73 = .ok (.iconst 0, 1) := by decide +kernel
theorem dX8_deliver_74 : decode cX8_deliver 74 = .ok (.ireturn, 1) := by decide +kernel
theorem dX8_deliver_75 : decode cX8_deliver 75 = .ok (.iconst 0, 1) := by decide +kernel
theorem dX8_deliver_76 : decode cX8_deliver 76 = .ok (.istore 4, 2) := by decide +kernel
theorem dX8_deliver_78 : decode cX8_deliver 78 = .ok (.iload 4, 2) := by decide +kernel
theorem dX8_deliver_80 : decode cX8_deliver 80 = .ok (.iload_n 3, 1) := by decide +kernel
theorem dX8_deliver_81 : decode cX8_deliver 81 = .ok (.if_icmp .ge 37, 3) := by decide +kernel
theorem dX8_deliver_84 : decode cX8_deliver 84 = .ok (.aload_n 0, 1) := by decide +kernel
theorem dX8_deliver_85 : decode cX8_deliver 85 = .ok (.getfield 52, 3) := by decide +kernel
theorem dX8_deliver_88 : decode cX8_deliver 88 = .ok (.sipush 200, 3) := by decide +kernel
theorem dX8_deliver_91 : decode cX8_deliver 91 = .ok (.iload_n 1, 1) := by decide +kernel
theorem dX8_deliver_92 : decode cX8_deliver 92 = .ok (.imul, 1) := by decide +kernel
theorem dX8_deliver_93 : decode cX8_deliver 93 = .ok (.aload_n 0, 1) := by decide +kernel
theorem dX8_deliver_94 : decode cX8_deliver 94 = .ok (.getfield 55, 3) := by decide +kernel
theorem dX8_deliver_97 : decode cX8_deliver 97 = .ok (.iload_n 1, 1) := by decide +kernel
theorem dX8_deliver_98 : decode cX8_deliver 98 = .ok (.iaload, 1) := by decide +kernel
theorem dX8_deliver_99 : decode cX8_deliver 99 = .ok (.iadd, 1) := by decide +kernel
theorem dX8_deliver_100 : decode cX8_deliver 100 = .ok (.iload_n 2, 1) := by decide +kernel
theorem dX8_deliver_101 : decode cX8_deliver 101 = .ok (.iastore, 1) := by decide +kernel
theorem dX8_deliver_102 : decode cX8_deliver 102 = .ok (.aload_n 0, 1) := by decide +kernel
theorem dX8_deliver_103 : decode cX8_deliver 103 = .ok (.getfield 55, 3) := by decide +kernel
theorem dX8_deliver_106 : decode cX8_deliver 106 = .ok (.iload_n 1, 1) := by decide +kernel
theorem dX8_deliver_107 : decode cX8_deliver 107 = .ok (.dup2, 1) := by decide +kernel
theorem dX8_deliver_108 : decode cX8_deliver 108 = .ok (.iaload, 1) := by decide +kernel
theorem dX8_deliver_109 : decode cX8_deliver 109 = .ok (.iconst 1, 1) := by decide +kernel
theorem dX8_deliver_110 : decode cX8_deliver 110 = .ok (.iadd, 1) := by decide +kernel
theorem dX8_deliver_111 : decode cX8_deliver 111 = .ok (.iastore, 1) := by decide +kernel
theorem dX8_deliver_112 : decode cX8_deliver 112 = .ok (.iinc 4 1, 3) := by decide +kernel
theorem dX8_deliver_115 : decode cX8_deliver 115 = .ok (.goto (-37), 3) := by decide +kernel
theorem dX8_deliver_118 : decode cX8_deliver 118 = .ok (.aload_n 0, 1) := by decide +kernel
theorem dX8_deliver_119 : decode cX8_deliver 119 = .ok (.getfield 55, 3) := by decide +kernel
theorem dX8_deliver_122 : decode cX8_deliver 122 = .ok (.iload_n 1, 1) := by decide +kernel
theorem dX8_deliver_123 : decode cX8_deliver 123 = .ok (.iaload, 1) := by decide +kernel
theorem dX8_deliver_124 : decode cX8_deliver 124 = .ok (.ireturn, 1) := by decide +kernel
theorem dX8_throwsOut_0 : decode cX8_throwsOut 0 = .ok (.iconst 0, 1) := by decide +kernel
theorem dX8_throwsOut_1 : decode cX8_throwsOut 1 = .ok (.istore_n 3, 1) := by decide +kernel
theorem dX8_throwsOut_2 : decode cX8_throwsOut 2 = .ok (.iconst 0, 1) := by decide +kernel
theorem dX8_throwsOut_3 : decode cX8_throwsOut 3 = .ok (.istore 4, 2) := by decide +kernel
theorem dX8_throwsOut_5 : decode cX8_throwsOut 5 = .ok (.iload 4, 2) := by decide +kernel
theorem dX8_throwsOut_7 : decode cX8_throwsOut 7 = .ok (.aload_n 0, 1) := by decide +kernel
theorem dX8_throwsOut_8 : decode cX8_throwsOut 8 = .ok (.getfield 55, 3) := by decide +kernel
theorem dX8_throwsOut_11 : decode cX8_throwsOut 11 = .ok (.iload_n 1, 1) := by decide +kernel
theorem dX8_throwsOut_12 : decode cX8_throwsOut 12 = .ok (.iaload, 1) := by decide +kernel
theorem dX8_throwsOut_13 : decode cX8_throwsOut 13 = .ok (.if_icmp .ge 54, 3) := by decide +kernel
theorem dX8_throwsOut_16 : decode cX8_throwsOut 16 = .ok (.aload_n 0, 1) := by decide +kernel
theorem dX8_throwsOut_17 : decode cX8_throwsOut 17 = .ok (.getfield 52, 3) := by decide +kernel
theorem dX8_throwsOut_20 : decode cX8_throwsOut 20 = .ok (.sipush 200, 3) := by decide +kernel
theorem dX8_throwsOut_23 : decode cX8_throwsOut 23 = .ok (.iload_n 1, 1) := by decide +kernel
theorem dX8_throwsOut_24 : decode cX8_throwsOut 24 = .ok (.imul, 1) := by decide +kernel
theorem dX8_throwsOut_25 : decode cX8_throwsOut 25 = .ok (.iload 4, 2) := by decide +kernel
theorem dX8_throwsOut_27 : decode cX8_throwsOut 27 = .ok (.iadd, 1) := by decide +kernel
theorem dX8_throwsOut_28 : decode cX8_throwsOut 28 = .ok (.iaload, 1) := by decide +kernel
theorem dX8_throwsOut_29 : decode cX8_throwsOut 29 = .ok (.iload_n 2, 1) := by decide +kernel
theorem dX8_throwsOut_30 : decode cX8_throwsOut 30 = .ok (.if_icmp .eq 31, 3) := by decide +kernel
theorem dX8_throwsOut_33 : decode cX8_throwsOut 33 = .ok (.aload_n 0, 1) := by decide +kernel
theorem dX8_throwsOut_34 : decode cX8_throwsOut 34 = .ok (.getfield 52, 3) := by decide +kernel
theorem dX8_throwsOut_37 : decode cX8_throwsOut 37 = .ok (.sipush 200, 3) := by decide +kernel
theorem dX8_throwsOut_40 : decode cX8_throwsOut 40 = .ok (.iload_n 1, 1) := by decide +kernel
theorem dX8_throwsOut_41 : decode cX8_throwsOut 41 = .ok (.imul, 1) := by decide +kernel
theorem dX8_throwsOut_42 : decode cX8_throwsOut 42 = .ok (.iload_n 3, 1) := by decide +kernel
theorem dX8_throwsOut_43 : decode cX8_throwsOut 43 = .ok (.iadd, 1) := by decide +kernel
theorem dX8_throwsOut_44 : decode cX8_throwsOut 44 = .ok (.aload_n 0, 1) := by decide +kernel
theorem dX8_throwsOut_45 : decode cX8_throwsOut 45 = .ok (.getfield 52, 3) := by decide +kernel
theorem dX8_throwsOut_48 : decode cX8_throwsOut 48 = .ok (.sipush 200, 3) := by decide +kernel
theorem dX8_throwsOut_51 : decode cX8_throwsOut 51 = .ok (.iload_n 1, 1) := by decide +kernel
theorem dX8_throwsOut_52 : decode cX8_throwsOut 52 = .ok (.imul, 1) := by decide +kernel
theorem dX8_throwsOut_53 : decode cX8_throwsOut 53 = .ok (.iload 4, 2) := by decide +kernel
theorem dX8_throwsOut_55 : decode cX8_throwsOut 55 = .ok (.iadd, 1) := by decide +kernel
theorem dX8_throwsOut_56 : decode cX8_throwsOut 56 = .ok (.iaload, 1) := by decide +kernel
theorem dX8_throwsOut_57 : decode cX8_throwsOut 57 = .ok (.iastore, 1) := by decide +kernel
theorem dX8_throwsOut_58 : decode cX8_throwsOut 58 = .ok (.iinc 3 1, 3) := by decide +kernel
theorem dX8_throwsOut_61 : decode cX8_throwsOut 61 = .ok (.iinc 4 1, 3) := by decide +kernel
theorem dX8_throwsOut_64 : decode cX8_throwsOut 64 = .ok (.goto (-59), 3) := by decide +kernel
theorem dX8_throwsOut_67 : decode cX8_throwsOut 67 = .ok (.aload_n 0, 1) := by decide +kernel
theorem dX8_throwsOut_68 : decode cX8_throwsOut 68 = .ok (.getfield 55, 3) := by decide +kernel
theorem dX8_throwsOut_71 : decode cX8_throwsOut 71 = .ok (.iload_n 1, 1) := by decide +kernel
theorem dX8_throwsOut_72 : decode cX8_throwsOut 72 = .ok (.iload_n 3, 1) := by decide +kernel
theorem dX8_throwsOut_73 : decode cX8_throwsOut 73 = .ok (.iastore, 1) := by decide +kernel
theorem dX8_throwsOut_74 : decode cX8_throwsOut 74 = .ok (.return_, 1) := by decide +kernel
theorem dX8_condemn_0 : decode cX8_condemn 0 = .ok (.aload_n 0, 1) := by decide +kernel
theorem dX8_condemn_1 : decode cX8_condemn 1 = .ok (.aload_n 0, 1) := by decide +kernel
theorem dX8_condemn_2 : decode cX8_condemn 2 = .ok (.iload_n 1, 1) := by decide +kernel
theorem dX8_condemn_3 : decode cX8_condemn 3 = .ok (.invokevirtual 150, 3) := by decide +kernel
theorem dX8_condemn_6 : decode cX8_condemn 6 = .ok (.ifCond .ne 7, 3) := by decide +kernel
theorem dX8_condemn_9 : decode cX8_condemn 9 = .ok (.iconst 1, 1) := by decide +kernel
theorem dX8_condemn_10 : decode cX8_condemn 10 = .ok (.goto 18, 3) := by decide +kernel
theorem dX8_condemn_13 : decode cX8_condemn 13 = .ok (.aload_n 0, 1) := by decide +kernel
theorem dX8_condemn_14 : decode cX8_condemn 14 = .ok (.getfield 49, 3) := by decide +kernel
theorem dX8_condemn_17 : decode cX8_condemn 17 = .ok (.iload_n 1, 1) := by decide +kernel
theorem dX8_condemn_18 : decode cX8_condemn 18 = .ok (.iaload, 1) := by decide +kernel
theorem dX8_condemn_19 : decode cX8_condemn 19 = .ok (.iconst 1, 1) := by decide +kernel
theorem dX8_condemn_20 : decode cX8_condemn 20 = .ok (.if_icmp .ne 7, 3) := by decide +kernel
theorem dX8_condemn_23 : decode cX8_condemn 23 = .ok (.iconst 2, 1) := by decide +kernel
theorem dX8_condemn_24 : decode cX8_condemn 24 = .ok (.goto 4, 3) := by decide +kernel
theorem dX8_condemn_27 : decode cX8_condemn 27 = .ok (.iconst 0, 1) := by decide +kernel
theorem dX8_condemn_28 : decode cX8_condemn 28 = .ok (.putfield 82, 3) := by decide +kernel
theorem dX8_condemn_31 : decode cX8_condemn 31 = .ok (.aload_n 0, 1) := by decide +kernel
theorem dX8_condemn_32 : decode cX8_condemn 32 = .ok (.getfield 82, 3) := by decide +kernel
theorem dX8_condemn_35 : decode cX8_condemn 35 = .ok (.ifCond .le 5, 3) := by decide +kernel
theorem dX8_condemn_38 : decode cX8_condemn 38 = .ok (.iconst 0, 1) := by decide +kernel
theorem dX8_condemn_39 : decode cX8_condemn 39 = .ok (.ireturn, 1) := by decide +kernel
theorem dX8_condemn_40 : decode cX8_condemn 40 = .ok (.aload_n 0, 1) := by decide +kernel
theorem dX8_condemn_41 : decode cX8_condemn 41 = .ok (.getfield 49, 3) := by decide +kernel
theorem dX8_condemn_44 : decode cX8_condemn 44 = .ok (.iload_n 1, 1) := by decide +kernel
theorem dX8_condemn_45 : decode cX8_condemn 45 = .ok (.iconst 1, 1) := by decide +kernel
theorem dX8_condemn_46 : decode cX8_condemn 46 = .ok (.iastore, 1) := by decide +kernel
theorem dX8_condemn_47 : decode cX8_condemn 47 = .ok (.iconst 0, 1) := by decide +kernel
theorem dX8_condemn_48 : decode cX8_condemn 48 = .ok (.istore_n 2, 1) := by decide +kernel
theorem dX8_condemn_49 : decode cX8_condemn 49 = .ok (.iload_n 2, 1) := by decide +kernel
theorem dX8_condemn_50 : decode cX8_condemn 50 = .ok (.iconst 5, 1) := by decide +kernel
theorem dX8_condemn_51 : decode cX8_condemn 51 = .ok (.if_icmp .ge 15, 3) := by decide +kernel
theorem dX8_condemn_54 : decode cX8_condemn 54 = .ok (.aload_n 0, 1) := by decide +kernel
theorem dX8_condemn_55 : decode cX8_condemn 55 = .ok (.iload_n 2, 1) := by decide +kernel
theorem dX8_condemn_56 : decode cX8_condemn 56 = .ok (.iload_n 1, 1) := by decide +kernel
theorem dX8_condemn_57 : decode cX8_condemn 57 = .ok (.invokevirtual 153, 3) := by decide +kernel
theorem dX8_condemn_60 : decode cX8_condemn 60 = .ok (.iinc 2 1, 3) := by decide +kernel
theorem dX8_condemn_63 : decode cX8_condemn 63 = .ok (.goto (-14), 3) := by decide +kernel
theorem dX8_condemn_66 : decode cX8_condemn 66 = .ok (.iconst 0, 1) := by decide +kernel
theorem dX8_condemn_67 : decode cX8_condemn 67 = .ok (.istore_n 2, 1) := by decide +kernel
theorem dX8_condemn_68 : decode cX8_condemn 68 = .ok (.iconst 0, 1) := by decide +kernel
theorem dX8_condemn_69 : decode cX8_condemn 69 = .ok (.istore_n 3, 1) := by decide +kernel
theorem dX8_condemn_70 : decode cX8_condemn 70 = .ok (.iload_n 3, 1) := by decide +kernel
theorem dX8_condemn_71 : decode cX8_condemn 71 = .ok (.aload_n 0, 1) := by decide +kernel
theorem dX8_condemn_72 : decode cX8_condemn 72 = .ok (.getfield 128, 3) := by decide +kernel
theorem dX8_condemn_75 : decode cX8_condemn 75 = .ok (.if_icmp .ge 36, 3) := by decide +kernel
theorem dX8_condemn_78 : decode cX8_condemn 78 = .ok (.iload_n 2, 1) := by decide +kernel
theorem dX8_condemn_79 : decode cX8_condemn 79 = .ok (.aload_n 0, 1) := by decide +kernel
theorem dX8_condemn_80 : decode cX8_condemn 80 = .ok (.getfield 64, 3) := by decide +kernel
theorem dX8_condemn_83 : decode cX8_condemn 83 = .ok (.iload_n 3, 1) := by decide +kernel
theorem dX8_condemn_84 : decode cX8_condemn 84 = .ok (.iaload, 1) := by decide +kernel
theorem dX8_condemn_85 : decode cX8_condemn 85 = .ok (.iload_n 1, 1) := by decide +kernel
theorem dX8_condemn_86 : decode cX8_condemn 86 = .ok (.ishr, 1) := by decide +kernel
theorem dX8_condemn_87 : decode cX8_condemn 87 = .ok (.iconst 1, 1) := by decide +kernel
theorem dX8_condemn_88 : decode cX8_condemn 88 = .ok (.iand, 1) := by decide +kernel
theorem dX8_condemn_89 : decode cX8_condemn 89 = .ok (.iconst 1, 1) := by decide +kernel
theorem dX8_condemn_90 : decode cX8_condemn 90 = .ok (.if_icmp .ne 12, 3) := by decide +kernel
theorem dX8_condemn_93 : decode cX8_condemn 93 = .ok (.aload_n 0, 1) := by decide +kernel
theorem dX8_condemn_94 : decode cX8_condemn 94 = .ok (.iload_n 3, 1) := by decide +kernel
theorem dX8_condemn_95 : decode cX8_condemn 95 = .ok (.iconst 2, 1) := by decide +kernel
theorem dX8_condemn_96 : decode cX8_condemn 96 = .ok (.invokevirtual 131, 3) := by decide +kernel
theorem dX8_condemn_99 : decode cX8_condemn 99 = .ok (.goto 4, 3) := by decide +kernel
theorem dX8_condemn_102 : decode cX8_condemn 102 = .ok (.iconst 0, 1) := by decide +kernel
theorem dX8_condemn_103 : decode cX8_condemn 103 = .ok (.iadd, 1) := by decide +kernel
theorem dX8_condemn_104 : decode cX8_condemn 104 = .ok (.istore_n 2, 1) := by decide +kernel
theorem dX8_condemn_105 : decode cX8_condemn 105 = .ok (.iinc 3 1, 3) := by decide +kernel
theorem dX8_condemn_108 : decode cX8_condemn 108 = .ok (.goto (-38), 3) := by decide +kernel
theorem dX8_condemn_111 : decode cX8_condemn 111 = .ok (.iload_n 2, 1) := by decide +kernel
theorem dX8_condemn_112 : decode cX8_condemn 112 = .ok (.ireturn, 1) := by decide +kernel
theorem dX8_store_0 : decode cX8_store 0 = .ok (.aload_n 0, 1) := by decide +kernel
theorem dX8_store_1 : decode cX8_store 1 = .ok (.iload_n 1, 1) := by decide +kernel
theorem dX8_store_2 : decode cX8_store 2 = .ok (.invokevirtual 138, 3) := by decide +kernel
theorem dX8_store_5 : decode cX8_store 5 = .ok (.ifCond .eq 12, 3) := by decide +kernel
theorem dX8_store_8 : decode cX8_store 8 = .ok (.aload_n 0, 1) := by decide +kernel
theorem dX8_store_9 : decode cX8_store 9 = .ok (.getfield 55, 3) := by decide +kernel
theorem dX8_store_12 : decode cX8_store 12 = .ok (.iload_n 1, 1) := by decide +kernel
theorem dX8_store_13 : decode cX8_store 13 = .ok (.iaload, 1) := by decide +kernel
theorem dX8_store_14 : decode cX8_store 14 = .ok (.goto 4, 3) := by decide +kernel
theorem dX8_store_17 : decode cX8_store 17 = .ok (.iconst 0, 1) := by decide +kernel
theorem dX8_store_18 : decode cX8_store 18 = .ok (.ireturn, 1) := by decide +kernel
theorem dX8_isHour_0 : decode cX8_isHour 0 = .ok (.iload_n 1, 1) := by decide +kernel
theorem dX8_isHour_1 : decode cX8_isHour 1 = .ok (.aload_n 0, 1) := by decide +kernel
theorem dX8_isHour_2 : decode cX8_isHour 2 = .ok (.getfield 156, 3) := by decide +kernel
theorem dX8_isHour_5 : decode cX8_isHour 5 = .ok (.if_icmp .lt 18, 3) := by decide +kernel
theorem dX8_isHour_8 : decode cX8_isHour 8 = .ok (.iload_n 1, 1) := by decide +kernel
theorem dX8_isHour_9 : decode cX8_isHour 9 = .ok (.aload_n 0, 1) := by decide +kernel
theorem dX8_isHour_10 : decode cX8_isHour 10 = .ok (.getfield 156, 3) := by decide +kernel
theorem dX8_isHour_13 : decode cX8_isHour 13 = .ok (.isub, 1) := by decide +kernel
theorem dX8_isHour_14 : decode cX8_isHour 14 = .ok (.bipush 50, 2) := by decide +kernel
theorem dX8_isHour_16 : decode cX8_isHour 16 = .ok (.if_icmp .gt 7, 3) := by decide +kernel
theorem dX8_isHour_19 : decode cX8_isHour 19 = .ok (.iconst 1, 1) := by decide +kernel
theorem dX8_isHour_20 : decode cX8_isHour 20 = .ok (.goto 4, 3) := by decide +kernel
theorem dX8_isHour_23 : decode cX8_isHour 23 = .ok (.iconst 0, 1) := by decide +kernel
theorem dX8_isHour_24 : decode cX8_isHour 24 = .ok (.ireturn, 1) := by decide +kernel
theorem dX8_book_0 : decode cX8_book 0 = .ok (.aload_n 0, 1) := by decide +kernel
theorem dX8_book_1 : decode cX8_book 1 = .ok (.iload_n 1, 1) := by decide +kernel
theorem dX8_book_2 : decode cX8_book 2 = .ok (.invokestatic 93, 3) := by decide +kernel
theorem dX8_book_5 : decode cX8_book 5 = .ok (.ifCond .eq 12, 3) := by decide +kernel
theorem dX8_book_8 : decode cX8_book 8 = .ok (.iload_n 3, 1) := by decide +kernel
theorem dX8_book_9 : decode cX8_book 9 = .ok (.iconst 0, 1) := by decide +kernel
theorem dX8_book_10 : decode cX8_book 10 = .ok (.iconst 5, 1) := by decide +kernel
theorem dX8_book_11 : decode cX8_book 11 = .ok (.invokestatic 86, 3) := by decide +kernel
theorem dX8_book_14 : decode cX8_book 14 = .ok (.ifCond .ne 7, 3) := by decide +kernel
theorem dX8_book_17 : decode cX8_book 17 = .ok (.iconst 1, 1) := by decide +kernel
theorem dX8_book_18 : decode cX8_book 18 = .ok (.goto 16, 3) := by decide +kernel
theorem dX8_book_21 : decode cX8_book 21 = .ok (.aload_n 0, 1) := by decide +kernel
theorem dX8_book_22 : decode cX8_book 22 = .ok (.iload_n 2, 1) := by decide +kernel
theorem dX8_book_23 : decode cX8_book 23 = .ok (.invokevirtual 159, 3) := by decide +kernel
theorem dX8_book_26 : decode cX8_book 26 = .ok (.ifCond .ne 7, 3) := by decide +kernel
theorem dX8_book_29 : decode cX8_book 29 = .ok (.iconst 2, 1) := by decide +kernel
theorem dX8_book_30 : decode cX8_book 30 = .ok (.goto 4, 3) := by decide +kernel
theorem dX8_book_33 : decode cX8_book 33 = .ok (.iconst 0, 1) := by decide +kernel
theorem dX8_book_34 : decode cX8_book 34 = .ok (.putfield 82, 3) := by decide +kernel
theorem dX8_book_37 : decode cX8_book 37 = .ok (.aload_n 0, 1) := by decide +kernel
theorem dX8_book_38 : decode cX8_book 38 = .ok (.getfield 82, 3) := by decide +kernel
theorem dX8_book_41 : decode cX8_book 41 = .ok (.ifCond .le 5, 3) := by decide +kernel
theorem dX8_book_44 : decode cX8_book 44 = .ok (.iconst 0, 1) := by decide +kernel
theorem dX8_book_45 : decode cX8_book 45 = .ok (.ireturn, 1) := by decide +kernel
theorem dX8_book_46 : decode cX8_book 46 = .ok (.aload_n 0, 1) := by decide +kernel
theorem dX8_book_47 : decode cX8_book 47 = .ok (.iload_n 1, 1) := by decide +kernel
theorem dX8_book_48 : decode cX8_book 48 = .ok (.iload_n 3, 1) := by decide +kernel
theorem dX8_book_49 : decode cX8_book 49 = .ok (.invokevirtual 144, 3) := by decide +kernel
theorem dX8_book_52 : decode cX8_book 52 = .ok (.istore 4, 2) := by decide +kernel
theorem dX8_book_54 : decode cX8_book 54 = .ok (.aload_n 0, 1) := by decide +kernel
theorem dX8_book_55 : decode cX8_book 55 = .ok (.getfield 46, 3) := by decide +kernel
theorem dX8_book_58 : decode cX8_book 58 = .ok (.sipush 1051, 3) := by decide +kernel
theorem dX8_book_61 : decode cX8_book 61 = .ok (.iload_n 1, 1) := by decide +kernel
theorem dX8_book_62 : decode cX8_book 62 = .ok (.imul, 1) := by decide +kernel
theorem dX8_book_63 : decode cX8_book 63 = .ok (.iload_n 2, 1) := by decide +kernel
theorem dX8_book_64 : decode cX8_book 64 = .ok (.iadd, 1) := by decide +kernel
theorem dX8_book_65 : decode cX8_book 65 = .ok (.iaload, 1) := by decide +kernel
theorem dX8_book_66 : decode cX8_book 66 = .ok (.ifCond .gt 9, 3) := by decide +kernel
theorem dX8_book_69 : decode cX8_book 69 = .ok (.iload 4, 2) := by decide +kernel
theorem dX8_book_71 : decode cX8_book 71 = .ok (.iconst (-1), 1) := by decide +kernel
theorem dX8_book_72 : decode cX8_book 72 = .ok (.if_icmp .ne 9, 3) := by decide +kernel
theorem dX8_book_75 : decode cX8_book 75 = .ok (.aload_n 0, 1) := by decide +kernel
theorem dX8_book_76 : decode cX8_book 76 = .ok (.iconst 3, 1) := by decide +kernel
theorem dX8_book_77 : decode cX8_book 77 = .ok (.invokevirtual 162, 3) := by decide +kernel
theorem dX8_book_80 : decode cX8_book 80 = .ok (.ireturn, 1) := by decide +kernel
theorem dX8_book_81 : decode cX8_book 81 = .ok (.aload_n 0, 1) := by decide +kernel
theorem dX8_book_82 : decode cX8_book 82 = .ok (.getfield 46, 3) := by decide +kernel
theorem dX8_book_85 : decode cX8_book 85 = .ok (.sipush 1051, 3) := by decide +kernel
theorem dX8_book_88 : decode cX8_book 88 = .ok (.iload_n 1, 1) := by decide +kernel
theorem dX8_book_89 : decode cX8_book 89 = .ok (.imul, 1) := by decide +kernel
theorem dX8_book_90 : decode cX8_book 90 = .ok (.iload_n 2, 1) := by decide +kernel
theorem dX8_book_91 : decode cX8_book 91 = .ok (.iadd, 1) := by decide +kernel
theorem dX8_book_92 : decode cX8_book 92 = .ok (.iload 4, 2) := by decide +kernel
theorem dX8_book_94 : decode cX8_book 94 = .ok (.iconst 1, 1) := by decide +kernel
theorem dX8_book_95 : decode cX8_book 95 = .ok (.iadd, 1) := by decide +kernel
theorem dX8_book_96 : decode cX8_book 96 = .ok (.iastore, 1) := by decide +kernel
theorem dX8_book_97 : decode cX8_book 97 = .ok (.iload 4, 2) := by decide +kernel
theorem dX8_book_99 : decode cX8_book 99 = .ok (.ireturn, 1) := by decide +kernel
theorem dX8_renew_0 : decode cX8_renew 0 = .ok (.aload_n 0, 1) := by decide +kernel
theorem dX8_renew_1 : decode cX8_renew 1 = .ok (.iload_n 1, 1) := by decide +kernel
theorem dX8_renew_2 : decode cX8_renew 2 = .ok (.invokestatic 93, 3) := by decide +kernel
theorem dX8_renew_5 : decode cX8_renew 5 = .ok (.ifCond .ne 7, 3) := by decide +kernel
theorem dX8_renew_8 : decode cX8_renew 8 = .ok (.iconst 1, 1) := by decide +kernel
theorem dX8_renew_9 : decode cX8_renew 9 = .ok (.goto 35, 3) := by decide +kernel
theorem dX8_renew_12 : decode cX8_renew 12 = .ok (.aload_n 0, 1) := by decide +kernel
theorem dX8_renew_13 : decode cX8_renew 13 = .ok (.iload_n 2, 1) := by decide +kernel
theorem dX8_renew_14 : decode cX8_renew 14 = .ok (.invokevirtual 159, 3) := by decide +kernel
theorem dX8_renew_17 : decode cX8_renew 17 = .ok (.ifCond .ne 7, 3) := by decide +kernel
theorem dX8_renew_20 : decode cX8_renew 20 = .ok (.iconst 2, 1) := by decide +kernel
theorem dX8_renew_21 : decode cX8_renew 21 = .ok (.goto 23, 3) := by decide +kernel
theorem dX8_renew_24 : decode cX8_renew 24 = .ok (.aload_n 0, 1) := by decide +kernel
theorem dX8_renew_25 : decode cX8_renew 25 = .ok (.getfield 46, 3) := by decide +kernel
theorem dX8_renew_28 : decode cX8_renew 28 = .ok (.sipush 1051, 3) := by decide +kernel
theorem dX8_renew_31 : decode cX8_renew 31 = .ok (.iload_n 1, 1) := by decide +kernel
theorem dX8_renew_32 : decode cX8_renew 32 = .ok (.imul, 1) := by decide +kernel
theorem dX8_renew_33 : decode cX8_renew 33 = .ok (.iload_n 2, 1) := by decide +kernel
theorem dX8_renew_34 : decode cX8_renew 34 = .ok (.iadd, 1) := by decide +kernel
theorem dX8_renew_35 : decode cX8_renew 35 = .ok (.iaload, 1) := by decide +kernel
theorem dX8_renew_36 : decode cX8_renew 36 = .ok (.ifCond .ne 7, 3) := by decide +kernel
theorem dX8_renew_39 : decode cX8_renew 39 = .ok (.iconst 3, 1) := by decide +kernel
theorem dX8_renew_40 : decode cX8_renew 40 = .ok (.goto 4, 3) := by decide +kernel
theorem dX8_renew_43 : decode cX8_renew 43 = .ok (.iconst 0, 1) := by decide +kernel
theorem dX8_renew_44 : decode cX8_renew 44 = .ok (.putfield 82, 3) := by decide +kernel
theorem dX8_renew_47 : decode cX8_renew 47 = .ok (.aload_n 0, 1) := by decide +kernel
theorem dX8_renew_48 : decode cX8_renew 48 = .ok (.getfield 82, 3) := by decide +kernel
theorem dX8_renew_51 : decode cX8_renew 51 = .ok (.ifCond .le 5, 3) := by decide +kernel
theorem dX8_renew_54 : decode cX8_renew 54 = .ok (.iconst 0, 1) := by decide +kernel
theorem dX8_renew_55 : decode cX8_renew 55 = .ok (.ireturn, 1) := by decide +kernel
theorem dX8_renew_56 : decode cX8_renew 56 = .ok (.aload_n 0, 1) := by decide +kernel
theorem dX8_renew_57 : decode cX8_renew 57 = .ok (.iload_n 1, 1) := by decide +kernel
theorem dX8_renew_58 : decode cX8_renew 58 = .ok (.aload_n 0, 1) := by decide +kernel
theorem dX8_renew_59 : decode cX8_renew 59 = .ok (.getfield 31, 3) := by decide +kernel
theorem dX8_renew_62 : decode cX8_renew 62 = .ok (.aload_n 0, 1) := by decide +kernel
theorem dX8_renew_63 : decode cX8_renew 63 = .ok (.getfield 46, 3) := by decide +kernel
theorem dX8_renew_66 : decode cX8_renew 66 = .ok (.sipush 1051, 3) := by decide +kernel
theorem dX8_renew_69 : decode cX8_renew 69 = .ok (.iload_n 1, 1) := by decide +kernel
theorem dX8_renew_70 : decode cX8_renew 70 = .ok (.imul, 1) := by decide +kernel
theorem dX8_renew_71 : decode cX8_renew 71 = .ok (.iload_n 2, 1) := by decide +kernel
theorem dX8_renew_72 : decode cX8_renew 72 = .ok (.iadd, 1) := by decide +kernel
theorem dX8_renew_73 : decode cX8_renew 73 = .ok (.iaload, 1) := by decide +kernel
theorem dX8_renew_74 : decode cX8_renew 74 = .ok (.iconst 1, 1) := by decide +kernel
theorem dX8_renew_75 : decode cX8_renew 75 = .ok (.isub, 1) := by decide +kernel
theorem dX8_renew_76 : decode cX8_renew 76 = .ok (.iaload, 1) := by decide +kernel
theorem dX8_renew_77 : decode cX8_renew 77 = .ok (.invokevirtual 144, 3) := by decide +kernel
theorem dX8_renew_80 : decode cX8_renew 80 = .ok (.istore_n 3, 1) := by decide +kernel
theorem dX8_renew_81 : decode cX8_renew 81 = .ok (.iload_n 3, 1) := by decide +kernel
theorem dX8_renew_82 : decode cX8_renew 82 = .ok (.iconst (-1), 1) := by decide +kernel
theorem dX8_renew_83 : decode cX8_renew 83 = .ok (.if_icmp .ne 9, 3) := by decide +kernel
theorem dX8_renew_86 : decode cX8_renew 86 = .ok (.aload_n 0, 1) := by decide +kernel
theorem dX8_renew_87 : decode cX8_renew 87 = .ok (.iconst 3, 1) := by decide +kernel
theorem dX8_renew_88 : decode cX8_renew 88 = .ok (.invokevirtual 162, 3) := by decide +kernel
theorem dX8_renew_91 : decode cX8_renew 91 = .ok (.ireturn, 1) := by decide +kernel
theorem dX8_renew_92 : decode cX8_renew 92 = .ok (.aload_n 0, 1) := by decide +kernel
theorem dX8_renew_93 : decode cX8_renew 93 = .ok (.getfield 46, 3) := by decide +kernel
theorem dX8_renew_96 : decode cX8_renew 96 = .ok (.sipush 1051, 3) := by decide +kernel
theorem dX8_renew_99 : decode cX8_renew 99 = .ok (.iload_n 1, 1) := by decide +kernel
theorem dX8_renew_100 : decode cX8_renew 100 = .ok (.imul, 1) := by decide +kernel
theorem dX8_renew_101 : decode cX8_renew 101 = .ok (.iload_n 2, 1) := by decide +kernel
theorem dX8_renew_102 : decode cX8_renew 102 = .ok (.iadd, 1) := by decide +kernel
theorem dX8_renew_103 : decode cX8_renew 103 = .ok (.iload_n 3, 1) := by decide +kernel
theorem dX8_renew_104 : decode cX8_renew 104 = .ok (.iconst 1, 1) := by decide +kernel
theorem dX8_renew_105 : decode cX8_renew 105 = .ok (.iadd, 1) := by decide +kernel
theorem dX8_renew_106 : decode cX8_renew 106 = .ok (.iastore, 1) := by decide +kernel
theorem dX8_renew_107 : decode cX8_renew 107 = .ok (.iload_n 3, 1) := by decide +kernel
theorem dX8_renew_108 : decode cX8_renew 108 = .ok (.ireturn, 1) := by decide +kernel
theorem dX8_free_0 : decode cX8_free 0 = .ok (.aload_n 0, 1) := by decide +kernel
theorem dX8_free_1 : decode cX8_free 1 = .ok (.iload_n 1, 1) := by decide +kernel
theorem dX8_free_2 : decode cX8_free 2 = .ok (.invokestatic 93, 3) := by decide +kernel
theorem dX8_free_5 : decode cX8_free 5 = .ok (.ifCond .ne 7, 3) := by decide +kernel
theorem dX8_free_8 : decode cX8_free 8 = .ok (.iconst 1, 1) := by decide +kernel
theorem dX8_free_9 : decode cX8_free 9 = .ok (.goto 35, 3) := by decide +kernel
theorem dX8_free_12 : decode cX8_free 12 = .ok (.aload_n 0, 1) := by decide +kernel
theorem dX8_free_13 : decode cX8_free 13 = .ok (.iload_n 2, 1) := by decide +kernel
theorem dX8_free_14 : decode cX8_free 14 = .ok (.invokevirtual 159, 3) := by decide +kernel
theorem dX8_free_17 : decode cX8_free 17 = .ok (.ifCond .ne 7, 3) := by decide +kernel
theorem dX8_free_20 : decode cX8_free 20 = .ok (.iconst 2, 1) := by decide +kernel
theorem dX8_free_21 : decode cX8_free 21 = .ok (.goto 23, 3) := by decide +kernel
theorem dX8_free_24 : decode cX8_free 24 = .ok (.aload_n 0, 1) := by decide +kernel
theorem dX8_free_25 : decode cX8_free 25 = .ok (.getfield 46, 3) := by decide +kernel
theorem dX8_free_28 : decode cX8_free 28 = .ok (.sipush 1051, 3) := by decide +kernel
theorem dX8_free_31 : decode cX8_free 31 = .ok (.iload_n 1, 1) := by decide +kernel
theorem dX8_free_32 : decode cX8_free 32 = .ok (.imul, 1) := by decide +kernel
theorem dX8_free_33 : decode cX8_free 33 = .ok (.iload_n 2, 1) := by decide +kernel
theorem dX8_free_34 : decode cX8_free 34 = .ok (.iadd, 1) := by decide +kernel
theorem dX8_free_35 : decode cX8_free 35 = .ok (.iaload, 1) := by decide +kernel
theorem dX8_free_36 : decode cX8_free 36 = .ok (.ifCond .ne 7, 3) := by decide +kernel
theorem dX8_free_39 : decode cX8_free 39 = .ok (.iconst 3, 1) := by decide +kernel
theorem dX8_free_40 : decode cX8_free 40 = .ok (.goto 4, 3) := by decide +kernel
theorem dX8_free_43 : decode cX8_free 43 = .ok (.iconst 0, 1) := by decide +kernel
theorem dX8_free_44 : decode cX8_free 44 = .ok (.putfield 82, 3) := by decide +kernel
theorem dX8_free_47 : decode cX8_free 47 = .ok (.aload_n 0, 1) := by decide +kernel
theorem dX8_free_48 : decode cX8_free 48 = .ok (.getfield 82, 3) := by decide +kernel
theorem dX8_free_51 : decode cX8_free 51 = .ok (.ifCond .le 5, 3) := by decide +kernel
theorem dX8_free_54 : decode cX8_free 54 = .ok (.iconst 0, 1) := by decide +kernel
theorem dX8_free_55 : decode cX8_free 55 = .ok (.ireturn, 1) := by decide +kernel
theorem dX8_free_56 : decode cX8_free 56 = .ok (.aload_n 0, 1) := by decide +kernel
theorem dX8_free_57 : decode cX8_free 57 = .ok (.getfield 46, 3) := by decide +kernel
theorem dX8_free_60 : decode cX8_free 60 = .ok (.sipush 1051, 3) := by decide +kernel
theorem dX8_free_63 : decode cX8_free 63 = .ok (.iload_n 1, 1) := by decide +kernel
theorem dX8_free_64 : decode cX8_free 64 = .ok (.imul, 1) := by decide +kernel
theorem dX8_free_65 : decode cX8_free 65 = .ok (.iload_n 2, 1) := by decide +kernel
theorem dX8_free_66 : decode cX8_free 66 = .ok (.iadd, 1) := by decide +kernel
theorem dX8_free_67 : decode cX8_free 67 = .ok (.iaload, 1) := by decide +kernel
theorem dX8_free_68 : decode cX8_free 68 = .ok (.iconst 1, 1) := by decide +kernel
theorem dX8_free_69 : decode cX8_free 69 = .ok (.isub, 1) := by decide +kernel
theorem dX8_free_70 : decode cX8_free 70 = .ok (.istore_n 3, 1) := by decide +kernel
theorem dX8_free_71 : decode cX8_free 71 = .ok (.aload_n 0, 1) := by decide +kernel
theorem dX8_free_72 : decode cX8_free 72 = .ok (.getfield 46, 3) := by decide +kernel
theorem dX8_free_75 : decode cX8_free 75 = .ok (.sipush 1051, 3) := by decide +kernel
theorem dX8_free_78 : decode cX8_free 78 = .ok (.iload_n 1, 1) := by decide +kernel
theorem dX8_free_79 : decode cX8_free 79 = .ok (.imul, 1) := by decide +kernel
theorem dX8_free_80 : decode cX8_free 80 = .ok (.iload_n 2, 1) := by decide +kernel
theorem dX8_free_81 : decode cX8_free 81 = .ok (.iadd, 1) := by decide +kernel
theorem dX8_free_82 : decode cX8_free 82 = .ok (.iconst 0, 1) := by decide +kernel
theorem dX8_free_83 : decode cX8_free 83 = .ok (.iastore, 1) := by decide +kernel
theorem dX8_free_84 : decode cX8_free 84 = .ok (.iload_n 3, 1) := by decide +kernel
theorem dX8_free_85 : decode cX8_free 85 = .ok (.ireturn, 1) := by decide +kernel
theorem dX8_booked_0 : decode cX8_booked 0 = .ok (.aload_n 0, 1) := by decide +kernel
theorem dX8_booked_1 : decode cX8_booked 1 = .ok (.iload_n 1, 1) := by decide +kernel
theorem dX8_booked_2 : decode cX8_booked 2 = .ok (.invokestatic 93, 3) := by decide +kernel
theorem dX8_booked_5 : decode cX8_booked 5 = .ok (.ifCond .ne 7, 3) := by decide +kernel
theorem dX8_booked_8 : decode cX8_booked 8 = .ok (.iconst 1, 1) := by decide +kernel
theorem dX8_booked_9 : decode cX8_booked 9 = .ok (.goto 16, 3) := by decide +kernel
theorem dX8_booked_12 : decode cX8_booked 12 = .ok (.aload_n 0, 1) := by decide +kernel
theorem dX8_booked_13 : decode cX8_booked 13 = .ok (.iload_n 2, 1) := by decide +kernel
theorem dX8_booked_14 : decode cX8_booked 14 = .ok (.invokevirtual 159, 3) := by decide +kernel
theorem dX8_booked_17 : decode cX8_booked 17 = .ok (.ifCond .ne 7, 3) := by decide +kernel
theorem dX8_booked_20 : decode cX8_booked 20 = .ok (.iconst 2, 1) := by decide +kernel
theorem dX8_booked_21 : decode cX8_booked 21 = .ok (.goto 4, 3) := by decide +kernel
theorem dX8_booked_24 : decode cX8_booked 24 = .ok (.iconst 0, 1) := by decide +kernel
theorem dX8_booked_25 : decode cX8_booked 25 = .ok (.putfield 82, 3) := by decide +kernel
theorem dX8_booked_28 : decode cX8_booked 28 = .ok (.aload_n 0, 1) := by decide +kernel
theorem dX8_booked_29 : decode cX8_booked 29 = .ok (.getfield 82, 3) := by decide +kernel
theorem dX8_booked_32 : decode cX8_booked 32 = .ok (.ifCond .ne 20, 3) := by decide +kernel
theorem dX8_booked_35 : decode cX8_booked 35 = .ok (.aload_n 0, 1) := by decide +kernel
theorem dX8_booked_36 : decode cX8_booked 36 = .ok (.getfield 46, 3) := by decide +kernel
theorem dX8_booked_39 : decode cX8_booked 39 = .ok (.sipush 1051, 3) := by decide +kernel
theorem dX8_booked_42 : decode cX8_booked 42 = .ok (.iload_n 1, 1) := by decide +kernel
theorem dX8_booked_43 : decode cX8_booked 43 = .ok (.imul, 1) := by decide +kernel
theorem dX8_booked_44 : decode cX8_booked 44 = .ok (.iload_n 2, 1) := by decide +kernel
theorem dX8_booked_45 : decode cX8_booked 45 = .ok (.iadd, 1) := by decide +kernel
theorem dX8_booked_46 : decode cX8_booked 46 = .ok (.iaload, 1) := by decide +kernel
theorem dX8_booked_47 : decode cX8_booked 47 = .ok (.iconst 1, 1) := by decide +kernel
theorem dX8_booked_48 : decode cX8_booked 48 = .ok (.isub, 1) := by decide +kernel
theorem dX8_booked_49 : decode cX8_booked 49 = .ok (.goto 4, 3) := by decide +kernel
theorem dX8_booked_52 : decode cX8_booked 52 = .ok (.iconst 0, 1) := by decide +kernel
theorem dX8_booked_53 : decode cX8_booked 53 = .ok (.ireturn, 1) := by decide +kernel
theorem dX8_stopped_0 : decode cX8_stopped 0 = .ok (.aload_n 0, 1) := by decide +kernel
theorem dX8_stopped_1 : decode cX8_stopped 1 = .ok (.iconst 0, 1) := by decide +kernel
theorem dX8_stopped_2 : decode cX8_stopped 2 = .ok (.putfield 82, 3) := by decide +kernel
theorem dX8_stopped_5 : decode cX8_stopped 5 = .ok (.iconst 0, 1) := by decide +kernel
theorem dX8_stopped_6 : decode cX8_stopped 6 = .ok (.istore_n 1, 1) := by decide +kernel
theorem dX8_stopped_7 : decode cX8_stopped 7 = .ok (.iconst 0, 1) := by decide +kernel
theorem dX8_stopped_8 : decode cX8_stopped 8 = .ok (.istore_n 2, 1) := by decide +kernel
theorem dX8_stopped_9 : decode cX8_stopped 9 = .ok (.iload_n 2, 1) := by decide +kernel
theorem dX8_stopped_10 : decode cX8_stopped 10 = .ok (.iconst 5, 1) := by decide +kernel
theorem dX8_stopped_11 : decode cX8_stopped 11 = .ok (.if_icmp .ge 69, 3) := by decide +kernel
theorem dX8_stopped_14 : decode cX8_stopped 14 = .ok (.aload_n 0, 1) := by decide +kernel
theorem dX8_stopped_15 : decode cX8_stopped 15 = .ok (.getfield 156, 3) := by decide +kernel
theorem dX8_stopped_18 : decode cX8_stopped 18 = .ok (.istore_n 3, 1) := by decide +kernel
theorem dX8_stopped_19 : decode cX8_stopped 19 = .ok (.iload_n 3, 1) := by decide +kernel
theorem dX8_stopped_20 : decode cX8_stopped 20 = .ok (.aload_n 0, 1) := by decide +kernel
theorem dX8_stopped_21 : decode cX8_stopped 21 = .ok (.getfield 156, 3) := by decide +kernel
theorem dX8_stopped_24 : decode cX8_stopped 24 = .ok (.bipush 50, 2) := by decide +kernel
theorem dX8_stopped_26 : decode cX8_stopped 26 = .ok (.iadd, 1) := by decide +kernel
theorem dX8_stopped_27 : decode cX8_stopped 27 = .ok (.if_icmp .gt 47, 3) := by decide +kernel
theorem dX8_stopped_30 : decode cX8_stopped 30 = .ok (.aload_n 0, 1) := by decide +kernel
theorem dX8_stopped_31 : decode cX8_stopped 31 = .ok (.getfield 46, 3) := by decide +kernel
theorem dX8_stopped_34 : decode cX8_stopped 34 = .ok (.sipush 1051, 3) := by decide +kernel
theorem dX8_stopped_37 : decode cX8_stopped 37 = .ok (.iload_n 2, 1) := by decide +kernel
theorem dX8_stopped_38 : decode cX8_stopped 38 = .ok (.imul, 1) := by decide +kernel
theorem dX8_stopped_39 : decode cX8_stopped 39 = .ok (.iload_n 3, 1) := by decide +kernel
theorem dX8_stopped_40 : decode cX8_stopped 40 = .ok (.iadd, 1) := by decide +kernel
theorem dX8_stopped_41 : decode cX8_stopped 41 = .ok (.iaload, 1) := by decide +kernel
theorem dX8_stopped_42 : decode cX8_stopped 42 = .ok (.istore 4, 2) := by decide +kernel
theorem dX8_stopped_44 : decode cX8_stopped 44 = .ok (.iload_n 1, 1) := by decide +kernel
theorem dX8_stopped_45 : decode cX8_stopped 45 = .ok (.iload 4, 2) := by decide +kernel
theorem dX8_stopped_47 : decode cX8_stopped 47 = .ok (.ifCond .le 18, 3) := by decide +kernel
theorem dX8_stopped_50 : decode cX8_stopped 50 = .ok (.aload_n 0, 1) := by decide +kernel
theorem dX8_stopped_51 : decode cX8_stopped 51 = .ok (.iload 4, 2) := by decide +kernel
theorem dX8_stopped_53 : decode cX8_stopped 53 = .ok (.iconst 1, 1) := by decide +kernel
theorem dX8_stopped_54 : decode cX8_stopped 54 = .ok (.isub, 1) := by decide +kernel
theorem dX8_stopped_55 : decode cX8_stopped 55 = .ok (.invokevirtual 125, 3) := by decide +kernel
theorem dX8_stopped_58 : decode cX8_stopped 58 = .ok (.ifCond .ne 7, 3) := by decide +kernel
theorem dX8_stopped_61 : decode cX8_stopped 61 = .ok (.iconst 1, 1) := by decide +kernel
theorem dX8_stopped_62 : decode cX8_stopped 62 = .ok (.goto 4, 3) := by decide +kernel
theorem dX8_stopped_65 : decode cX8_stopped 65 = .ok (.iconst 0, 1) := by decide +kernel
theorem dX8_stopped_66 : decode cX8_stopped 66 = .ok (.iadd, 1) := by decide +kernel
theorem dX8_stopped_67 : decode cX8_stopped 67 = .ok (.istore_n 1, 1) := by decide +kernel
theorem dX8_stopped_68 : decode cX8_stopped 68 = .ok (.iinc 3 1, 3) := by decide +kernel
theorem dX8_stopped_71 : decode cX8_stopped 71 = .ok (.goto (-52), 3) := by decide +kernel
theorem dX8_stopped_74 : decode cX8_stopped 74 = .ok (.iinc 2 1, 3) := by decide +kernel
theorem dX8_stopped_77 : decode cX8_stopped 77 = .ok (.goto (-68), 3) := by decide +kernel
theorem dX8_stopped_80 : decode cX8_stopped 80 = .ok (.iload_n 1, 1) := by decide +kernel
theorem dX8_stopped_81 : decode cX8_stopped 81 = .ok (.ireturn, 1) := by decide +kernel
theorem dX8_bakes_0 : decode cX8_bakes 0 = .ok (.aload_n 0, 1) := by decide +kernel
theorem dX8_bakes_1 : decode cX8_bakes 1 = .ok (.iload_n 2, 1) := by decide +kernel
theorem dX8_bakes_2 : decode cX8_bakes 2 = .ok (.invokevirtual 125, 3) := by decide +kernel
theorem dX8_bakes_5 : decode cX8_bakes 5 = .ok (.ifCond .eq 27, 3) := by decide +kernel
theorem dX8_bakes_8 : decode cX8_bakes 8 = .ok (.aload_n 0, 1) := by decide +kernel
theorem dX8_bakes_9 : decode cX8_bakes 9 = .ok (.getfield 55, 3) := by decide +kernel
theorem dX8_bakes_12 : decode cX8_bakes 12 = .ok (.iload_n 1, 1) := by decide +kernel
theorem dX8_bakes_13 : decode cX8_bakes 13 = .ok (.iaload, 1) := by decide +kernel
theorem dX8_bakes_14 : decode cX8_bakes 14 = .ok (.aload_n 0, 1) := by decide +kernel
theorem dX8_bakes_15 : decode cX8_bakes 15 = .ok (.getfield 34, 3) := by decide +kernel
theorem dX8_bakes_18 : decode cX8_bakes 18 = .ok (.iload_n 2, 1) := by decide +kernel
theorem dX8_bakes_19 : decode cX8_bakes 19 = .ok (.iaload, 1) := by decide +kernel
theorem dX8_bakes_20 : decode cX8_bakes 20 = .ok (.if_icmp .lt 12, 3) := by decide +kernel
theorem dX8_bakes_23 : decode cX8_bakes 23 = .ok (.aload_n 0, 1) := by decide +kernel
theorem dX8_bakes_24 : decode cX8_bakes 24 = .ok (.getfield 128, 3) := by decide +kernel
theorem dX8_bakes_27 : decode cX8_bakes 27 = .ok (.bipush 60, 2) := by decide +kernel
theorem dX8_bakes_29 : decode cX8_bakes 29 = .ok (.if_icmp .ne 15, 3) := by decide +kernel
theorem dX8_bakes_32 : decode cX8_bakes 32 = .ok (.aload_n 0, 1) := by decide +kernel
theorem dX8_bakes_33 : decode cX8_bakes 33 = .ok (.getfield 58, 3) := by decide +kernel
theorem dX8_bakes_36 : decode cX8_bakes 36 = .ok (.iload_n 1, 1) := by decide +kernel
theorem dX8_bakes_37 : decode cX8_bakes 37 = .ok (.dup2, 1) := by decide +kernel
theorem dX8_bakes_38 : decode cX8_bakes 38 = .ok (.iaload, 1) := by decide +kernel
theorem dX8_bakes_39 : decode cX8_bakes 39 = .ok (.iconst 1, 1) := by decide +kernel
theorem dX8_bakes_40 : decode cX8_bakes 40 = .ok (.iadd, 1) := by decide +kernel
theorem dX8_bakes_41 : decode cX8_bakes 41 = .ok (.iastore, 1) := by decide +kernel
theorem dX8_bakes_42 : decode cX8_bakes 42 = .ok (.iconst 0, 1) := by decide +kernel
theorem dX8_bakes_43 : decode cX8_bakes 43 = .ok (.ireturn, 1) := by decide +kernel
theorem dX8_bakes_44 : decode cX8_bakes 44 = .ok (.iconst 0, 1) := by decide +kernel
theorem dX8_bakes_45 : decode cX8_bakes 45 = .ok (.istore_n 3, 1) := by decide +kernel
theorem dX8_bakes_46 : decode cX8_bakes 46 = .ok (.iconst 0, 1) := by decide +kernel
theorem dX8_bakes_47 : decode cX8_bakes 47 = .ok (.istore 4, 2) := by decide +kernel
theorem dX8_bakes_49 : decode cX8_bakes 49 = .ok (.iload 4, 2) := by decide +kernel
theorem dX8_bakes_51 : decode cX8_bakes 51 = .ok (.aload_n 0, 1) := by decide +kernel
theorem dX8_bakes_52 : decode cX8_bakes 52 = .ok (.getfield 55, 3) := by decide +kernel
theorem dX8_bakes_55 : decode cX8_bakes 55 = .ok (.iload_n 1, 1) := by decide +kernel
theorem dX8_bakes_56 : decode cX8_bakes 56 = .ok (.iaload, 1) := by decide +kernel
theorem dX8_bakes_57 : decode cX8_bakes 57 = .ok (.if_icmp .ge 74, 3) := by decide +kernel
theorem dX8_bakes_60 : decode cX8_bakes 60 = .ok (.iload 4, 2) := by decide +kernel
theorem dX8_bakes_62 : decode cX8_bakes 62 = .ok (.aload_n 0, 1) := by decide +kernel
theorem dX8_bakes_63 : decode cX8_bakes 63 = .ok (.getfield 34, 3) := by decide +kernel
theorem dX8_bakes_66 : decode cX8_bakes 66 = .ok (.iload_n 2, 1) := by decide +kernel
theorem dX8_bakes_67 : decode cX8_bakes 67 = .ok (.iaload, 1) := by decide +kernel
theorem dX8_bakes_68 : decode cX8_bakes 68 = .ok (.if_icmp .ge 24, 3) := by decide +kernel
theorem dX8_bakes_71 : decode cX8_bakes 71 = .ok (.iload_n 3, 1) := by decide +kernel
theorem dX8_bakes_72 : decode cX8_bakes 72 = .ok (.iconst 1, 1) := by decide +kernel
theorem dX8_bakes_73 : decode cX8_bakes 73 = .ok (.aload_n 0, 1) := by decide +kernel
theorem dX8_bakes_74 : decode cX8_bakes 74 = .ok (.getfield 52, 3) := by decide +kernel
theorem dX8_bakes_77 : decode cX8_bakes 77 = .ok (.sipush 200, 3) := by decide +kernel
theorem dX8_bakes_80 : decode cX8_bakes 80 = .ok (.iload_n 1, 1) := by decide +kernel
theorem dX8_bakes_81 : decode cX8_bakes 81 = .ok (.imul, 1) := by decide +kernel
theorem dX8_bakes_82 : decode cX8_bakes 82 = .ok (.iload 4, 2) := by decide +kernel
theorem dX8_bakes_84 : decode cX8_bakes 84 = .ok (.iadd, 1) := by decide +kernel
theorem dX8_bakes_85 : decode cX8_bakes 85 = .ok (.iaload, 1) := by decide +kernel
theorem dX8_bakes_86 : decode cX8_bakes 86 = .ok (.ishl, 1) := by decide +kernel
theorem dX8_bakes_87 : decode cX8_bakes 87 = .ok (.ior, 1) := by decide +kernel
theorem dX8_bakes_88 : decode cX8_bakes 88 = .ok (.istore_n 3, 1) := by decide +kernel
theorem dX8_bakes_89 : decode cX8_bakes 89 = .ok (.goto 36, 3) := by decide +kernel
theorem dX8_bakes_92 : decode cX8_bakes 92 = .ok (.aload_n 0, 1) := by decide +kernel
theorem dX8_bakes_93 : decode cX8_bakes 93 = .ok (.getfield 52, 3) := by decide +kernel
theorem dX8_bakes_96 : decode cX8_bakes 96 = .ok (.sipush 200, 3) := by decide +kernel
theorem dX8_bakes_99 : decode cX8_bakes 99 = .ok (.iload_n 1, 1) := by decide +kernel
theorem dX8_bakes_100 : decode cX8_bakes 100 = .ok (.imul, 1) := by decide +kernel
theorem dX8_bakes_101 : decode cX8_bakes 101 = .ok (.iload 4, 2) := by decide +kernel
theorem dX8_bakes_103 : decode cX8_bakes 103 = .ok (.iadd, 1) := by decide +kernel
theorem dX8_bakes_104 : decode cX8_bakes 104 = .ok (.aload_n 0, 1) := by decide +kernel
theorem dX8_bakes_105 : decode cX8_bakes 105 = .ok (.getfield 34, 3) := by decide +kernel
theorem dX8_bakes_108 : decode cX8_bakes 108 = .ok (.iload_n 2, 1) := by decide +kernel
theorem dX8_bakes_109 : decode cX8_bakes 109 = .ok (.iaload, 1) := by decide +kernel
theorem dX8_bakes_110 : decode cX8_bakes 110 = .ok (.isub, 1) := by decide +kernel
theorem dX8_bakes_111 : decode cX8_bakes 111 = .ok (.aload_n 0, 1) := by decide +kernel
theorem dX8_bakes_112 : decode cX8_bakes 112 = .ok (.getfield 52, 3) := by decide +kernel
theorem dX8_bakes_115 : decode cX8_bakes 115 = .ok (.sipush 200, 3) := by decide +kernel
theorem dX8_bakes_118 : decode cX8_bakes 118 = .ok (.iload_n 1, 1) := by decide +kernel
theorem dX8_bakes_119 : decode cX8_bakes 119 = .ok (.imul, 1) := by decide +kernel
theorem dX8_bakes_120 : decode cX8_bakes 120 = .ok (.iload 4, 2) := by decide +kernel
theorem dX8_bakes_122 : decode cX8_bakes 122 = .ok (.iadd, 1) := by decide +kernel
theorem dX8_bakes_123 : decode cX8_bakes 123 = .ok (.iaload, 1) := by decide +kernel
theorem dX8_bakes_124 : decode cX8_bakes 124 = .ok (.iastore, 1) := by decide +kernel
theorem dX8_bakes_125 : decode cX8_bakes 125 = .ok (.iinc 4 1, 3) := by decide +kernel
theorem dX8_bakes_128 : decode cX8_bakes 128 = .ok (.goto (-79), 3) := by decide +kernel
theorem dX8_bakes_131 : decode cX8_bakes 131 = .ok (.aload_n 0, 1) := by decide +kernel
theorem dX8_bakes_132 : decode cX8_bakes 132 = .ok (.getfield 55, 3) := by decide +kernel
theorem dX8_bakes_135 : decode cX8_bakes 135 = .ok (.iload_n 1, 1) := by decide +kernel
theorem dX8_bakes_136 : decode cX8_bakes 136 = .ok (.dup2, 1) := by decide +kernel
theorem dX8_bakes_137 : decode cX8_bakes 137 = .ok (.iaload, 1) := by decide +kernel
theorem dX8_bakes_138 : decode cX8_bakes 138 = .ok (.aload_n 0, 1) := by decide +kernel
theorem dX8_bakes_139 : decode cX8_bakes 139 = .ok (.getfield 34, 3) := by decide +kernel
theorem dX8_bakes_142 : decode cX8_bakes 142 = .ok (.iload_n 2, 1) := by decide +kernel
theorem dX8_bakes_143 : decode cX8_bakes 143 = .ok (.iaload, 1) := by decide +kernel
theorem dX8_bakes_144 : decode cX8_bakes 144 = .ok (.isub, 1) := by decide +kernel
theorem dX8_bakes_145 : decode cX8_bakes 145 = .ok (.iastore, 1) := by decide +kernel
theorem dX8_bakes_146 : decode cX8_bakes 146 = .ok (.aload_n 0, 1) := by decide +kernel
theorem dX8_bakes_147 : decode cX8_bakes 147 = .ok (.getfield 61, 3) := by decide +kernel
theorem dX8_bakes_150 : decode cX8_bakes 150 = .ok (.aload_n 0, 1) := by decide +kernel
theorem dX8_bakes_151 : decode cX8_bakes 151 = .ok (.getfield 128, 3) := by decide +kernel
theorem dX8_bakes_154 : decode cX8_bakes 154 = .ok (.iload_n 2, 1) := by decide +kernel
theorem dX8_bakes_155 : decode cX8_bakes 155 = .ok (.iastore, 1) := by decide +kernel
theorem dX8_bakes_156 : decode cX8_bakes 156 = .ok (.aload_n 0, 1) := by decide +kernel
theorem dX8_bakes_157 : decode cX8_bakes 157 = .ok (.getfield 64, 3) := by decide +kernel
theorem dX8_bakes_160 : decode cX8_bakes 160 = .ok (.aload_n 0, 1) := by decide +kernel
theorem dX8_bakes_161 : decode cX8_bakes 161 = .ok (.getfield 128, 3) := by decide +kernel
theorem dX8_bakes_164 : decode cX8_bakes 164 = .ok (.iload_n 3, 1) := by decide +kernel
theorem dX8_bakes_165 : decode cX8_bakes 165 = .ok (.iastore, 1) := by decide +kernel
theorem dX8_bakes_166 : decode cX8_bakes 166 = .ok (.aload_n 0, 1) := by decide +kernel
theorem dX8_bakes_167 : decode cX8_bakes 167 = .ok (.getfield 67, 3) := by decide +kernel
theorem dX8_bakes_170 : decode cX8_bakes 170 = .ok (.aload_n 0, 1) := by decide +kernel
theorem dX8_bakes_171 : decode cX8_bakes 171 = .ok (.getfield 128, 3) := by decide +kernel
theorem dX8_bakes_174 : decode cX8_bakes 174 = .ok (.aload_n 0, 1) := by decide +kernel
theorem dX8_bakes_175 : decode cX8_bakes 175 = .ok (.getfield 37, 3) := by decide +kernel
theorem dX8_bakes_178 : decode cX8_bakes 178 = .ok (.iload_n 2, 1) := by decide +kernel
theorem dX8_bakes_179 : decode cX8_bakes 179 = .ok (.iaload, 1) := by decide +kernel
theorem dX8_bakes_180 : decode cX8_bakes 180 = .ok (.iastore, 1) := by decide +kernel
theorem dX8_bakes_181 : decode cX8_bakes 181 = .ok (.aload_n 0, 1) := by decide +kernel
theorem dX8_bakes_182 : decode cX8_bakes 182 = .ok (.dup, 1) := by decide +kernel
theorem dX8_bakes_183 : decode cX8_bakes 183 = .ok (.getfield 128, 3) := by decide +kernel
theorem dX8_bakes_186 : decode cX8_bakes 186 = .ok (.iconst 1, 1) := by decide +kernel
theorem dX8_bakes_187 : decode cX8_bakes 187 = .ok (.iadd, 1) := by decide +kernel
theorem dX8_bakes_188 : decode cX8_bakes 188 = .ok (.putfield 128, 3) := by decide +kernel
theorem dX8_bakes_191 : decode cX8_bakes 191 = .ok (.iconst 1, 1) := by decide +kernel
theorem dX8_bakes_192 : decode cX8_bakes 192 = .ok (.ireturn, 1) := by decide +kernel
theorem dX8_pass_0 : decode cX8_pass 0 = .ok (.aload_n 0, 1) := by decide +kernel
theorem dX8_pass_1 : decode cX8_pass 1 = .ok (.iload_n 1, 1) := by decide +kernel
theorem dX8_pass_2 : decode cX8_pass 2 = .ok (.iconst 1, 1) := by decide +kernel
theorem dX8_pass_3 : decode cX8_pass 3 = .ok (.bipush 50, 2) := by decide +kernel
theorem dX8_pass_5 : decode cX8_pass 5 = .ok (.invokestatic 86, 3) := by decide +kernel
theorem dX8_pass_8 : decode cX8_pass 8 = .ok (.ifCond .ne 7, 3) := by decide +kernel
theorem dX8_pass_11 : decode cX8_pass 11 = .ok (.iconst 1, 1) := by decide +kernel
theorem dX8_pass_12 : decode cX8_pass 12 = .ok (.goto 20, 3) := by decide +kernel
theorem dX8_pass_15 : decode cX8_pass 15 = .ok (.aload_n 0, 1) := by decide +kernel
theorem dX8_pass_16 : decode cX8_pass 16 = .ok (.getfield 156, 3) := by decide +kernel
theorem dX8_pass_19 : decode cX8_pass 19 = .ok (.iload_n 1, 1) := by decide +kernel
theorem dX8_pass_20 : decode cX8_pass 20 = .ok (.iadd, 1) := by decide +kernel
theorem dX8_pass_21 : decode cX8_pass 21 = .ok (.sipush 1000, 3) := by decide +kernel
theorem dX8_pass_24 : decode cX8_pass 24 = .ok (.if_icmp .le 7, 3) := by decide +kernel
theorem dX8_pass_27 : decode cX8_pass 27 = .ok (.iconst 2, 1) := by decide +kernel
theorem dX8_pass_28 : decode cX8_pass 28 = .ok (.goto 4, 3) := by decide +kernel
theorem dX8_pass_31 : decode cX8_pass 31 = .ok (.iconst 0, 1) := by decide +kernel
theorem dX8_pass_32 : decode cX8_pass 32 = .ok (.putfield 82, 3) := by decide +kernel
theorem dX8_pass_35 : decode cX8_pass 35 = .ok (.iconst 0, 1) := by decide +kernel
theorem dX8_pass_36 : decode cX8_pass 36 = .ok (.istore_n 2, 1) := by decide +kernel
theorem dX8_pass_37 : decode cX8_pass 37 = .ok (.iconst 0, 1) := by decide +kernel
theorem dX8_pass_38 : decode cX8_pass 38 = .ok (.istore_n 3, 1) := by decide +kernel
theorem dX8_pass_39 : decode cX8_pass 39 = .ok (.iload_n 3, 1) := by decide +kernel
theorem dX8_pass_40 : decode cX8_pass 40 = .ok (.iload_n 1, 1) := by decide +kernel
theorem dX8_pass_41 : decode cX8_pass 41 = .ok (.if_icmp .ge 85, 3) := by decide +kernel
theorem dX8_pass_44 : decode cX8_pass 44 = .ok (.aload_n 0, 1) := by decide +kernel
theorem dX8_pass_45 : decode cX8_pass 45 = .ok (.getfield 82, 3) := by decide +kernel
theorem dX8_pass_48 : decode cX8_pass 48 = .ok (.ifCond .ne 78, 3) := by decide +kernel
theorem dX8_pass_51 : decode cX8_pass 51 = .ok (.iconst 0, 1) := by decide +kernel
theorem dX8_pass_52 : decode cX8_pass 52 = .ok (.istore 4, 2) := by decide +kernel
theorem dX8_pass_54 : decode cX8_pass 54 = .ok (.iload 4, 2) := by decide +kernel
theorem dX8_pass_56 : decode cX8_pass 56 = .ok (.iconst 5, 1) := by decide +kernel
theorem dX8_pass_57 : decode cX8_pass 57 = .ok (.if_icmp .ge 53, 3) := by decide +kernel
theorem dX8_pass_60 : decode cX8_pass 60 = .ok (.aload_n 0, 1) := by decide +kernel
theorem dX8_pass_61 : decode cX8_pass 61 = .ok (.getfield 46, 3) := by decide +kernel
theorem dX8_pass_64 : decode cX8_pass 64 = .ok (.sipush 1051, 3) := by decide +kernel
theorem dX8_pass_67 : decode cX8_pass 67 = .ok (.iload 4, 2) := by decide +kernel
theorem dX8_pass_69 : decode cX8_pass 69 = .ok (.imul, 1) := by decide +kernel
theorem dX8_pass_70 : decode cX8_pass 70 = .ok (.aload_n 0, 1) := by decide +kernel
theorem dX8_pass_71 : decode cX8_pass 71 = .ok (.getfield 156, 3) := by decide +kernel
theorem dX8_pass_74 : decode cX8_pass 74 = .ok (.iadd, 1) := by decide +kernel
theorem dX8_pass_75 : decode cX8_pass 75 = .ok (.iaload, 1) := by decide +kernel
theorem dX8_pass_76 : decode cX8_pass 76 = .ok (.istore 5, 2) := by decide +kernel
theorem dX8_pass_78 : decode cX8_pass 78 = .ok (.iload_n 2, 1) := by decide +kernel
theorem dX8_pass_79 : decode cX8_pass 79 = .ok (.iload 5, 2) := by decide +kernel
theorem dX8_pass_81 : decode cX8_pass 81 = .ok (.ifCond .le 20, 3) := by decide +kernel
theorem dX8_pass_84 : decode cX8_pass 84 = .ok (.aload_n 0, 1) := by decide +kernel
theorem dX8_pass_85 : decode cX8_pass 85 = .ok (.iload 4, 2) := by decide +kernel
theorem dX8_pass_87 : decode cX8_pass 87 = .ok (.iload 5, 2) := by decide +kernel
theorem dX8_pass_89 : decode cX8_pass 89 = .ok (.iconst 1, 1) := by decide +kernel
theorem dX8_pass_90 : decode cX8_pass 90 = .ok (.isub, 1) := by decide +kernel
theorem dX8_pass_91 : decode cX8_pass 91 = .ok (.invokevirtual 165, 3) := by decide +kernel
theorem dX8_pass_94 : decode cX8_pass 94 = .ok (.ifCond .eq 7, 3) := by decide +kernel
theorem dX8_pass_97 : decode cX8_pass 97 = .ok (.iconst 1, 1) := by decide +kernel
theorem dX8_pass_98 : decode cX8_pass 98 = .ok (.goto 4, 3) := by decide +kernel
theorem dX8_pass_101 : decode cX8_pass 101 = .ok (.iconst 0, 1) := by decide +kernel
theorem dX8_pass_102 : decode cX8_pass 102 = .ok (.iadd, 1) := by decide +kernel
theorem dX8_pass_103 : decode cX8_pass 103 = .ok (.istore_n 2, 1) := by decide +kernel
theorem dX8_pass_104 : decode cX8_pass 104 = .ok (.iinc 4 1, 3) := by decide +kernel
theorem dX8_pass_107 : decode cX8_pass 107 = .ok (.goto (-53), 3) := by decide +kernel
theorem dX8_pass_110 : decode cX8_pass 110 = .ok (.aload_n 0, 1) := by decide +kernel
theorem dX8_pass_111 : decode cX8_pass 111 = .ok (.dup, 1) := by decide +kernel
theorem dX8_pass_112 : decode cX8_pass 112 = .ok (.getfield 156, 3) := by decide +kernel
theorem dX8_pass_115 : decode cX8_pass 115 = .ok (.iconst 1, 1) := by decide +kernel
theorem dX8_pass_116 : decode cX8_pass 116 = .ok (.iadd, 1) := by decide +kernel
theorem dX8_pass_117 : decode cX8_pass 117 = .ok (.putfield 156, 3) := by decide +kernel
theorem dX8_pass_120 : decode cX8_pass 120 = .ok (.iinc 3 1, 3) := by decide +kernel
theorem dX8_pass_123 : decode cX8_pass 123 = .ok (.goto (-84), 3) := by decide +kernel
theorem dX8_pass_126 : decode cX8_pass 126 = .ok (.iload_n 2, 1) := by decide +kernel
theorem dX8_pass_127 : decode cX8_pass 127 = .ok (.ireturn, 1) := by decide +kernel
theorem dX8_time_0 : decode cX8_time 0 = .ok (.aload_n 0, 1) := by decide +kernel
theorem dX8_time_1 : decode cX8_time 1 = .ok (.iconst 0, 1) := by decide +kernel
theorem dX8_time_2 : decode cX8_time 2 = .ok (.putfield 82, 3) := by decide +kernel
theorem dX8_time_5 : decode cX8_time 5 = .ok (.aload_n 0, 1) := by decide +kernel
theorem dX8_time_6 : decode cX8_time 6 = .ok (.getfield 156, 3) := by decide +kernel
theorem dX8_time_9 : decode cX8_time 9 = .ok (.ireturn, 1) := by decide +kernel
theorem dX8_missed_0 : decode cX8_missed 0 = .ok (.aload_n 0, 1) := by decide +kernel
theorem dX8_missed_1 : decode cX8_missed 1 = .ok (.iload_n 1, 1) := by decide +kernel
theorem dX8_missed_2 : decode cX8_missed 2 = .ok (.invokevirtual 138, 3) := by decide +kernel
theorem dX8_missed_5 : decode cX8_missed 5 = .ok (.ifCond .eq 12, 3) := by decide +kernel
theorem dX8_missed_8 : decode cX8_missed 8 = .ok (.aload_n 0, 1) := by decide +kernel
theorem dX8_missed_9 : decode cX8_missed 9 = .ok (.getfield 58, 3) := by decide +kernel
theorem dX8_missed_12 : decode cX8_missed 12 = .ok (.iload_n 1, 1) := by decide +kernel
theorem dX8_missed_13 : decode cX8_missed 13 = .ok (.iaload, 1) := by decide +kernel
theorem dX8_missed_14 : decode cX8_missed 14 = .ok (.goto 4, 3) := by decide +kernel
theorem dX8_missed_17 : decode cX8_missed 17 = .ok (.iconst 0, 1) := by decide +kernel
theorem dX8_missed_18 : decode cX8_missed 18 = .ok (.ireturn, 1) := by decide +kernel
theorem dX8_batches_0 : decode cX8_batches 0 = .ok (.aload_n 0, 1) := by decide +kernel
theorem dX8_batches_1 : decode cX8_batches 1 = .ok (.iconst 0, 1) := by decide +kernel
theorem dX8_batches_2 : decode cX8_batches 2 = .ok (.putfield 82, 3) := by decide +kernel
theorem dX8_batches_5 : decode cX8_batches 5 = .ok (.aload_n 0, 1) := by decide +kernel
theorem dX8_batches_6 : decode cX8_batches 6 = .ok (.getfield 128, 3) := by decide +kernel
theorem dX8_batches_9 : decode cX8_batches 9 = .ok (.ireturn, 1) := by decide +kernel
theorem dX8_isBatch_0 : decode cX8_isBatch 0 = .ok (.aload_n 0, 1) := by decide +kernel
theorem dX8_isBatch_1 : decode cX8_isBatch 1 = .ok (.iload_n 1, 1) := by decide +kernel
theorem dX8_isBatch_2 : decode cX8_isBatch 2 = .ok (.iconst 0, 1) := by decide +kernel
theorem dX8_isBatch_3 : decode cX8_isBatch 3 = .ok (.aload_n 0, 1) := by decide +kernel
theorem dX8_isBatch_4 : decode cX8_isBatch 4 = .ok (.getfield 128, 3) := by decide +kernel
theorem dX8_isBatch_7 : decode cX8_isBatch 7 = .ok (.iconst 1, 1) := by decide +kernel
theorem dX8_isBatch_8 : decode cX8_isBatch 8 = .ok (.isub, 1) := by decide +kernel
theorem dX8_isBatch_9 : decode cX8_isBatch 9 = .ok (.invokestatic 86, 3) := by decide +kernel
theorem dX8_isBatch_12 : decode cX8_isBatch 12 = .ok (.ifCond .eq 7, 3) := by decide +kernel
theorem dX8_isBatch_15 : decode cX8_isBatch 15 = .ok (.iconst 0, 1) := by decide +kernel
theorem dX8_isBatch_16 : decode cX8_isBatch 16 = .ok (.goto 4, 3) := by decide +kernel
theorem dX8_isBatch_19 : decode cX8_isBatch 19 = .ok (.iconst 1, 1) := by decide +kernel
theorem dX8_isBatch_20 : decode cX8_isBatch 20 = .ok (.putfield 82, 3) := by decide +kernel
theorem dX8_isBatch_23 : decode cX8_isBatch 23 = .ok (.aload_n 0, 1) := by decide +kernel
theorem dX8_isBatch_24 : decode cX8_isBatch 24 = .ok (.getfield 82, 3) := by decide +kernel
theorem dX8_isBatch_27 : decode cX8_isBatch 27 = .ok (.ifCond .ne 7, 3) := by decide +kernel
theorem dX8_isBatch_30 : decode cX8_isBatch 30 = .ok (.iconst 1, 1) := by decide +kernel
theorem dX8_isBatch_31 : decode cX8_isBatch 31 = .ok (.goto 4, 3) := by decide +kernel
theorem dX8_isBatch_34 : decode cX8_isBatch 34 = .ok (.iconst 0, 1) := by decide +kernel
theorem dX8_isBatch_35 : decode cX8_isBatch 35 = .ok (.ireturn, 1) := by decide +kernel
theorem dX8_versionOf_0 : decode cX8_versionOf 0 = .ok (.aload_n 0, 1) := by decide +kernel
theorem dX8_versionOf_1 : decode cX8_versionOf 1 = .ok (.iload_n 1, 1) := by decide +kernel
theorem dX8_versionOf_2 : decode cX8_versionOf 2 = .ok (.invokevirtual 168, 3) := by decide +kernel
theorem dX8_versionOf_5 : decode cX8_versionOf 5 = .ok (.ifCond .eq 12, 3) := by decide +kernel
theorem dX8_versionOf_8 : decode cX8_versionOf 8 = .ok (.aload_n 0, 1) := by decide +kernel
theorem dX8_versionOf_9 : decode cX8_versionOf 9 = .ok (.getfield 61, 3) := by decide +kernel
theorem dX8_versionOf_12 : decode cX8_versionOf 12 = .ok (.iload_n 1, 1) := by decide +kernel
theorem dX8_versionOf_13 : decode cX8_versionOf 13 = .ok (.iaload, 1) := by decide +kernel
theorem dX8_versionOf_14 : decode cX8_versionOf 14 = .ok (.goto 4, 3) := by decide +kernel
theorem dX8_versionOf_17 : decode cX8_versionOf 17 = .ok (.iconst 0, 1) := by decide +kernel
theorem dX8_versionOf_18 : decode cX8_versionOf 18 = .ok (.ireturn, 1) := by decide +kernel
theorem dX8_lotsOf_0 : decode cX8_lotsOf 0 = .ok (.aload_n 0, 1) := by decide +kernel
theorem dX8_lotsOf_1 : decode cX8_lotsOf 1 = .ok (.iload_n 1, 1) := by decide +kernel
theorem dX8_lotsOf_2 : decode cX8_lotsOf 2 = .ok (.invokevirtual 168, 3) := by decide +kernel
theorem dX8_lotsOf_5 : decode cX8_lotsOf 5 = .ok (.ifCond .eq 12, 3) := by decide +kernel
theorem dX8_lotsOf_8 : decode cX8_lotsOf 8 = .ok (.aload_n 0, 1) := by decide +kernel
theorem dX8_lotsOf_9 : decode cX8_lotsOf 9 = .ok (.getfield 64, 3) := by decide +kernel
theorem dX8_lotsOf_12 : decode cX8_lotsOf 12 = .ok (.iload_n 1, 1) := by decide +kernel
theorem dX8_lotsOf_13 : decode cX8_lotsOf 13 = .ok (.iaload, 1) := by decide +kernel
theorem dX8_lotsOf_14 : decode cX8_lotsOf 14 = .ok (.goto 4, 3) := by decide +kernel
theorem dX8_lotsOf_17 : decode cX8_lotsOf 17 = .ok (.iconst 0, 1) := by decide +kernel
theorem dX8_lotsOf_18 : decode cX8_lotsOf 18 = .ok (.ireturn, 1) := by decide +kernel
theorem dX8_left_0 : decode cX8_left 0 = .ok (.aload_n 0, 1) := by decide +kernel
theorem dX8_left_1 : decode cX8_left 1 = .ok (.iload_n 1, 1) := by decide +kernel
theorem dX8_left_2 : decode cX8_left 2 = .ok (.invokevirtual 168, 3) := by decide +kernel
theorem dX8_left_5 : decode cX8_left 5 = .ok (.ifCond .eq 12, 3) := by decide +kernel
theorem dX8_left_8 : decode cX8_left 8 = .ok (.aload_n 0, 1) := by decide +kernel
theorem dX8_left_9 : decode cX8_left 9 = .ok (.getfield 67, 3) := by decide +kernel
theorem dX8_left_12 : decode cX8_left 12 = .ok (.iload_n 1, 1) := by decide +kernel
theorem dX8_left_13 : decode cX8_left 13 = .ok (.iaload, 1) := by decide +kernel
theorem dX8_left_14 : decode cX8_left 14 = .ok (.goto 4, 3) := by decide +kernel
theorem dX8_left_17 : decode cX8_left 17 = .ok (.iconst 0, 1) := by decide +kernel
theorem dX8_left_18 : decode cX8_left 18 = .ok (.ireturn, 1) := by decide +kernel
theorem dX8_barredBy_0 : decode cX8_barredBy 0 = .ok (.iconst 0, 1) := by decide +kernel
theorem dX8_barredBy_1 : decode cX8_barredBy 1 = .ok (.istore_n 2, 1) := by decide +kernel
theorem dX8_barredBy_2 : decode cX8_barredBy 2 = .ok (.iconst 0, 1) := by decide +kernel
theorem dX8_barredBy_3 : decode cX8_barredBy 3 = .ok (.istore_n 3, 1) := by decide +kernel
theorem dX8_barredBy_4 : decode cX8_barredBy 4 = .ok (.iload_n 3, 1) := by decide +kernel
theorem dX8_barredBy_5 : decode cX8_barredBy 5 = .ok (.aload_n 0, 1) := by decide +kernel
theorem dX8_barredBy_6 : decode cX8_barredBy 6 = .ok (.getfield 147, 3) := by decide +kernel
theorem dX8_barredBy_9 : decode cX8_barredBy 9 = .ok (.if_icmp .ge 36, 3) := by decide +kernel
theorem dX8_barredBy_12 : decode cX8_barredBy 12 = .ok (.iload_n 2, 1) := by decide +kernel
theorem dX8_barredBy_13 : decode cX8_barredBy 13 = .ok (.aload_n 0, 1) := by decide +kernel
theorem dX8_barredBy_14 : decode cX8_barredBy 14 = .ok (.getfield 49, 3) := by decide +kernel
theorem dX8_barredBy_17 : decode cX8_barredBy 17 = .ok (.iload_n 3, 1) := by decide +kernel
theorem dX8_barredBy_18 : decode cX8_barredBy 18 = .ok (.iaload, 1) := by decide +kernel
theorem dX8_barredBy_19 : decode cX8_barredBy 19 = .ok (.iconst 1, 1) := by decide +kernel
theorem dX8_barredBy_20 : decode cX8_barredBy 20 = .ok (.if_icmp .ne 16, 3) := by decide +kernel
theorem dX8_barredBy_23 : decode cX8_barredBy 23 = .ok (.aload_n 0, 1) := by decide +kernel
theorem dX8_barredBy_24 : decode cX8_barredBy 24 = .ok (.getfield 64, 3) := by decide +kernel
theorem dX8_barredBy_27 : decode cX8_barredBy 27 = .ok (.iload_n 1, 1) := by decide +kernel
theorem dX8_barredBy_28 : decode cX8_barredBy 28 = .ok (.iaload, 1) := by decide +kernel
theorem dX8_barredBy_29 : decode cX8_barredBy 29 = .ok (.iload_n 3, 1) := by decide +kernel
theorem dX8_barredBy_30 : decode cX8_barredBy 30 = .ok (.ishr, 1) := by decide +kernel
theorem dX8_barredBy_31 : decode cX8_barredBy 31 = .ok (.iconst 1, 1) := by decide +kernel
theorem dX8_barredBy_32 : decode cX8_barredBy 32 = .ok (.iand, 1) := by decide +kernel
theorem dX8_barredBy_33 : decode cX8_barredBy 33 = .ok (.goto 4, 3) := by decide +kernel
theorem dX8_barredBy_36 : decode cX8_barredBy 36 = .ok (.iconst 0, 1) := by decide +kernel
theorem dX8_barredBy_37 : decode cX8_barredBy 37 = .ok (.ior, 1) := by decide +kernel
theorem dX8_barredBy_38 : decode cX8_barredBy 38 = .ok (.istore_n 2, 1) := by decide +kernel
theorem dX8_barredBy_39 : decode cX8_barredBy 39 = .ok (.iinc 3 1, 3) := by decide +kernel
theorem dX8_barredBy_42 : decode cX8_barredBy 42 = .ok (.goto (-38), 3) := by decide +kernel
theorem dX8_barredBy_45 : decode cX8_barredBy 45 = .ok (.aload_n 0, 1) := by decide +kernel
theorem dX8_barredBy_46 : decode cX8_barredBy 46 = .ok (.aload_n 0, 1) := by decide +kernel
theorem dX8_barredBy_47 : decode cX8_barredBy 47 = .ok (.getfield 61, 3) := by decide +kernel
theorem dX8_barredBy_50 : decode cX8_barredBy 50 = .ok (.iload_n 1, 1) := by decide +kernel
theorem dX8_barredBy_51 : decode cX8_barredBy 51 = .ok (.iaload, 1) := by decide +kernel
theorem dX8_barredBy_52 : decode cX8_barredBy 52 = .ok (.invokevirtual 125, 3) := by decide +kernel
theorem dX8_barredBy_55 : decode cX8_barredBy 55 = .ok (.ifCond .eq 7, 3) := by decide +kernel
theorem dX8_barredBy_58 : decode cX8_barredBy 58 = .ok (.iconst 0, 1) := by decide +kernel
theorem dX8_barredBy_59 : decode cX8_barredBy 59 = .ok (.goto 4, 3) := by decide +kernel
theorem dX8_barredBy_62 : decode cX8_barredBy 62 = .ok (.iconst 1, 1) := by decide +kernel
theorem dX8_barredBy_63 : decode cX8_barredBy 63 = .ok (.iload_n 2, 1) := by decide +kernel
theorem dX8_barredBy_64 : decode cX8_barredBy 64 = .ok (.iconst 1, 1) := by decide +kernel
theorem dX8_barredBy_65 : decode cX8_barredBy 65 = .ok (.if_icmp .ne 7, 3) := by decide +kernel
theorem dX8_barredBy_68 : decode cX8_barredBy 68 = .ok (.iconst 2, 1) := by decide +kernel
theorem dX8_barredBy_69 : decode cX8_barredBy 69 = .ok (.goto 4, 3) := by decide +kernel
theorem dX8_barredBy_72 : decode cX8_barredBy 72 = .ok (.iconst 0, 1) := by decide +kernel
theorem dX8_barredBy_73 : decode cX8_barredBy 73 = .ok (.iadd, 1) := by decide +kernel
theorem dX8_barredBy_74 : decode cX8_barredBy 74 = .ok (.ireturn, 1) := by decide +kernel
theorem dX8_barred_0 : decode cX8_barred 0 = .ok (.aload_n 0, 1) := by decide +kernel
theorem dX8_barred_1 : decode cX8_barred 1 = .ok (.iload_n 1, 1) := by decide +kernel
theorem dX8_barred_2 : decode cX8_barred 2 = .ok (.invokevirtual 168, 3) := by decide +kernel
theorem dX8_barred_5 : decode cX8_barred 5 = .ok (.ifCond .eq 11, 3) := by decide +kernel
theorem dX8_barred_8 : decode cX8_barred 8 = .ok (.aload_n 0, 1) := by decide +kernel
theorem dX8_barred_9 : decode cX8_barred 9 = .ok (.iload_n 1, 1) := by decide +kernel
theorem dX8_barred_10 : decode cX8_barred 10 = .ok (.invokevirtual 171, 3) := by decide +kernel
theorem dX8_barred_13 : decode cX8_barred 13 = .ok (.goto 4, 3) := by decide +kernel
theorem dX8_barred_16 : decode cX8_barred 16 = .ok (.iconst 0, 1) := by decide +kernel
theorem dX8_barred_17 : decode cX8_barred 17 = .ok (.ireturn, 1) := by decide +kernel
theorem dX8_barredAnew_0 : decode cX8_barredAnew 0 = .ok (.aload_n 0, 1) := by decide +kernel
theorem dX8_barredAnew_1 : decode cX8_barredAnew 1 = .ok (.iload_n 1, 1) := by decide +kernel
theorem dX8_barredAnew_2 : decode cX8_barredAnew 2 = .ok (.invokevirtual 174, 3) := by decide +kernel
theorem dX8_barredAnew_5 : decode cX8_barredAnew 5 = .ok (.ireturn, 1) := by decide +kernel
theorem dX8_sell_0 : decode cX8_sell 0 = .ok (.aload_n 0, 1) := by decide +kernel
theorem dX8_sell_1 : decode cX8_sell 1 = .ok (.iload_n 1, 1) := by decide +kernel
theorem dX8_sell_2 : decode cX8_sell 2 = .ok (.iconst 0, 1) := by decide +kernel
theorem dX8_sell_3 : decode cX8_sell 3 = .ok (.aload_n 0, 1) := by decide +kernel
theorem dX8_sell_4 : decode cX8_sell 4 = .ok (.getfield 128, 3) := by decide +kernel
theorem dX8_sell_7 : decode cX8_sell 7 = .ok (.iconst 1, 1) := by decide +kernel
theorem dX8_sell_8 : decode cX8_sell 8 = .ok (.isub, 1) := by decide +kernel
theorem dX8_sell_9 : decode cX8_sell 9 = .ok (.invokestatic 86, 3) := by decide +kernel
theorem dX8_sell_12 : decode cX8_sell 12 = .ok (.ifCond .ne 7, 3) := by decide +kernel
theorem dX8_sell_15 : decode cX8_sell 15 = .ok (.iconst 1, 1) := by decide +kernel
theorem dX8_sell_16 : decode cX8_sell 16 = .ok (.goto 40, 3) := by decide +kernel
theorem dX8_sell_19 : decode cX8_sell 19 = .ok (.iload_n 2, 1) := by decide +kernel
theorem dX8_sell_20 : decode cX8_sell 20 = .ok (.iconst 1, 1) := by decide +kernel
theorem dX8_sell_21 : decode cX8_sell 21 = .ok (.bipush 40, 2) := by decide +kernel
theorem dX8_sell_23 : decode cX8_sell 23 = .ok (.invokestatic 86, 3) := by decide +kernel
theorem dX8_sell_26 : decode cX8_sell 26 = .ok (.ifCond .ne 7, 3) := by decide +kernel
theorem dX8_sell_29 : decode cX8_sell 29 = .ok (.iconst 2, 1) := by decide +kernel
theorem dX8_sell_30 : decode cX8_sell 30 = .ok (.goto 26, 3) := by decide +kernel
theorem dX8_sell_33 : decode cX8_sell 33 = .ok (.aload_n 0, 1) := by decide +kernel
theorem dX8_sell_34 : decode cX8_sell 34 = .ok (.iload_n 1, 1) := by decide +kernel
theorem dX8_sell_35 : decode cX8_sell 35 = .ok (.invokevirtual 171, 3) := by decide +kernel
theorem dX8_sell_38 : decode cX8_sell 38 = .ok (.ifCond .gt 13, 3) := by decide +kernel
theorem dX8_sell_41 : decode cX8_sell 41 = .ok (.aload_n 0, 1) := by decide +kernel
theorem dX8_sell_42 : decode cX8_sell 42 = .ok (.getfield 67, 3) := by decide +kernel
theorem dX8_sell_45 : decode cX8_sell 45 = .ok (.iload_n 1, 1) := by decide +kernel
theorem dX8_sell_46 : decode cX8_sell 46 = .ok (.iaload, 1) := by decide +kernel
theorem dX8_sell_47 : decode cX8_sell 47 = .ok (.iload_n 2, 1) := by decide +kernel
theorem dX8_sell_48 : decode cX8_sell 48 = .ok (.if_icmp .ge 7, 3) := by decide +kernel
theorem dX8_sell_51 : decode cX8_sell 51 = .ok (.iconst 3, 1) := by decide +kernel
theorem dX8_sell_52 : decode cX8_sell 52 = .ok (.goto 4, 3) := by decide +kernel
theorem dX8_sell_55 : decode cX8_sell 55 = .ok (.iconst 0, 1) := by decide +kernel
theorem dX8_sell_56 : decode cX8_sell 56 = .ok (.putfield 82, 3) := by decide +kernel
theorem dX8_sell_59 : decode cX8_sell 59 = .ok (.aload_n 0, 1) := by decide +kernel
theorem dX8_sell_60 : decode cX8_sell 60 = .ok (.getfield 82, 3) := by decide +kernel
theorem dX8_sell_63 : decode cX8_sell 63 = .ok (.ifCond .le 5, 3) := by decide +kernel
theorem dX8_sell_66 : decode cX8_sell 66 = .ok (.iconst 0, 1) := by decide +kernel
theorem dX8_sell_67 : decode cX8_sell 67 = .ok (.ireturn, 1) := by decide +kernel
theorem dX8_sell_68 : decode cX8_sell 68 = .ok (.aload_n 0, 1) := by decide +kernel
theorem dX8_sell_69 : decode cX8_sell 69 = .ok (.getfield 67, 3) := by decide +kernel
theorem dX8_sell_72 : decode cX8_sell 72 = .ok (.iload_n 1, 1) := by decide +kernel
theorem dX8_sell_73 : decode cX8_sell 73 = .ok (.dup2, 1) := by decide +kernel
theorem dX8_sell_74 : decode cX8_sell 74 = .ok (.iaload, 1) := by decide +kernel
theorem dX8_sell_75 : decode cX8_sell 75 = .ok (.iload_n 2, 1) := by decide +kernel
theorem dX8_sell_76 : decode cX8_sell 76 = .ok (.isub, 1) := by decide +kernel
theorem dX8_sell_77 : decode cX8_sell 77 = .ok (.iastore, 1) := by decide +kernel
theorem dX8_sell_78 : decode cX8_sell 78 = .ok (.aload_n 0, 1) := by decide +kernel
theorem dX8_sell_79 : decode cX8_sell 79 = .ok (.getfield 70, 3) := by decide +kernel
theorem dX8_sell_82 : decode cX8_sell 82 = .ok (.iload_n 1, 1) := by decide +kernel
theorem dX8_sell_83 : decode cX8_sell 83 = .ok (.dup2, 1) := by decide +kernel
theorem dX8_sell_84 : decode cX8_sell 84 = .ok (.iaload, 1) := by decide +kernel
theorem dX8_sell_85 : decode cX8_sell 85 = .ok (.iload_n 2, 1) := by decide +kernel
theorem dX8_sell_86 : decode cX8_sell 86 = .ok (.iadd, 1) := by decide +kernel
theorem dX8_sell_87 : decode cX8_sell 87 = .ok (.iastore, 1) := by decide +kernel
theorem dX8_sell_88 : decode cX8_sell 88 = .ok (.aload_n 0, 1) := by decide +kernel
theorem dX8_sell_89 : decode cX8_sell 89 = .ok (.getfield 67, 3) := by decide +kernel
theorem dX8_sell_92 : decode cX8_sell 92 = .ok (.iload_n 1, 1) := by decide +kernel
theorem dX8_sell_93 : decode cX8_sell 93 = .ok (.iaload, 1) := by decide +kernel
theorem dX8_sell_94 : decode cX8_sell 94 = .ok (.ireturn, 1) := by decide +kernel
theorem dX8_onSale_0 : decode cX8_onSale 0 = .ok (.aload_n 0, 1) := by decide +kernel
theorem dX8_onSale_1 : decode cX8_onSale 1 = .ok (.iconst 0, 1) := by decide +kernel
theorem dX8_onSale_2 : decode cX8_onSale 2 = .ok (.putfield 82, 3) := by decide +kernel
theorem dX8_onSale_5 : decode cX8_onSale 5 = .ok (.iconst 0, 1) := by decide +kernel
theorem dX8_onSale_6 : decode cX8_onSale 6 = .ok (.istore_n 1, 1) := by decide +kernel
theorem dX8_onSale_7 : decode cX8_onSale 7 = .ok (.iconst 0, 1) := by decide +kernel
theorem dX8_onSale_8 : decode cX8_onSale 8 = .ok (.istore_n 2, 1) := by decide +kernel
theorem dX8_onSale_9 : decode cX8_onSale 9 = .ok (.iload_n 2, 1) := by decide +kernel
theorem dX8_onSale_10 : decode cX8_onSale 10 = .ok (.aload_n 0, 1) := by decide +kernel
theorem dX8_onSale_11 : decode cX8_onSale 11 = .ok (.getfield 128, 3) := by decide +kernel
theorem dX8_onSale_14 : decode cX8_onSale 14 = .ok (.if_icmp .ge 30, 3) := by decide +kernel
theorem dX8_onSale_17 : decode cX8_onSale 17 = .ok (.iload_n 1, 1) := by decide +kernel
theorem dX8_onSale_18 : decode cX8_onSale 18 = .ok (.aload_n 0, 1) := by decide +kernel
theorem dX8_onSale_19 : decode cX8_onSale 19 = .ok (.iload_n 2, 1) := by decide +kernel
theorem dX8_onSale_20 : decode cX8_onSale 20 = .ok (.invokevirtual 171, 3) := by decide +kernel
theorem dX8_onSale_23 : decode cX8_onSale 23 = .ok (.ifCond .ne 12, 3) := by decide +kernel
theorem dX8_onSale_26 : decode cX8_onSale 26 = .ok (.aload_n 0, 1) := by decide +kernel
theorem dX8_onSale_27 : decode cX8_onSale 27 = .ok (.getfield 67, 3) := by decide +kernel
theorem dX8_onSale_30 : decode cX8_onSale 30 = .ok (.iload_n 2, 1) := by decide +kernel
theorem dX8_onSale_31 : decode cX8_onSale 31 = .ok (.iaload, 1) := by decide +kernel
theorem dX8_onSale_32 : decode cX8_onSale 32 = .ok (.goto 4, 3) := by decide +kernel
theorem dX8_onSale_35 : decode cX8_onSale 35 = .ok (.iconst 0, 1) := by decide +kernel
theorem dX8_onSale_36 : decode cX8_onSale 36 = .ok (.iadd, 1) := by decide +kernel
theorem dX8_onSale_37 : decode cX8_onSale 37 = .ok (.istore_n 1, 1) := by decide +kernel
theorem dX8_onSale_38 : decode cX8_onSale 38 = .ok (.iinc 2 1, 3) := by decide +kernel
theorem dX8_onSale_41 : decode cX8_onSale 41 = .ok (.goto (-32), 3) := by decide +kernel
theorem dX8_onSale_44 : decode cX8_onSale 44 = .ok (.iload_n 1, 1) := by decide +kernel
theorem dX8_onSale_45 : decode cX8_onSale 45 = .ok (.ireturn, 1) := by decide +kernel
theorem dX8_traced_0 : decode cX8_traced 0 = .ok (.aload_n 0, 1) := by decide +kernel
theorem dX8_traced_1 : decode cX8_traced 1 = .ok (.aload_n 0, 1) := by decide +kernel
theorem dX8_traced_2 : decode cX8_traced 2 = .ok (.iload_n 1, 1) := by decide +kernel
theorem dX8_traced_3 : decode cX8_traced 3 = .ok (.invokevirtual 150, 3) := by decide +kernel
theorem dX8_traced_6 : decode cX8_traced 6 = .ok (.ifCond .eq 7, 3) := by decide +kernel
theorem dX8_traced_9 : decode cX8_traced 9 = .ok (.iconst 0, 1) := by decide +kernel
theorem dX8_traced_10 : decode cX8_traced 10 = .ok (.goto 4, 3) := by decide +kernel
theorem dX8_traced_13 : decode cX8_traced 13 = .ok (.iconst 1, 1) := by decide +kernel
theorem dX8_traced_14 : decode cX8_traced 14 = .ok (.putfield 82, 3) := by decide +kernel
theorem dX8_traced_17 : decode cX8_traced 17 = .ok (.iconst 0, 1) := by decide +kernel
theorem dX8_traced_18 : decode cX8_traced 18 = .ok (.istore_n 2, 1) := by decide +kernel
theorem dX8_traced_19 : decode cX8_traced 19 = .ok (.iconst 0, 1) := by decide +kernel
theorem dX8_traced_20 : decode cX8_traced 20 = .ok (.istore_n 3, 1) := by decide +kernel
theorem dX8_traced_21 : decode cX8_traced 21 = .ok (.iload_n 3, 1) := by decide +kernel
theorem dX8_traced_22 : decode cX8_traced 22 = .ok (.aload_n 0, 1) := by decide +kernel
theorem dX8_traced_23 : decode cX8_traced 23 = .ok (.getfield 128, 3) := by decide +kernel
theorem dX8_traced_26 : decode cX8_traced 26 = .ok (.if_icmp .ge 29, 3) := by decide +kernel
theorem dX8_traced_29 : decode cX8_traced 29 = .ok (.aload_n 0, 1) := by decide +kernel
theorem dX8_traced_30 : decode cX8_traced 30 = .ok (.getfield 82, 3) := by decide +kernel
theorem dX8_traced_33 : decode cX8_traced 33 = .ok (.ifCond .ne 22, 3) := by decide +kernel
theorem dX8_traced_36 : decode cX8_traced 36 = .ok (.iload_n 2, 1) := by decide +kernel
theorem dX8_traced_37 : decode cX8_traced 37 = .ok (.aload_n 0, 1) := by decide +kernel
theorem dX8_traced_38 : decode cX8_traced 38 = .ok (.getfield 64, 3) := by decide +kernel
theorem dX8_traced_41 : decode cX8_traced 41 = .ok (.iload_n 3, 1) := by decide +kernel
theorem dX8_traced_42 : decode cX8_traced 42 = .ok (.iaload, 1) := by decide +kernel
theorem dX8_traced_43 : decode cX8_traced 43 = .ok (.iload_n 1, 1) := by decide +kernel
theorem dX8_traced_44 : decode cX8_traced 44 = .ok (.ishr, 1) := by decide +kernel
theorem dX8_traced_45 : decode cX8_traced 45 = .ok (.iconst 1, 1) := by decide +kernel
theorem dX8_traced_46 : decode cX8_traced 46 = .ok (.iand, 1) := by decide +kernel
theorem dX8_traced_47 : decode cX8_traced 47 = .ok (.iadd, 1) := by decide +kernel
theorem dX8_traced_48 : decode cX8_traced 48 = .ok (.istore_n 2, 1) := by decide +kernel
theorem dX8_traced_49 : decode cX8_traced 49 = .ok (.iinc 3 1, 3) := by decide +kernel
theorem dX8_traced_52 : decode cX8_traced 52 = .ok (.goto (-31), 3) := by decide +kernel
theorem dX8_traced_55 : decode cX8_traced 55 = .ok (.iload_n 2, 1) := by decide +kernel
theorem dX8_traced_56 : decode cX8_traced 56 = .ok (.ireturn, 1) := by decide +kernel
theorem dX8_tracedAt_0 : decode cX8_tracedAt 0 = .ok (.aload_n 0, 1) := by decide +kernel
theorem dX8_tracedAt_1 : decode cX8_tracedAt 1 = .ok (.aload_n 0, 1) := by decide +kernel
theorem dX8_tracedAt_2 : decode cX8_tracedAt 2 = .ok (.iload_n 1, 1) := by decide +kernel
theorem dX8_tracedAt_3 : decode cX8_tracedAt 3 = .ok (.invokevirtual 150, 3) := by decide +kernel
theorem dX8_tracedAt_6 : decode cX8_tracedAt 6 = .ok (.ifCond .eq 11, 3) := by decide +kernel
theorem dX8_tracedAt_9 : decode cX8_tracedAt 9 = .ok (.iload_n 2, 1) := by decide +kernel
theorem dX8_tracedAt_10 : decode cX8_tracedAt 10 = .ok (.ifCond .lt 7, 3) := by decide +kernel
theorem dX8_tracedAt_13 : decode cX8_tracedAt 13 = .ok (.iconst 0, 1) := by decide +kernel
theorem dX8_tracedAt_14 : decode cX8_tracedAt 14 = .ok (.goto 4, 3) := by decide +kernel
theorem dX8_tracedAt_17 : decode cX8_tracedAt 17 = .ok (.iconst 1, 1) := by decide +kernel
theorem dX8_tracedAt_18 : decode cX8_tracedAt 18 = .ok (.putfield 82, 3) := by decide +kernel
theorem dX8_tracedAt_21 : decode cX8_tracedAt 21 = .ok (.iload_n 2, 1) := by decide +kernel
theorem dX8_tracedAt_22 : decode cX8_tracedAt 22 = .ok (.istore_n 3, 1) := by decide +kernel
theorem dX8_tracedAt_23 : decode cX8_tracedAt 23 = .ok (.iconst 0, 1) := by decide +kernel
theorem dX8_tracedAt_24 : decode cX8_tracedAt 24 = .ok (.istore 4, 2) := by decide +kernel
theorem dX8_tracedAt_26 : decode cX8_tracedAt 26 = .ok (.iload 4, 2) := by decide +kernel
theorem dX8_tracedAt_28 : decode cX8_tracedAt 28 = .ok (.aload_n 0, 1) := by decide +kernel
theorem dX8_tracedAt_29 : decode cX8_tracedAt 29 = .ok (.getfield 128, 3) := by decide +kernel
theorem dX8_tracedAt_32 : decode cX8_tracedAt 32 = .ok (.if_icmp .ge 41, 3) := by decide +kernel
theorem dX8_tracedAt_35 : decode cX8_tracedAt 35 = .ok (.aload_n 0, 1) := by decide +kernel
theorem dX8_tracedAt_36 : decode cX8_tracedAt 36 = .ok (.getfield 82, 3) := by decide +kernel
theorem dX8_tracedAt_39 : decode cX8_tracedAt 39 = .ok (.ifCond .ne 34, 3) := by decide +kernel
theorem dX8_tracedAt_42 : decode cX8_tracedAt 42 = .ok (.aload_n 0, 1) := by decide +kernel
theorem dX8_tracedAt_43 : decode cX8_tracedAt 43 = .ok (.getfield 64, 3) := by decide +kernel
theorem dX8_tracedAt_46 : decode cX8_tracedAt 46 = .ok (.iload 4, 2) := by decide +kernel
theorem dX8_tracedAt_48 : decode cX8_tracedAt 48 = .ok (.iaload, 1) := by decide +kernel
theorem dX8_tracedAt_49 : decode cX8_tracedAt 49 = .ok (.iload_n 1, 1) := by decide +kernel
theorem dX8_tracedAt_50 : decode cX8_tracedAt 50 = .ok (.ishr, 1) := by decide +kernel
theorem dX8_tracedAt_51 : decode cX8_tracedAt 51 = .ok (.iconst 1, 1) := by decide +kernel
theorem dX8_tracedAt_52 : decode cX8_tracedAt 52 = .ok (.iand, 1) := by decide +kernel
theorem dX8_tracedAt_53 : decode cX8_tracedAt 53 = .ok (.iconst 1, 1) := by decide +kernel
theorem dX8_tracedAt_54 : decode cX8_tracedAt 54 = .ok (.if_icmp .ne 13, 3) := by decide +kernel
theorem dX8_tracedAt_57 : decode cX8_tracedAt 57 = .ok (.iload_n 3, 1) := by decide +kernel
theorem dX8_tracedAt_58 : decode cX8_tracedAt 58 = .ok (.ifCond .ne 6, 3) := by decide +kernel
theorem dX8_tracedAt_61 : decode cX8_tracedAt 61 = .ok (.iload 4, 2) := by decide +kernel
theorem dX8_tracedAt_63 : decode cX8_tracedAt 63 = .ok (.ireturn, 1) := by decide +kernel
theorem dX8_tracedAt_64 : decode cX8_tracedAt 64 = .ok (.iinc 3 (-1), 3) := by decide +kernel
theorem dX8_tracedAt_67 : decode cX8_tracedAt 67 = .ok (.iinc 4 1, 3) := by decide +kernel
theorem dX8_tracedAt_70 : decode cX8_tracedAt 70 = .ok (.goto (-44), 3) := by decide +kernel
theorem dX8_tracedAt_73 : decode cX8_tracedAt 73 = .ok (.aload_n 0, 1) := by decide +kernel
theorem dX8_tracedAt_74 : decode cX8_tracedAt 74 = .ok (.iconst 1, 1) := by decide +kernel
theorem dX8_tracedAt_75 : decode cX8_tracedAt 75 = .ok (.invokevirtual 162, 3) := by decide +kernel
theorem dX8_tracedAt_78 : decode cX8_tracedAt 78 = .ok (.ireturn, 1) := by decide +kernel
theorem dX8_recalls_0 : decode cX8_recalls 0 = .ok (.aload_n 0, 1) := by decide +kernel
theorem dX8_recalls_1 : decode cX8_recalls 1 = .ok (.iconst 0, 1) := by decide +kernel
theorem dX8_recalls_2 : decode cX8_recalls 2 = .ok (.putfield 82, 3) := by decide +kernel
theorem dX8_recalls_5 : decode cX8_recalls 5 = .ok (.aload_n 0, 1) := by decide +kernel
theorem dX8_recalls_6 : decode cX8_recalls 6 = .ok (.getfield 122, 3) := by decide +kernel
theorem dX8_recalls_9 : decode cX8_recalls 9 = .ok (.ireturn, 1) := by decide +kernel
theorem dX8_isRecall_0 : decode cX8_isRecall 0 = .ok (.aload_n 0, 1) := by decide +kernel
theorem dX8_isRecall_1 : decode cX8_isRecall 1 = .ok (.iload_n 1, 1) := by decide +kernel
theorem dX8_isRecall_2 : decode cX8_isRecall 2 = .ok (.iconst 0, 1) := by decide +kernel
theorem dX8_isRecall_3 : decode cX8_isRecall 3 = .ok (.aload_n 0, 1) := by decide +kernel
theorem dX8_isRecall_4 : decode cX8_isRecall 4 = .ok (.getfield 122, 3) := by decide +kernel
theorem dX8_isRecall_7 : decode cX8_isRecall 7 = .ok (.iconst 1, 1) := by decide +kernel
theorem dX8_isRecall_8 : decode cX8_isRecall 8 = .ok (.isub, 1) := by decide +kernel
theorem dX8_isRecall_9 : decode cX8_isRecall 9 = .ok (.invokestatic 86, 3) := by decide +kernel
theorem dX8_isRecall_12 : decode cX8_isRecall 12 = .ok (.ifCond .eq 7, 3) := by decide +kernel
theorem dX8_isRecall_15 : decode cX8_isRecall 15 = .ok (.iconst 0, 1) := by decide +kernel
theorem dX8_isRecall_16 : decode cX8_isRecall 16 = .ok (.goto 4, 3) := by decide +kernel
theorem dX8_isRecall_19 : decode cX8_isRecall 19 = .ok (.iconst 1, 1) := by decide +kernel
theorem dX8_isRecall_20 : decode cX8_isRecall 20 = .ok (.putfield 82, 3) := by decide +kernel
theorem dX8_isRecall_23 : decode cX8_isRecall 23 = .ok (.aload_n 0, 1) := by decide +kernel
theorem dX8_isRecall_24 : decode cX8_isRecall 24 = .ok (.getfield 82, 3) := by decide +kernel
theorem dX8_isRecall_27 : decode cX8_isRecall 27 = .ok (.ifCond .ne 7, 3) := by decide +kernel
theorem dX8_isRecall_30 : decode cX8_isRecall 30 = .ok (.iconst 1, 1) := by decide +kernel
theorem dX8_isRecall_31 : decode cX8_isRecall 31 = .ok (.goto 4, 3) := by decide +kernel
theorem dX8_isRecall_34 : decode cX8_isRecall 34 = .ok (.iconst 0, 1) := by decide +kernel
theorem dX8_isRecall_35 : decode cX8_isRecall 35 = .ok (.ireturn, 1) := by decide +kernel
theorem dX8_recallOf_0 : decode cX8_recallOf 0 = .ok (.aload_n 0, 1) := by decide +kernel
theorem dX8_recallOf_1 : decode cX8_recallOf 1 = .ok (.iload_n 1, 1) := by decide +kernel
theorem dX8_recallOf_2 : decode cX8_recallOf 2 = .ok (.invokevirtual 177, 3) := by decide +kernel
theorem dX8_recallOf_5 : decode cX8_recallOf 5 = .ok (.ifCond .eq 12, 3) := by decide +kernel
theorem dX8_recallOf_8 : decode cX8_recallOf 8 = .ok (.aload_n 0, 1) := by decide +kernel
theorem dX8_recallOf_9 : decode cX8_recallOf 9 = .ok (.getfield 73, 3) := by decide +kernel
theorem dX8_recallOf_12 : decode cX8_recallOf 12 = .ok (.iload_n 1, 1) := by decide +kernel
theorem dX8_recallOf_13 : decode cX8_recallOf 13 = .ok (.iaload, 1) := by decide +kernel
theorem dX8_recallOf_14 : decode cX8_recallOf 14 = .ok (.goto 4, 3) := by decide +kernel
theorem dX8_recallOf_17 : decode cX8_recallOf 17 = .ok (.iconst 0, 1) := by decide +kernel
theorem dX8_recallOf_18 : decode cX8_recallOf 18 = .ok (.ireturn, 1) := by decide +kernel
theorem dX8_calledBack_0 : decode cX8_calledBack 0 = .ok (.aload_n 0, 1) := by decide +kernel
theorem dX8_calledBack_1 : decode cX8_calledBack 1 = .ok (.iload_n 1, 1) := by decide +kernel
theorem dX8_calledBack_2 : decode cX8_calledBack 2 = .ok (.invokevirtual 177, 3) := by decide +kernel
theorem dX8_calledBack_5 : decode cX8_calledBack 5 = .ok (.ifCond .eq 12, 3) := by decide +kernel
theorem dX8_calledBack_8 : decode cX8_calledBack 8 = .ok (.aload_n 0, 1) := by decide +kernel
theorem dX8_calledBack_9 : decode cX8_calledBack 9 = .ok (.getfield 76, 3) := by decide +kernel
theorem dX8_calledBack_12 : decode cX8_calledBack 12 = .ok (.iload_n 1, 1) := by decide +kernel
theorem dX8_calledBack_13 : decode cX8_calledBack 13 = .ok (.iaload, 1) := by decide +kernel
theorem dX8_calledBack_14 : decode cX8_calledBack 14 = .ok (.goto 4, 3) := by decide +kernel
theorem dX8_calledBack_17 : decode cX8_calledBack 17 = .ok (.iconst 0, 1) := by decide +kernel
theorem dX8_calledBack_18 : decode cX8_calledBack 18 = .ok (.ireturn, 1) := by decide +kernel
theorem dX8_why_0 : decode cX8_why 0 = .ok (.aload_n 0, 1) := by decide +kernel
theorem dX8_why_1 : decode cX8_why 1 = .ok (.iload_n 1, 1) := by decide +kernel
theorem dX8_why_2 : decode cX8_why 2 = .ok (.invokevirtual 177, 3) := by decide +kernel
theorem dX8_why_5 : decode cX8_why 5 = .ok (.ifCond .eq 12, 3) := by decide +kernel
theorem dX8_why_8 : decode cX8_why 8 = .ok (.aload_n 0, 1) := by decide +kernel
theorem dX8_why_9 : decode cX8_why 9 = .ok (.getfield 79, 3) := by decide +kernel
theorem dX8_why_12 : decode cX8_why 12 = .ok (.iload_n 1, 1) := by decide +kernel
theorem dX8_why_13 : decode cX8_why 13 = .ok (.iaload, 1) := by decide +kernel
theorem dX8_why_14 : decode cX8_why 14 = .ok (.goto 4, 3) := by decide +kernel
theorem dX8_why_17 : decode cX8_why 17 = .ok (.iconst 0, 1) := by decide +kernel
theorem dX8_why_18 : decode cX8_why 18 = .ok (.ireturn, 1) := by decide +kernel
