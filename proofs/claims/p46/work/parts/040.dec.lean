theorem dX0_init_0 : decode cX0_init 0 = .ok (.aload_n 0, 1) := by decide +kernel
theorem dX0_init_1 : decode cX0_init 1 = .ok (.invokespecial 3, 3) := by decide +kernel
theorem dX0_init_4 : decode cX0_init 4 = .ok (.aload_n 0, 1) := by decide +kernel
theorem dX0_init_5 : decode cX0_init 5 = .ok (.iconst 5, 1) := by decide +kernel
theorem dX0_init_6 : decode cX0_init 6 = .ok (.newarray .int, 2) := by decide +kernel
theorem dX0_init_8 : decode cX0_init 8 = .ok (.putfield 9, 3) := by decide +kernel
theorem dX0_init_11 : decode cX0_init 11 = .ok (.aload_n 0, 1) := by decide +kernel
theorem dX0_init_12 : decode cX0_init 12 = .ok (.iconst 5, 1) := by decide +kernel
theorem dX0_init_13 : decode cX0_init 13 = .ok (.newarray .int, 2) := by decide +kernel
theorem dX0_init_15 : decode cX0_init 15 = .ok (.putfield 15, 3) := by decide +kernel
theorem dX0_init_18 : decode cX0_init 18 = .ok (.aload_n 0, 1) := by decide +kernel
theorem dX0_init_19 : decode cX0_init 19 = .ok (.iconst 5, 1) := by decide +kernel
theorem dX0_init_20 : decode cX0_init 20 = .ok (.newarray .int, 2) := by decide +kernel
theorem dX0_init_22 : decode cX0_init 22 = .ok (.putfield 18, 3) := by decide +kernel
theorem dX0_init_25 : decode cX0_init 25 = .ok (.aload_n 0, 1) := by decide +kernel
theorem dX0_init_26 : decode cX0_init 26 = .ok (.iconst 5, 1) := by decide +kernel
theorem dX0_init_27 : decode cX0_init 27 = .ok (.newarray .int, 2) := by decide +kernel
theorem dX0_init_29 : decode cX0_init 29 = .ok (.putfield 21, 3) := by decide +kernel
theorem dX0_init_32 : decode cX0_init 32 = .ok (.aload_n 0, 1) := by decide +kernel
theorem dX0_init_33 : decode cX0_init 33 = .ok (.iconst 5, 1) := by decide +kernel
theorem dX0_init_34 : decode cX0_init 34 = .ok (.bipush 20, 2) := by decide +kernel
theorem dX0_init_36 : decode cX0_init 36 = .ok (.multianewarray 24 2, 4) := by decide +kernel
theorem dX0_init_40 : decode cX0_init 40 = .ok (.putfield 26, 3) := by decide +kernel
theorem dX0_init_43 : decode cX0_init 43 = .ok (.aload_n 0, 1) := by decide +kernel
theorem dX0_init_44 : decode cX0_init 44 = .ok (.iconst 5, 1) := by decide +kernel
theorem dX0_init_45 : decode cX0_init 45 = .ok (.newarray .int, 2) := by decide +kernel
theorem dX0_init_47 : decode cX0_init 47 = .ok (.putfield 29, 3) := by decide +kernel
theorem dX0_init_50 : decode cX0_init 50 = .ok (.aload_n 0, 1) := by decide +kernel
theorem dX0_init_51 : decode cX0_init 51 = .ok (.bipush 60, 2) := by decide +kernel
theorem dX0_init_53 : decode cX0_init 53 = .ok (.newarray .int, 2) := by decide +kernel
theorem dX0_init_55 : decode cX0_init 55 = .ok (.putfield 32, 3) := by decide +kernel
theorem dX0_init_58 : decode cX0_init 58 = .ok (.aload_n 0, 1) := by decide +kernel
theorem dX0_init_59 : decode cX0_init 59 = .ok (.bipush 60, 2) := by decide +kernel
theorem dX0_init_61 : decode cX0_init 61 = .ok (.newarray .int, 2) := by decide +kernel
theorem dX0_init_63 : decode cX0_init 63 = .ok (.putfield 35, 3) := by decide +kernel
theorem dX0_init_66 : decode cX0_init 66 = .ok (.aload_n 0, 1) := by decide +kernel
theorem dX0_init_67 : decode cX0_init 67 = .ok (.invokevirtual 38, 3) := by decide +kernel
theorem dX0_init_70 : decode cX0_init 70 = .ok (.return_, 1) := by decide +kernel
theorem dX0_begin_0 : decode cX0_begin 0 = .ok (.aload_n 0, 1) := by decide +kernel
theorem dX0_begin_1 : decode cX0_begin 1 = .ok (.iconst 0, 1) := by decide +kernel
theorem dX0_begin_2 : decode cX0_begin 2 = .ok (.putfield 41, 3) := by decide +kernel
theorem dX0_begin_5 : decode cX0_begin 5 = .ok (.aload_n 0, 1) := by decide +kernel
theorem dX0_begin_6 : decode cX0_begin 6 = .ok (.getfield 9, 3) := by decide +kernel
theorem dX0_begin_9 : decode cX0_begin 9 = .ok (.iconst 0, 1) := by decide +kernel
theorem dX0_begin_10 : decode cX0_begin 10 = .ok (.invokestatic 45, 3) := by decide +kernel
theorem dX0_begin_13 : decode cX0_begin 13 = .ok (.aload_n 0, 1) := by decide +kernel
theorem dX0_begin_14 : decode cX0_begin 14 = .ok (.getfield 15, 3) := by decide +kernel
theorem dX0_begin_17 : decode cX0_begin 17 = .ok (.iconst 0, 1) := by decide +kernel
theorem dX0_begin_18 : decode cX0_begin 18 = .ok (.invokestatic 45, 3) := by decide +kernel
theorem dX0_begin_21 : decode cX0_begin 21 = .ok (.aload_n 0, 1) := by decide +kernel
theorem dX0_begin_22 : decode cX0_begin 22 = .ok (.getfield 18, 3) := by decide +kernel
theorem dX0_begin_25 : decode cX0_begin 25 = .ok (.iconst (-1), 1) := by decide +kernel
theorem dX0_begin_26 : decode cX0_begin 26 = .ok (.invokestatic 45, 3) := by decide +kernel
theorem dX0_begin_29 : decode cX0_begin 29 = .ok (.aload_n 0, 1) := by decide +kernel
theorem dX0_begin_30 : decode cX0_begin 30 = .ok (.getfield 21, 3) := by decide +kernel
theorem dX0_begin_33 : decode cX0_begin 33 = .ok (.iconst 0, 1) := by decide +kernel
theorem dX0_begin_34 : decode cX0_begin 34 = .ok (.invokestatic 45, 3) := by decide +kernel
theorem dX0_begin_37 : decode cX0_begin 37 = .ok (.aload_n 0, 1) := by decide +kernel
theorem dX0_begin_38 : decode cX0_begin 38 = .ok (.getfield 29, 3) := by decide +kernel
theorem dX0_begin_41 : decode cX0_begin 41 = .ok (.iconst 0, 1) := by decide +kernel
theorem dX0_begin_42 : decode cX0_begin 42 = .ok (.invokestatic 45, 3) := by decide +kernel
theorem dX0_begin_45 : decode cX0_begin 45 = .ok (.aload_n 0, 1) := by decide +kernel
theorem dX0_begin_46 : decode cX0_begin 46 = .ok (.iconst 0, 1) := by decide +kernel
theorem dX0_begin_47 : decode cX0_begin 47 = .ok (.putfield 51, 3) := by decide +kernel
theorem dX0_begin_50 : decode cX0_begin 50 = .ok (.aload_n 0, 1) := by decide +kernel
theorem dX0_begin_51 : decode cX0_begin 51 = .ok (.lconst 0, 1) := by decide +kernel
theorem dX0_begin_52 : decode cX0_begin 52 = .ok (.putfield 54, 3) := by decide +kernel
theorem dX0_begin_55 : decode cX0_begin 55 = .ok (.aload_n 0, 1) := by decide +kernel
theorem dX0_begin_56 : decode cX0_begin 56 = .ok (.lconst 0, 1) := by decide +kernel
theorem dX0_begin_57 : decode cX0_begin 57 = .ok (.putfield 58, 3) := by decide +kernel
theorem dX0_begin_60 : decode cX0_begin 60 = .ok (.return_, 1) := by decide +kernel
theorem dX0_areTogether_0 : decode cX0_areTogether 0 = .ok (.aload_n 0, 1) := by decide +kernel
theorem dX0_areTogether_1 : decode cX0_areTogether 1 = .ok (.getfield 41, 3) := by decide +kernel
theorem dX0_areTogether_4 : decode cX0_areTogether 4 = .ok (.i2l, 1) := by decide +kernel
theorem dX0_areTogether_5 : decode cX0_areTogether 5 = .ok (.iload_n 1, 1) := by decide +kernel
theorem dX0_areTogether_6 : decode cX0_areTogether 6 = .ok (.invokestatic 61, 3) := by decide +kernel
theorem dX0_areTogether_9 : decode cX0_areTogether 9 = .ok (.aload_n 0, 1) := by decide +kernel
theorem dX0_areTogether_10 : decode cX0_areTogether 10 = .ok (.getfield 41, 3) := by decide +kernel
theorem dX0_areTogether_13 : decode cX0_areTogether 13 = .ok (.i2l, 1) := by decide +kernel
theorem dX0_areTogether_14 : decode cX0_areTogether 14 = .ok (.iload_n 2, 1) := by decide +kernel
theorem dX0_areTogether_15 : decode cX0_areTogether 15 = .ok (.invokestatic 61, 3) := by decide +kernel
theorem dX0_areTogether_18 : decode cX0_areTogether 18 = .ok (.if_icmp .ne 7, 3) := by decide +kernel
theorem dX0_areTogether_21 : decode cX0_areTogether 21 = .ok (.iconst 1, 1) := by decide +kernel
theorem dX0_areTogether_22 : decode cX0_areTogether 22 = .ok (.goto 4, 3) := by decide +kernel
theorem dX0_areTogether_25 : decode cX0_areTogether 25 = .ok (.iconst 0, 1) := by decide +kernel
theorem dX0_areTogether_26 : decode cX0_areTogether 26 = .ok (.ireturn, 1) := by decide +kernel
theorem dX0_becomeCandidate_0 : decode cX0_becomeCandidate 0 = .ok (.aload_n 0, 1) := by decide +kernel
theorem dX0_becomeCandidate_1 : decode cX0_becomeCandidate 1 = .ok (.getfield 9, 3) := by decide +kernel
theorem dX0_becomeCandidate_4 : decode cX0_becomeCandidate 4 = .ok (.iload_n 1, 1) := by decide +kernel
theorem dX0_becomeCandidate_5 : decode cX0_becomeCandidate 5 = .ok (.dup2, 1) := by decide +kernel
theorem dX0_becomeCandidate_6 : decode cX0_becomeCandidate 6 = .ok (.iaload, 1) := by decide +kernel
theorem dX0_becomeCandidate_7 : decode cX0_becomeCandidate 7 = .ok (.iconst 1, 1) := by decide +kernel
theorem dX0_becomeCandidate_8 : decode cX0_becomeCandidate 8 = .ok (.iadd, 1) := by decide +kernel
theorem dX0_becomeCandidate_9 : decode cX0_becomeCandidate 9 = .ok (.iastore, 1) := by decide +kernel
theorem dX0_becomeCandidate_10 : decode cX0_becomeCandidate 10 = .ok (.aload_n 0, 1) := by decide +kernel
theorem dX0_becomeCandidate_11 : decode cX0_becomeCandidate 11 = .ok (.getfield 15, 3) := by decide +kernel
theorem dX0_becomeCandidate_14 : decode cX0_becomeCandidate 14 = .ok (.iload_n 1, 1) := by decide +kernel
theorem dX0_becomeCandidate_15 : decode cX0_becomeCandidate 15 = .ok (.iconst 1, 1) := by decide +kernel
theorem dX0_becomeCandidate_16 : decode cX0_becomeCandidate 16 = .ok (.iastore, 1) := by decide +kernel
theorem dX0_becomeCandidate_17 : decode cX0_becomeCandidate 17 = .ok (.aload_n 0, 1) := by decide +kernel
theorem dX0_becomeCandidate_18 : decode cX0_becomeCandidate 18 = .ok (.getfield 18, 3) := by decide +kernel
theorem dX0_becomeCandidate_21 : decode cX0_becomeCandidate 21 = .ok (.iload_n 1, 1) := by decide +kernel
theorem dX0_becomeCandidate_22 : decode cX0_becomeCandidate 22 = .ok (.iload_n 1, 1) := by decide +kernel
theorem dX0_becomeCandidate_23 : decode cX0_becomeCandidate 23 = .ok (.iastore, 1) := by decide +kernel
theorem dX0_becomeCandidate_24 : decode cX0_becomeCandidate 24 = .ok (.aload_n 0, 1) := by decide +kernel
theorem dX0_becomeCandidate_25 : decode cX0_becomeCandidate 25 = .ok (.getfield 21, 3) := by decide +kernel
theorem dX0_becomeCandidate_28 : decode cX0_becomeCandidate 28 = .ok (.iload_n 1, 1) := by decide +kernel
theorem dX0_becomeCandidate_29 : decode cX0_becomeCandidate 29 = .ok (.iconst 1, 1) := by decide +kernel
theorem dX0_becomeCandidate_30 : decode cX0_becomeCandidate 30 = .ok (.iload_n 1, 1) := by decide +kernel
theorem dX0_becomeCandidate_31 : decode cX0_becomeCandidate 31 = .ok (.ishl, 1) := by decide +kernel
theorem dX0_becomeCandidate_32 : decode cX0_becomeCandidate 32 = .ok (.iastore, 1) := by decide +kernel
theorem dX0_becomeCandidate_33 : decode cX0_becomeCandidate 33 = .ok (.return_, 1) := by decide +kernel
theorem dX0_takeTerm_0 : decode cX0_takeTerm 0 = .ok (.aload_n 0, 1) := by decide +kernel
theorem dX0_takeTerm_1 : decode cX0_takeTerm 1 = .ok (.getfield 9, 3) := by decide +kernel
theorem dX0_takeTerm_4 : decode cX0_takeTerm 4 = .ok (.iload_n 1, 1) := by decide +kernel
theorem dX0_takeTerm_5 : decode cX0_takeTerm 5 = .ok (.iload_n 2, 1) := by decide +kernel
theorem dX0_takeTerm_6 : decode cX0_takeTerm 6 = .ok (.iastore, 1) := by decide +kernel
theorem dX0_takeTerm_7 : decode cX0_takeTerm 7 = .ok (.aload_n 0, 1) := by decide +kernel
theorem dX0_takeTerm_8 : decode cX0_takeTerm 8 = .ok (.getfield 15, 3) := by decide +kernel
theorem dX0_takeTerm_11 : decode cX0_takeTerm 11 = .ok (.iload_n 1, 1) := by decide +kernel
theorem dX0_takeTerm_12 : decode cX0_takeTerm 12 = .ok (.iconst 0, 1) := by decide +kernel
theorem dX0_takeTerm_13 : decode cX0_takeTerm 13 = .ok (.iastore, 1) := by decide +kernel
theorem dX0_takeTerm_14 : decode cX0_takeTerm 14 = .ok (.aload_n 0, 1) := by decide +kernel
theorem dX0_takeTerm_15 : decode cX0_takeTerm 15 = .ok (.getfield 18, 3) := by decide +kernel
theorem dX0_takeTerm_18 : decode cX0_takeTerm 18 = .ok (.iload_n 1, 1) := by decide +kernel
theorem dX0_takeTerm_19 : decode cX0_takeTerm 19 = .ok (.iconst (-1), 1) := by decide +kernel
theorem dX0_takeTerm_20 : decode cX0_takeTerm 20 = .ok (.iastore, 1) := by decide +kernel
theorem dX0_takeTerm_21 : decode cX0_takeTerm 21 = .ok (.return_, 1) := by decide +kernel
theorem dX0_askForVote_0 : decode cX0_askForVote 0 = .ok (.aload_n 0, 1) := by decide +kernel
theorem dX0_askForVote_1 : decode cX0_askForVote 1 = .ok (.getfield 9, 3) := by decide +kernel
theorem dX0_askForVote_4 : decode cX0_askForVote 4 = .ok (.iload_n 1, 1) := by decide +kernel
theorem dX0_askForVote_5 : decode cX0_askForVote 5 = .ok (.iaload, 1) := by decide +kernel
theorem dX0_askForVote_6 : decode cX0_askForVote 6 = .ok (.aload_n 0, 1) := by decide +kernel
theorem dX0_askForVote_7 : decode cX0_askForVote 7 = .ok (.getfield 9, 3) := by decide +kernel
theorem dX0_askForVote_10 : decode cX0_askForVote 10 = .ok (.iload_n 2, 1) := by decide +kernel
theorem dX0_askForVote_11 : decode cX0_askForVote 11 = .ok (.iaload, 1) := by decide +kernel
theorem dX0_askForVote_12 : decode cX0_askForVote 12 = .ok (.if_icmp .le 16, 3) := by decide +kernel
theorem dX0_askForVote_15 : decode cX0_askForVote 15 = .ok (.aload_n 0, 1) := by decide +kernel
theorem dX0_askForVote_16 : decode cX0_askForVote 16 = .ok (.iload_n 2, 1) := by decide +kernel
theorem dX0_askForVote_17 : decode cX0_askForVote 17 = .ok (.aload_n 0, 1) := by decide +kernel
theorem dX0_askForVote_18 : decode cX0_askForVote 18 = .ok (.getfield 9, 3) := by decide +kernel
theorem dX0_askForVote_21 : decode cX0_askForVote 21 = .ok (.iload_n 1, 1) := by decide +kernel
theorem dX0_askForVote_22 : decode cX0_askForVote 22 = .ok (.iaload, 1) := by decide +kernel
theorem dX0_askForVote_23 : decode cX0_askForVote 23 = .ok (.invokevirtual 65, 3) := by decide +kernel
theorem dX0_askForVote_26 : decode cX0_askForVote 26 = .ok (.iconst 0, 1) := by decide +kernel
theorem dX0_askForVote_27 : decode cX0_askForVote 27 = .ok (.ireturn, 1) := by decide +kernel
theorem dX0_askForVote_28 : decode cX0_askForVote 28 = .ok (.aload_n 0, 1) := by decide +kernel
theorem dX0_askForVote_29 : decode cX0_askForVote 29 = .ok (.getfield 9, 3) := by decide +kernel
theorem dX0_askForVote_32 : decode cX0_askForVote 32 = .ok (.iload_n 1, 1) := by decide +kernel
theorem dX0_askForVote_33 : decode cX0_askForVote 33 = .ok (.iaload, 1) := by decide +kernel
theorem dX0_askForVote_34 : decode cX0_askForVote 34 = .ok (.aload_n 0, 1) := by decide +kernel
theorem dX0_askForVote_35 : decode cX0_askForVote 35 = .ok (.getfield 9, 3) := by decide +kernel
theorem dX0_askForVote_38 : decode cX0_askForVote 38 = .ok (.iload_n 2, 1) := by decide +kernel
theorem dX0_askForVote_39 : decode cX0_askForVote 39 = .ok (.iaload, 1) := by decide +kernel
theorem dX0_askForVote_40 : decode cX0_askForVote 40 = .ok (.if_icmp .ge 14, 3) := by decide +kernel
theorem dX0_askForVote_43 : decode cX0_askForVote 43 = .ok (.aload_n 0, 1) := by decide +kernel
theorem dX0_askForVote_44 : decode cX0_askForVote 44 = .ok (.iload_n 1, 1) := by decide +kernel
theorem dX0_askForVote_45 : decode cX0_askForVote 45 = .ok (.aload_n 0, 1) := by decide +kernel
theorem dX0_askForVote_46 : decode cX0_askForVote 46 = .ok (.getfield 9, 3) := by decide +kernel
theorem dX0_askForVote_49 : decode cX0_askForVote 49 = .ok (.iload_n 2, 1) := by decide +kernel
theorem dX0_askForVote_50 : decode cX0_askForVote 50 = .ok (.iaload, 1) := by decide +kernel
theorem dX0_askForVote_51 : decode cX0_askForVote 51 = .ok (.invokevirtual 65, 3) := by decide +kernel
theorem dX0_askForVote_54 : decode cX0_askForVote 54 = .ok (.aload_n 0, 1) := by decide +kernel
theorem dX0_askForVote_55 : decode cX0_askForVote 55 = .ok (.getfield 18, 3) := by decide +kernel
theorem dX0_askForVote_58 : decode cX0_askForVote 58 = .ok (.iload_n 1, 1) := by decide +kernel
theorem dX0_askForVote_59 : decode cX0_askForVote 59 = .ok (.iaload, 1) := by decide +kernel
theorem dX0_askForVote_60 : decode cX0_askForVote 60 = .ok (.iload_n 2, 1) := by decide +kernel
theorem dX0_askForVote_61 : decode cX0_askForVote 61 = .ok (.if_icmp .ne 5, 3) := by decide +kernel
theorem dX0_askForVote_64 : decode cX0_askForVote 64 = .ok (.iconst 1, 1) := by decide +kernel
theorem dX0_askForVote_65 : decode cX0_askForVote 65 = .ok (.ireturn, 1) := by decide +kernel
theorem dX0_askForVote_66 : decode cX0_askForVote 66 = .ok (.aload_n 0, 1) := by decide +kernel
theorem dX0_askForVote_67 : decode cX0_askForVote 67 = .ok (.getfield 18, 3) := by decide +kernel
theorem dX0_askForVote_70 : decode cX0_askForVote 70 = .ok (.iload_n 1, 1) := by decide +kernel
theorem dX0_askForVote_71 : decode cX0_askForVote 71 = .ok (.iaload, 1) := by decide +kernel
theorem dX0_askForVote_72 : decode cX0_askForVote 72 = .ok (.iconst (-1), 1) := by decide +kernel
theorem dX0_askForVote_73 : decode cX0_askForVote 73 = .ok (.if_icmp .ne 12, 3) := by decide +kernel
theorem dX0_askForVote_76 : decode cX0_askForVote 76 = .ok (.aload_n 0, 1) := by decide +kernel
theorem dX0_askForVote_77 : decode cX0_askForVote 77 = .ok (.iload_n 1, 1) := by decide +kernel
theorem dX0_askForVote_78 : decode cX0_askForVote 78 = .ok (.iload_n 2, 1) := by decide +kernel
theorem dX0_askForVote_79 : decode cX0_askForVote 79 = .ok (.invokevirtual 69, 3) := by decide +kernel
theorem dX0_askForVote_82 : decode cX0_askForVote 82 = .ok (.ifCond .eq 5, 3) := by decide +kernel
theorem dX0_askForVote_85 : decode cX0_askForVote 85 = .ok (.iconst 0, 1) := by decide +kernel
theorem dX0_askForVote_86 : decode cX0_askForVote 86 = .ok (.ireturn, 1) := by decide +kernel
theorem dX0_askForVote_87 : decode cX0_askForVote 87 = .ok (.aload_n 0, 1) := by decide +kernel
theorem dX0_askForVote_88 : decode cX0_askForVote 88 = .ok (.iload_n 1, 1) := by decide +kernel
theorem dX0_askForVote_89 : decode cX0_askForVote 89 = .ok (.iload_n 2, 1) := by decide +kernel
theorem dX0_askForVote_90 : decode cX0_askForVote 90 = .ok (.invokevirtual 73, 3) := by decide +kernel
theorem dX0_askForVote_93 : decode cX0_askForVote 93 = .ok (.iconst 1, 1) := by decide +kernel
theorem dX0_askForVote_94 : decode cX0_askForVote 94 = .ok (.ireturn, 1) := by decide +kernel
theorem dX0_giveVote_0 : decode cX0_giveVote 0 = .ok (.aload_n 0, 1) := by decide +kernel
theorem dX0_giveVote_1 : decode cX0_giveVote 1 = .ok (.getfield 18, 3) := by decide +kernel
theorem dX0_giveVote_4 : decode cX0_giveVote 4 = .ok (.iload_n 1, 1) := by decide +kernel
theorem dX0_giveVote_5 : decode cX0_giveVote 5 = .ok (.iload_n 2, 1) := by decide +kernel
theorem dX0_giveVote_6 : decode cX0_giveVote 6 = .ok (.iastore, 1) := by decide +kernel
theorem dX0_giveVote_7 : decode cX0_giveVote 7 = .ok (.aload_n 0, 1) := by decide +kernel
theorem dX0_giveVote_8 : decode cX0_giveVote 8 = .ok (.getfield 21, 3) := by decide +kernel
theorem dX0_giveVote_11 : decode cX0_giveVote 11 = .ok (.iload_n 2, 1) := by decide +kernel
theorem dX0_giveVote_12 : decode cX0_giveVote 12 = .ok (.dup2, 1) := by decide +kernel
theorem dX0_giveVote_13 : decode cX0_giveVote 13 = .ok (.iaload, 1) := by decide +kernel
theorem dX0_giveVote_14 : decode cX0_giveVote 14 = .ok (.iconst 1, 1) := by decide +kernel
theorem dX0_giveVote_15 : decode cX0_giveVote 15 = .ok (.iload_n 1, 1) := by decide +kernel
theorem dX0_giveVote_16 : decode cX0_giveVote 16 = .ok (.ishl, 1) := by decide +kernel
theorem dX0_giveVote_17 : decode cX0_giveVote 17 = .ok (.ior, 1) := by decide +kernel
theorem dX0_giveVote_18 : decode cX0_giveVote 18 = .ok (.iastore, 1) := by decide +kernel
theorem dX0_giveVote_19 : decode cX0_giveVote 19 = .ok (.aload_n 0, 1) := by decide +kernel
theorem dX0_giveVote_20 : decode cX0_giveVote 20 = .ok (.getfield 21, 3) := by decide +kernel
theorem dX0_giveVote_23 : decode cX0_giveVote 23 = .ok (.iload_n 2, 1) := by decide +kernel
theorem dX0_giveVote_24 : decode cX0_giveVote 24 = .ok (.iaload, 1) := by decide +kernel
theorem dX0_giveVote_25 : decode cX0_giveVote 25 = .ok (.invokestatic 76, 3) := by decide +kernel
theorem dX0_giveVote_28 : decode cX0_giveVote 28 = .ok (.iconst 3, 1) := by decide +kernel
theorem dX0_giveVote_29 : decode cX0_giveVote 29 = .ok (.if_icmp .lt 10, 3) := by decide +kernel
theorem dX0_giveVote_32 : decode cX0_giveVote 32 = .ok (.aload_n 0, 1) := by decide +kernel
theorem dX0_giveVote_33 : decode cX0_giveVote 33 = .ok (.getfield 15, 3) := by decide +kernel
theorem dX0_giveVote_36 : decode cX0_giveVote 36 = .ok (.iload_n 2, 1) := by decide +kernel
theorem dX0_giveVote_37 : decode cX0_giveVote 37 = .ok (.iconst 2, 1) := by decide +kernel
theorem dX0_giveVote_38 : decode cX0_giveVote 38 = .ok (.iastore, 1) := by decide +kernel
theorem dX0_giveVote_39 : decode cX0_giveVote 39 = .ok (.return_, 1) := by decide +kernel
theorem dX0_hasBetterLog_0 : decode cX0_hasBetterLog 0 = .ok (.aload_n 0, 1) := by decide +kernel
theorem dX0_hasBetterLog_1 : decode cX0_hasBetterLog 1 = .ok (.iload_n 1, 1) := by decide +kernel
theorem dX0_hasBetterLog_2 : decode cX0_hasBetterLog 2 = .ok (.invokevirtual 82, 3) := by decide +kernel
theorem dX0_hasBetterLog_5 : decode cX0_hasBetterLog 5 = .ok (.istore_n 3, 1) := by decide +kernel
theorem dX0_hasBetterLog_6 : decode cX0_hasBetterLog 6 = .ok (.aload_n 0, 1) := by decide +kernel
theorem dX0_hasBetterLog_7 : decode cX0_hasBetterLog 7 = .ok (.iload_n 2, 1) := by decide +kernel
theorem dX0_hasBetterLog_8 : decode cX0_hasBetterLog 8 = .ok (.invokevirtual 82, 3) := by decide +kernel
theorem dX0_hasBetterLog_11 : decode cX0_hasBetterLog 11 = .ok (.istore 4, 2) := by decide +kernel
theorem dX0_hasBetterLog_13 : decode cX0_hasBetterLog 13 = .ok (.iload_n 3, 1) := by decide +kernel
theorem dX0_hasBetterLog_14 : decode cX0_hasBetterLog 14 = .ok (.iload 4, 2) := by decide +kernel
theorem dX0_hasBetterLog_16 : decode cX0_hasBetterLog 16 = .ok (.if_icmp .gt 24, 3) := by decide +kernel
theorem dX0_hasBetterLog_19 : decode cX0_hasBetterLog 19 = .ok (.iload_n 3, 1) := by decide +kernel
theorem dX0_hasBetterLog_20 : decode cX0_hasBetterLog 20 = .ok (.iload 4, 2) := by decide +kernel
theorem dX0_hasBetterLog_22 : decode cX0_hasBetterLog 22 = .ok (.if_icmp .ne 22, 3) := by decide +kernel
theorem dX0_hasBetterLog_25 : decode cX0_hasBetterLog 25 = .ok (.aload_n 0, 1) := by decide +kernel
theorem dX0_hasBetterLog_26 : decode cX0_hasBetterLog 26 = .ok (.getfield 29, 3) := by decide +kernel
theorem dX0_hasBetterLog_29 : decode cX0_hasBetterLog 29 = .ok (.iload_n 1, 1) := by decide +kernel
theorem dX0_hasBetterLog_30 : decode cX0_hasBetterLog 30 = .ok (.iaload, 1) := by decide +kernel
theorem dX0_hasBetterLog_31 : decode cX0_hasBetterLog 31 = .ok (.aload_n 0, 1) := by decide +kernel
theorem dX0_hasBetterLog_32 : decode cX0_hasBetterLog 32 = .ok (.getfield 29, 3) := by decide +kernel
theorem dX0_hasBetterLog_35 : decode cX0_hasBetterLog 35 = .ok (.iload_n 2, 1) := by decide +kernel
theorem dX0_hasBetterLog_36 : decode cX0_hasBetterLog 36 = .ok (.iaload, 1) := by decide +kernel
theorem dX0_hasBetterLog_37 : decode cX0_hasBetterLog 37 = .ok (.if_icmp .le 7, 3) := by decide +kernel
theorem dX0_hasBetterLog_40 : decode cX0_hasBetterLog 40 = .ok (.iconst 1, 1) := by decide +kernel
theorem dX0_hasBetterLog_41 : decode cX0_hasBetterLog 41 = .ok (.goto 4, 3) := by decide +kernel
theorem dX0_hasBetterLog_44 : decode cX0_hasBetterLog 44 = .ok (.iconst 0, 1) := by decide +kernel
theorem dX0_hasBetterLog_45 : decode cX0_hasBetterLog 45 = .ok (.ireturn, 1) := by decide +kernel
theorem dX0_lastTerm_0 : decode cX0_lastTerm 0 = .ok (.aload_n 0, 1) := by decide +kernel
theorem dX0_lastTerm_1 : decode cX0_lastTerm 1 = .ok (.getfield 29, 3) := by decide +kernel
theorem dX0_lastTerm_4 : decode cX0_lastTerm 4 = .ok (.iload_n 1, 1) := by decide +kernel
theorem dX0_lastTerm_5 : decode cX0_lastTerm 5 = .ok (.iaload, 1) := by decide +kernel
theorem dX0_lastTerm_6 : decode cX0_lastTerm 6 = .ok (.ifCond .ne 7, 3) := by decide +kernel
theorem dX0_lastTerm_9 : decode cX0_lastTerm 9 = .ok (.iconst 0, 1) := by decide +kernel
theorem dX0_lastTerm_10 : decode cX0_lastTerm 10 = .ok (.goto 23, 3) := by decide +kernel
theorem dX0_lastTerm_13 : decode cX0_lastTerm 13 = .ok (.aload_n 0, 1) := by decide +kernel
theorem dX0_lastTerm_14 : decode cX0_lastTerm 14 = .ok (.getfield 32, 3) := by decide +kernel
theorem dX0_lastTerm_17 : decode cX0_lastTerm 17 = .ok (.aload_n 0, 1) := by decide +kernel
theorem dX0_lastTerm_18 : decode cX0_lastTerm 18 = .ok (.getfield 26, 3) := by decide +kernel
theorem dX0_lastTerm_21 : decode cX0_lastTerm 21 = .ok (.iload_n 1, 1) := by decide +kernel
theorem dX0_lastTerm_22 : decode cX0_lastTerm 22 = .ok (.aaload, 1) := by decide +kernel
theorem dX0_lastTerm_23 : decode cX0_lastTerm 23 = .ok (.aload_n 0, 1) := by decide +kernel
theorem dX0_lastTerm_24 : decode cX0_lastTerm 24 = .ok (.getfield 29, 3) := by decide +kernel
theorem dX0_lastTerm_27 : decode cX0_lastTerm 27 = .ok (.iload_n 1, 1) := by decide +kernel
theorem dX0_lastTerm_28 : decode cX0_lastTerm 28 = .ok (.iaload, 1) := by decide +kernel
theorem dX0_lastTerm_29 : decode cX0_lastTerm 29 = .ok (.iconst 1, 1) := by decide +kernel
theorem dX0_lastTerm_30 : decode cX0_lastTerm 30 = .ok (.isub, 1) := by decide +kernel
theorem dX0_lastTerm_31 : decode cX0_lastTerm 31 = .ok (.iaload, 1) := by decide +kernel
theorem dX0_lastTerm_32 : decode cX0_lastTerm 32 = .ok (.iaload, 1) := by decide +kernel
theorem dX0_lastTerm_33 : decode cX0_lastTerm 33 = .ok (.ireturn, 1) := by decide +kernel
theorem dX0_addVersion_0 : decode cX0_addVersion 0 = .ok (.aload_n 0, 1) := by decide +kernel
theorem dX0_addVersion_1 : decode cX0_addVersion 1 = .ok (.getfield 51, 3) := by decide +kernel
theorem dX0_addVersion_4 : decode cX0_addVersion 4 = .ok (.istore_n 2, 1) := by decide +kernel
theorem dX0_addVersion_5 : decode cX0_addVersion 5 = .ok (.aload_n 0, 1) := by decide +kernel
theorem dX0_addVersion_6 : decode cX0_addVersion 6 = .ok (.dup, 1) := by decide +kernel
theorem dX0_addVersion_7 : decode cX0_addVersion 7 = .ok (.getfield 51, 3) := by decide +kernel
theorem dX0_addVersion_10 : decode cX0_addVersion 10 = .ok (.iconst 1, 1) := by decide +kernel
theorem dX0_addVersion_11 : decode cX0_addVersion 11 = .ok (.iadd, 1) := by decide +kernel
theorem dX0_addVersion_12 : decode cX0_addVersion 12 = .ok (.putfield 51, 3) := by decide +kernel
theorem dX0_addVersion_15 : decode cX0_addVersion 15 = .ok (.aload_n 0, 1) := by decide +kernel
theorem dX0_addVersion_16 : decode cX0_addVersion 16 = .ok (.getfield 32, 3) := by decide +kernel
theorem dX0_addVersion_19 : decode cX0_addVersion 19 = .ok (.iload_n 2, 1) := by decide +kernel
theorem dX0_addVersion_20 : decode cX0_addVersion 20 = .ok (.aload_n 0, 1) := by decide +kernel
theorem dX0_addVersion_21 : decode cX0_addVersion 21 = .ok (.getfield 9, 3) := by decide +kernel
theorem dX0_addVersion_24 : decode cX0_addVersion 24 = .ok (.iload_n 1, 1) := by decide +kernel
theorem dX0_addVersion_25 : decode cX0_addVersion 25 = .ok (.iaload, 1) := by decide +kernel
theorem dX0_addVersion_26 : decode cX0_addVersion 26 = .ok (.iastore, 1) := by decide +kernel
theorem dX0_addVersion_27 : decode cX0_addVersion 27 = .ok (.aload_n 0, 1) := by decide +kernel
theorem dX0_addVersion_28 : decode cX0_addVersion 28 = .ok (.getfield 35, 3) := by decide +kernel
theorem dX0_addVersion_31 : decode cX0_addVersion 31 = .ok (.iload_n 2, 1) := by decide +kernel
theorem dX0_addVersion_32 : decode cX0_addVersion 32 = .ok (.iconst 0, 1) := by decide +kernel
theorem dX0_addVersion_33 : decode cX0_addVersion 33 = .ok (.iastore, 1) := by decide +kernel
theorem dX0_addVersion_34 : decode cX0_addVersion 34 = .ok (.aload_n 0, 1) := by decide +kernel
theorem dX0_addVersion_35 : decode cX0_addVersion 35 = .ok (.iload_n 1, 1) := by decide +kernel
theorem dX0_addVersion_36 : decode cX0_addVersion 36 = .ok (.iload_n 2, 1) := by decide +kernel
theorem dX0_addVersion_37 : decode cX0_addVersion 37 = .ok (.invokevirtual 85, 3) := by decide +kernel
theorem dX0_addVersion_40 : decode cX0_addVersion 40 = .ok (.iload_n 2, 1) := by decide +kernel
theorem dX0_addVersion_41 : decode cX0_addVersion 41 = .ok (.ireturn, 1) := by decide +kernel
theorem dX0_sendLog_0 : decode cX0_sendLog 0 = .ok (.aload_n 0, 1) := by decide +kernel
theorem dX0_sendLog_1 : decode cX0_sendLog 1 = .ok (.getfield 9, 3) := by decide +kernel
theorem dX0_sendLog_4 : decode cX0_sendLog 4 = .ok (.iload_n 2, 1) := by decide +kernel
theorem dX0_sendLog_5 : decode cX0_sendLog 5 = .ok (.iaload, 1) := by decide +kernel
theorem dX0_sendLog_6 : decode cX0_sendLog 6 = .ok (.aload_n 0, 1) := by decide +kernel
theorem dX0_sendLog_7 : decode cX0_sendLog 7 = .ok (.getfield 9, 3) := by decide +kernel
theorem dX0_sendLog_10 : decode cX0_sendLog 10 = .ok (.iload_n 1, 1) := by decide +kernel
theorem dX0_sendLog_11 : decode cX0_sendLog 11 = .ok (.iaload, 1) := by decide +kernel
theorem dX0_sendLog_12 : decode cX0_sendLog 12 = .ok (.if_icmp .le 16, 3) := by decide +kernel
theorem dX0_sendLog_15 : decode cX0_sendLog 15 = .ok (.aload_n 0, 1) := by decide +kernel
theorem dX0_sendLog_16 : decode cX0_sendLog 16 = .ok (.iload_n 1, 1) := by decide +kernel
theorem dX0_sendLog_17 : decode cX0_sendLog 17 = .ok (.aload_n 0, 1) := by decide +kernel
theorem dX0_sendLog_18 : decode cX0_sendLog 18 = .ok (.getfield 9, 3) := by decide +kernel
theorem dX0_sendLog_21 : decode cX0_sendLog 21 = .ok (.iload_n 2, 1) := by decide +kernel
theorem dX0_sendLog_22 : decode cX0_sendLog 22 = .ok (.iaload, 1) := by decide +kernel
theorem dX0_sendLog_23 : decode cX0_sendLog 23 = .ok (.invokevirtual 65, 3) := by decide +kernel
theorem dX0_sendLog_26 : decode cX0_sendLog 26 = .ok (.iconst (-1), 1) := by decide +kernel
theorem dX0_sendLog_27 : decode cX0_sendLog 27 = .ok (.ireturn, 1) := by decide +kernel
theorem dX0_sendLog_28 : decode cX0_sendLog 28 = .ok (.aload_n 0, 1) := by decide +kernel
theorem dX0_sendLog_29 : decode cX0_sendLog 29 = .ok (.getfield 9, 3) := by decide +kernel
theorem dX0_sendLog_32 : decode cX0_sendLog 32 = .ok (.iload_n 2, 1) := by decide +kernel
theorem dX0_sendLog_33 : decode cX0_sendLog 33 = .ok (.iaload, 1) := by decide +kernel
theorem dX0_sendLog_34 : decode cX0_sendLog 34 = .ok (.aload_n 0, 1) := by decide +kernel
theorem dX0_sendLog_35 : decode cX0_sendLog 35 = .ok (.getfield 9, 3) := by decide +kernel
theorem dX0_sendLog_38 : decode cX0_sendLog 38 = .ok (.iload_n 1, 1) := by decide +kernel
theorem dX0_sendLog_39 : decode cX0_sendLog 39 = .ok (.iaload, 1) := by decide +kernel
theorem dX0_sendLog_40 : decode cX0_sendLog 40 = .ok (.if_icmp .ge 17, 3) := by decide +kernel
theorem dX0_sendLog_43 : decode cX0_sendLog 43 = .ok (.aload_n 0, 1) := by decide +kernel
theorem dX0_sendLog_44 : decode cX0_sendLog 44 = .ok (.iload_n 2, 1) := by decide +kernel
theorem dX0_sendLog_45 : decode cX0_sendLog 45 = .ok (.aload_n 0, 1) := by decide +kernel
theorem dX0_sendLog_46 : decode cX0_sendLog 46 = .ok (.getfield 9, 3) := by decide +kernel
theorem dX0_sendLog_49 : decode cX0_sendLog 49 = .ok (.iload_n 1, 1) := by decide +kernel
theorem dX0_sendLog_50 : decode cX0_sendLog 50 = .ok (.iaload, 1) := by decide +kernel
theorem dX0_sendLog_51 : decode cX0_sendLog 51 = .ok (.invokevirtual 65, 3) := by decide +kernel
theorem dX0_sendLog_54 : decode cX0_sendLog 54 = .ok (.goto 20, 3) := by decide +kernel
theorem dX0_sendLog_57 : decode cX0_sendLog 57 = .ok (.aload_n 0, 1) := by decide +kernel
theorem dX0_sendLog_58 : decode cX0_sendLog 58 = .ok (.getfield 15, 3) := by decide +kernel
theorem dX0_sendLog_61 : decode cX0_sendLog 61 = .ok (.iload_n 2, 1) := by decide +kernel
theorem dX0_sendLog_62 : decode cX0_sendLog 62 = .ok (.iaload, 1) := by decide +kernel
theorem dX0_sendLog_63 : decode cX0_sendLog 63 = .ok (.iconst 1, 1) := by decide +kernel
theorem dX0_sendLog_64 : decode cX0_sendLog 64 = .ok (.if_icmp .ne 10, 3) := by decide +kernel
theorem dX0_sendLog_67 : decode cX0_sendLog 67 = .ok (.aload_n 0, 1) := by decide +kernel
theorem dX0_sendLog_68 : decode cX0_sendLog 68 = .ok (.getfield 15, 3) := by decide +kernel
theorem dX0_sendLog_71 : decode cX0_sendLog 71 = .ok (.iload_n 2, 1) := by decide +kernel
theorem dX0_sendLog_72 : decode cX0_sendLog 72 = .ok (.iconst 0, 1) := by decide +kernel
theorem dX0_sendLog_73 : decode cX0_sendLog 73 = .ok (.iastore, 1) := by decide +kernel
theorem dX0_sendLog_74 : decode cX0_sendLog 74 = .ok (.aload_n 0, 1) := by decide +kernel
theorem dX0_sendLog_75 : decode cX0_sendLog 75 = .ok (.iload_n 2, 1) := by decide +kernel
theorem dX0_sendLog_76 : decode cX0_sendLog 76 = .ok (.aload_n 0, 1) := by decide +kernel
theorem dX0_sendLog_77 : decode cX0_sendLog 77 = .ok (.iload_n 1, 1) := by decide +kernel
theorem dX0_sendLog_78 : decode cX0_sendLog 78 = .ok (.iload_n 2, 1) := by decide +kernel
theorem dX0_sendLog_79 : decode cX0_sendLog 79 = .ok (.invokevirtual 88, 3) := by decide +kernel
theorem dX0_sendLog_82 : decode cX0_sendLog 82 = .ok (.invokevirtual 92, 3) := by decide +kernel
theorem dX0_sendLog_85 : decode cX0_sendLog 85 = .ok (.aload_n 0, 1) := by decide +kernel
theorem dX0_sendLog_86 : decode cX0_sendLog 86 = .ok (.iload_n 1, 1) := by decide +kernel
theorem dX0_sendLog_87 : decode cX0_sendLog 87 = .ok (.iload_n 2, 1) := by decide +kernel
theorem dX0_sendLog_88 : decode cX0_sendLog 88 = .ok (.invokevirtual 95, 3) := by decide +kernel
theorem dX0_sendLog_91 : decode cX0_sendLog 91 = .ok (.ireturn, 1) := by decide +kernel
theorem dX0_commonLength_0 : decode cX0_commonLength 0 = .ok (.aload_n 0, 1) := by decide +kernel
theorem dX0_commonLength_1 : decode cX0_commonLength 1 = .ok (.getfield 29, 3) := by decide +kernel
theorem dX0_commonLength_4 : decode cX0_commonLength 4 = .ok (.iload_n 1, 1) := by decide +kernel
theorem dX0_commonLength_5 : decode cX0_commonLength 5 = .ok (.iaload, 1) := by decide +kernel
theorem dX0_commonLength_6 : decode cX0_commonLength 6 = .ok (.aload_n 0, 1) := by decide +kernel
theorem dX0_commonLength_7 : decode cX0_commonLength 7 = .ok (.getfield 29, 3) := by decide +kernel
theorem dX0_commonLength_10 : decode cX0_commonLength 10 = .ok (.iload_n 2, 1) := by decide +kernel
theorem dX0_commonLength_11 : decode cX0_commonLength 11 = .ok (.iaload, 1) := by decide +kernel
theorem dX0_commonLength_12 : decode cX0_commonLength 12 = .ok (.invokestatic 98, 3) := by decide +kernel
theorem dX0_commonLength_15 : decode cX0_commonLength 15 = .ok (.istore_n 3, 1) := by decide +kernel
theorem dX0_commonLength_16 : decode cX0_commonLength 16 = .ok (.iconst 0, 1) := by decide +kernel
theorem dX0_commonLength_17 : decode cX0_commonLength 17 = .ok (.istore 4, 2) := by decide +kernel
theorem dX0_commonLength_19 : decode cX0_commonLength 19 = .ok (.iload 4, 2) := by decide +kernel
theorem dX0_commonLength_21 : decode cX0_commonLength 21 = .ok (.iload_n 3, 1) := by decide +kernel
theorem dX0_commonLength_22 : decode cX0_commonLength 22 = .ok (.if_icmp .ge 33, 3) := by decide +kernel
theorem dX0_commonLength_25 : decode cX0_commonLength 25 = .ok (.aload_n 0, 1) := by decide +kernel
theorem dX0_commonLength_26 : decode cX0_commonLength 26 = .ok (.getfield 26, 3) := by decide +kernel
theorem dX0_commonLength_29 : decode cX0_commonLength 29 = .ok (.iload_n 1, 1) := by decide +kernel
theorem dX0_commonLength_30 : decode cX0_commonLength 30 = .ok (.aaload, 1) := by decide +kernel
theorem dX0_commonLength_31 : decode cX0_commonLength 31 = .ok (.iload 4, 2) := by decide +kernel
theorem dX0_commonLength_33 : decode cX0_commonLength 33 = .ok (.iaload, 1) := by decide +kernel
theorem dX0_commonLength_34 : decode cX0_commonLength 34 = .ok (.aload_n 0, 1) := by decide +kernel
theorem dX0_commonLength_35 : decode cX0_commonLength 35 = .ok (.getfield 26, 3) := by decide +kernel
theorem dX0_commonLength_38 : decode cX0_commonLength 38 = .ok (.iload_n 2, 1) := by decide +kernel
theorem dX0_commonLength_39 : decode cX0_commonLength 39 = .ok (.aaload, 1) := by decide +kernel
theorem dX0_commonLength_40 : decode cX0_commonLength 40 = .ok (.iload 4, 2) := by decide +kernel
theorem dX0_commonLength_42 : decode cX0_commonLength 42 = .ok (.iaload, 1) := by decide +kernel
theorem dX0_commonLength_43 : decode cX0_commonLength 43 = .ok (.if_icmp .eq 6, 3) := by decide +kernel
theorem dX0_commonLength_46 : decode cX0_commonLength 46 = .ok (.iload 4, 2) := by decide +kernel
theorem dX0_commonLength_48 : decode cX0_commonLength 48 = .ok (.ireturn, 1) := by decide +kernel
theorem dX0_commonLength_49 : decode cX0_commonLength 49 = .ok (.iinc 4 1, 3) := by decide +kernel
theorem dX0_commonLength_52 : decode cX0_commonLength 52 = .ok (.goto (-33), 3) := by decide +kernel
theorem dX0_commonLength_55 : decode cX0_commonLength 55 = .ok (.aload_n 0, 1) := by decide +kernel
theorem dX0_commonLength_56 : decode cX0_commonLength 56 = .ok (.getfield 29, 3) := by decide +kernel
theorem dX0_commonLength_59 : decode cX0_commonLength 59 = .ok (.iload_n 2, 1) := by decide +kernel
theorem dX0_commonLength_60 : decode cX0_commonLength 60 = .ok (.iaload, 1) := by decide +kernel
theorem dX0_commonLength_61 : decode cX0_commonLength 61 = .ok (.ireturn, 1) := by decide +kernel
theorem dX0_cutAt_0 : decode cX0_cutAt 0 = .ok (.iload_n 2, 1) := by decide +kernel
theorem dX0_cutAt_1 : decode cX0_cutAt 1 = .ok (.istore_n 3, 1) := by decide +kernel
theorem dX0_cutAt_2 : decode cX0_cutAt 2 = .ok (.iload_n 3, 1) := by decide +kernel
theorem dX0_cutAt_3 : decode cX0_cutAt 3 = .ok (.aload_n 0, 1) := by decide +kernel
theorem dX0_cutAt_4 : decode cX0_cutAt 4 = .ok (.getfield 29, 3) := by decide +kernel
theorem dX0_cutAt_7 : decode cX0_cutAt 7 = .ok (.iload_n 1, 1) := by decide +kernel
theorem dX0_cutAt_8 : decode cX0_cutAt 8 = .ok (.iaload, 1) := by decide +kernel
theorem dX0_cutAt_9 : decode cX0_cutAt 9 = .ok (.if_icmp .ge 40, 3) := by decide +kernel
theorem dX0_cutAt_12 : decode cX0_cutAt 12 = .ok (.aload_n 0, 1) := by decide +kernel
theorem dX0_cutAt_13 : decode cX0_cutAt 13 = .ok (.getfield 26, 3) := by decide +kernel
theorem dX0_cutAt_16 : decode cX0_cutAt 16 = .ok (.iload_n 1, 1) := by decide +kernel
theorem dX0_cutAt_17 : decode cX0_cutAt 17 = .ok (.aaload, 1) := by decide +kernel
theorem dX0_cutAt_18 : decode cX0_cutAt 18 = .ok (.iload_n 3, 1) := by decide +kernel
theorem dX0_cutAt_19 : decode cX0_cutAt 19 = .ok (.iaload, 1) := by decide +kernel
theorem dX0_cutAt_20 : decode cX0_cutAt 20 = .ok (.istore 4, 2) := by decide +kernel
theorem dX0_cutAt_22 : decode cX0_cutAt 22 = .ok (.aload_n 0, 1) := by decide +kernel
theorem dX0_cutAt_23 : decode cX0_cutAt 23 = .ok (.getfield 35, 3) := by decide +kernel
theorem dX0_cutAt_26 : decode cX0_cutAt 26 = .ok (.iload 4, 2) := by decide +kernel
theorem dX0_cutAt_28 : decode cX0_cutAt 28 = .ok (.dup2, 1) := by decide +kernel
theorem dX0_cutAt_29 : decode cX0_cutAt 29 = .ok (.iaload, 1) := by decide +kernel
theorem dX0_cutAt_30 : decode cX0_cutAt 30 = .ok (.iconst 1, 1) := by decide +kernel
theorem dX0_cutAt_31 : decode cX0_cutAt 31 = .ok (.iload_n 1, 1) := by decide +kernel
theorem dX0_cutAt_32 : decode cX0_cutAt 32 = .ok (.ishl, 1) := by decide +kernel
theorem dX0_cutAt_33 : decode cX0_cutAt 33 = .ok (.iconst (-1), 1) := by decide +kernel
theorem dX0_cutAt_34 : decode cX0_cutAt 34 = .ok (.ixor, 1) := by decide +kernel
theorem dX0_cutAt_35 : decode cX0_cutAt 35 = .ok (.iand, 1) := by decide +kernel
theorem dX0_cutAt_36 : decode cX0_cutAt 36 = .ok (.iastore, 1) := by decide +kernel
theorem dX0_cutAt_37 : decode cX0_cutAt 37 = .ok (.aload_n 0, 1) := by decide +kernel
theorem dX0_cutAt_38 : decode cX0_cutAt 38 = .ok (.iload 4, 2) := by decide +kernel
theorem dX0_cutAt_40 : decode cX0_cutAt 40 = .ok (.invokevirtual 103, 3) := by decide +kernel
theorem dX0_cutAt_43 : decode cX0_cutAt 43 = .ok (.iinc 3 1, 3) := by decide +kernel
theorem dX0_cutAt_46 : decode cX0_cutAt 46 = .ok (.goto (-44), 3) := by decide +kernel
theorem dX0_cutAt_49 : decode cX0_cutAt 49 = .ok (.aload_n 0, 1) := by decide +kernel
theorem dX0_cutAt_50 : decode cX0_cutAt 50 = .ok (.getfield 29, 3) := by decide +kernel
theorem dX0_cutAt_53 : decode cX0_cutAt 53 = .ok (.iload_n 1, 1) := by decide +kernel
theorem dX0_cutAt_54 : decode cX0_cutAt 54 = .ok (.iload_n 2, 1) := by decide +kernel
theorem dX0_cutAt_55 : decode cX0_cutAt 55 = .ok (.iastore, 1) := by decide +kernel
theorem dX0_cutAt_56 : decode cX0_cutAt 56 = .ok (.return_, 1) := by decide +kernel
theorem dX0_copyRest_0 : decode cX0_copyRest 0 = .ok (.iconst 0, 1) := by decide +kernel
theorem dX0_copyRest_1 : decode cX0_copyRest 1 = .ok (.istore_n 3, 1) := by decide +kernel
theorem dX0_copyRest_2 : decode cX0_copyRest 2 = .ok (.aload_n 0, 1) := by decide +kernel
theorem dX0_copyRest_3 : decode cX0_copyRest 3 = .ok (.getfield 29, 3) := by decide +kernel
theorem dX0_copyRest_6 : decode cX0_copyRest 6 = .ok (.iload_n 2, 1) := by decide +kernel
theorem dX0_copyRest_7 : decode cX0_copyRest 7 = .ok (.iaload, 1) := by decide +kernel
theorem dX0_copyRest_8 : decode cX0_copyRest 8 = .ok (.istore 4, 2) := by decide +kernel
theorem dX0_copyRest_10 : decode cX0_copyRest 10 = .ok (.iload 4, 2) := by decide +kernel
theorem dX0_copyRest_12 : decode cX0_copyRest 12 = .ok (.aload_n 0, 1) := by decide +kernel
theorem dX0_copyRest_13 : decode cX0_copyRest 13 = .ok (.getfield 29, 3) := by decide +kernel
theorem dX0_copyRest_16 : decode cX0_copyRest 16 = .ok (.iload_n 1, 1) := by decide +kernel
theorem dX0_copyRest_17 : decode cX0_copyRest 17 = .ok (.iaload, 1) := by decide +kernel
theorem dX0_copyRest_18 : decode cX0_copyRest 18 = .ok (.if_icmp .ge 26, 3) := by decide +kernel
theorem dX0_copyRest_21 : decode cX0_copyRest 21 = .ok (.aload_n 0, 1) := by decide +kernel
theorem dX0_copyRest_22 : decode cX0_copyRest 22 = .ok (.iload_n 2, 1) := by decide +kernel
theorem dX0_copyRest_23 : decode cX0_copyRest 23 = .ok (.aload_n 0, 1) := by decide +kernel
theorem dX0_copyRest_24 : decode cX0_copyRest 24 = .ok (.getfield 26, 3) := by decide +kernel
theorem dX0_copyRest_27 : decode cX0_copyRest 27 = .ok (.iload_n 1, 1) := by decide +kernel
theorem dX0_copyRest_28 : decode cX0_copyRest 28 = .ok (.aaload, 1) := by decide +kernel
theorem dX0_copyRest_29 : decode cX0_copyRest 29 = .ok (.iload 4, 2) := by decide +kernel
theorem dX0_copyRest_31 : decode cX0_copyRest 31 = .ok (.iaload, 1) := by decide +kernel
theorem dX0_copyRest_32 : decode cX0_copyRest 32 = .ok (.invokevirtual 85, 3) := by decide +kernel
theorem dX0_copyRest_35 : decode cX0_copyRest 35 = .ok (.iinc 3 1, 3) := by decide +kernel
theorem dX0_copyRest_38 : decode cX0_copyRest 38 = .ok (.iinc 4 1, 3) := by decide +kernel
theorem dX0_copyRest_41 : decode cX0_copyRest 41 = .ok (.goto (-31), 3) := by decide +kernel
theorem dX0_copyRest_44 : decode cX0_copyRest 44 = .ok (.iload_n 3, 1) := by decide +kernel
theorem dX0_copyRest_45 : decode cX0_copyRest 45 = .ok (.ireturn, 1) := by decide +kernel
theorem dX0_append_0 : decode cX0_append 0 = .ok (.aload_n 0, 1) := by decide +kernel
theorem dX0_append_1 : decode cX0_append 1 = .ok (.getfield 26, 3) := by decide +kernel
theorem dX0_append_4 : decode cX0_append 4 = .ok (.iload_n 1, 1) := by decide +kernel
theorem dX0_append_5 : decode cX0_append 5 = .ok (.aaload, 1) := by decide +kernel
theorem dX0_append_6 : decode cX0_append 6 = .ok (.aload_n 0, 1) := by decide +kernel
theorem dX0_append_7 : decode cX0_append 7 = .ok (.getfield 29, 3) := by decide +kernel
theorem dX0_append_10 : decode cX0_append 10 = .ok (.iload_n 1, 1) := by decide +kernel
theorem dX0_append_11 : decode cX0_append 11 = .ok (.iaload, 1) := by decide +kernel
theorem dX0_append_12 : decode cX0_append 12 = .ok (.iload_n 2, 1) := by decide +kernel
theorem dX0_append_13 : decode cX0_append 13 = .ok (.iastore, 1) := by decide +kernel
theorem dX0_append_14 : decode cX0_append 14 = .ok (.aload_n 0, 1) := by decide +kernel
theorem dX0_append_15 : decode cX0_append 15 = .ok (.getfield 29, 3) := by decide +kernel
theorem dX0_append_18 : decode cX0_append 18 = .ok (.iload_n 1, 1) := by decide +kernel
theorem dX0_append_19 : decode cX0_append 19 = .ok (.dup2, 1) := by decide +kernel
theorem dX0_append_20 : decode cX0_append 20 = .ok (.iaload, 1) := by decide +kernel
theorem dX0_append_21 : decode cX0_append 21 = .ok (.iconst 1, 1) := by decide +kernel
theorem dX0_append_22 : decode cX0_append 22 = .ok (.iadd, 1) := by decide +kernel
theorem dX0_append_23 : decode cX0_append 23 = .ok (.iastore, 1) := by decide +kernel
theorem dX0_append_24 : decode cX0_append 24 = .ok (.aload_n 0, 1) := by decide +kernel
theorem dX0_append_25 : decode cX0_append 25 = .ok (.getfield 35, 3) := by decide +kernel
theorem dX0_append_28 : decode cX0_append 28 = .ok (.iload_n 2, 1) := by decide +kernel
theorem dX0_append_29 : decode cX0_append 29 = .ok (.dup2, 1) := by decide +kernel
theorem dX0_append_30 : decode cX0_append 30 = .ok (.iaload, 1) := by decide +kernel
theorem dX0_append_31 : decode cX0_append 31 = .ok (.iconst 1, 1) := by decide +kernel
theorem dX0_append_32 : decode cX0_append 32 = .ok (.iload_n 1, 1) := by decide +kernel
theorem dX0_append_33 : decode cX0_append 33 = .ok (.ishl, 1) := by decide +kernel
theorem dX0_append_34 : decode cX0_append 34 = .ok (.ior, 1) := by decide +kernel
theorem dX0_append_35 : decode cX0_append 35 = .ok (.iastore, 1) := by decide +kernel
theorem dX0_append_36 : decode cX0_append 36 = .ok (.aload_n 0, 1) := by decide +kernel
theorem dX0_append_37 : decode cX0_append 37 = .ok (.iload_n 2, 1) := by decide +kernel
theorem dX0_append_38 : decode cX0_append 38 = .ok (.invokevirtual 103, 3) := by decide +kernel
theorem dX0_append_41 : decode cX0_append 41 = .ok (.return_, 1) := by decide +kernel
theorem dX0_judgeHeld_0 : decode cX0_judgeHeld 0 = .ok (.lconst 1, 1) := by decide +kernel
theorem dX0_judgeHeld_1 : decode cX0_judgeHeld 1 = .ok (.iload_n 1, 1) := by decide +kernel
theorem dX0_judgeHeld_2 : decode cX0_judgeHeld 2 = .ok (.lshl, 1) := by decide +kernel
theorem dX0_judgeHeld_3 : decode cX0_judgeHeld 3 = .ok (.lstore_n 2, 1) := by decide +kernel
theorem dX0_judgeHeld_4 : decode cX0_judgeHeld 4 = .ok (.aload_n 0, 1) := by decide +kernel
theorem dX0_judgeHeld_5 : decode cX0_judgeHeld 5 = .ok (.getfield 35, 3) := by decide +kernel
theorem dX0_judgeHeld_8 : decode cX0_judgeHeld 8 = .ok (.iload_n 1, 1) := by decide +kernel
theorem dX0_judgeHeld_9 : decode cX0_judgeHeld 9 = .ok (.iaload, 1) := by decide +kernel
theorem dX0_judgeHeld_10 : decode cX0_judgeHeld 10 = .ok (.invokestatic 76, 3) := by decide +kernel
theorem dX0_judgeHeld_13 : decode cX0_judgeHeld 13 = .ok (.iconst 3, 1) := by decide +kernel
theorem dX0_judgeHeld_14 : decode cX0_judgeHeld 14 = .ok (.if_icmp .lt 26, 3) := by decide +kernel
theorem dX0_judgeHeld_17 : decode cX0_judgeHeld 17 = .ok (.aload_n 0, 1) := by decide +kernel
theorem dX0_judgeHeld_18 : decode cX0_judgeHeld 18 = .ok (.dup, 1) := by decide +kernel
theorem dX0_judgeHeld_19 : decode cX0_judgeHeld 19 = .ok (.getfield 54, 3) := by decide +kernel
theorem dX0_judgeHeld_22 : decode cX0_judgeHeld 22 = .ok (.lload_n 2, 1) := by decide +kernel
theorem dX0_judgeHeld_23 : decode cX0_judgeHeld 23 = .ok (.lor, 1) := by decide +kernel
theorem dX0_judgeHeld_24 : decode cX0_judgeHeld 24 = .ok (.putfield 54, 3) := by decide +kernel
theorem dX0_judgeHeld_27 : decode cX0_judgeHeld 27 = .ok (.aload_n 0, 1) := by decide +kernel
theorem dX0_judgeHeld_28 : decode cX0_judgeHeld 28 = .ok (.dup, 1) := by decide +kernel
theorem dX0_judgeHeld_29 : decode cX0_judgeHeld 29 = .ok (.getfield 58, 3) := by decide +kernel
theorem dX0_judgeHeld_32 : decode cX0_judgeHeld 32 = .ok (.lload_n 2, 1) := by decide +kernel
theorem dX0_judgeHeld_33 : decode cX0_judgeHeld 33 = .ok (.lor, 1) := by decide +kernel
theorem dX0_judgeHeld_34 : decode cX0_judgeHeld 34 = .ok (.putfield 58, 3) := by decide +kernel
theorem dX0_judgeHeld_37 : decode cX0_judgeHeld 37 = .ok (.goto 17, 3) := by decide +kernel
theorem dX0_judgeHeld_40 : decode cX0_judgeHeld 40 = .ok (.aload_n 0, 1) := by decide +kernel
theorem dX0_judgeHeld_41 : decode cX0_judgeHeld 41 = .ok (.dup, 1) := by decide +kernel
theorem dX0_judgeHeld_42 : decode cX0_judgeHeld 42 = .ok (.getfield 54, 3) := by decide +kernel
theorem dX0_judgeHeld_45 : decode cX0_judgeHeld 45 = .ok (.lload_n 2, 1) := by decide +kernel
theorem dX0_judgeHeld_46 : decode cX0_judgeHeld 46 = .ok (.ldc2_w 107, 3) := by decide +kernel
theorem dX0_judgeHeld_49 : decode cX0_judgeHeld 49 = .ok (.lxor, 1) := by decide +kernel
theorem dX0_judgeHeld_50 : decode cX0_judgeHeld 50 = .ok (.land, 1) := by decide +kernel
theorem dX0_judgeHeld_51 : decode cX0_judgeHeld 51 = .ok (.putfield 54, 3) := by decide +kernel
theorem dX0_judgeHeld_54 : decode cX0_judgeHeld 54 = .ok (.return_, 1) := by decide +kernel
theorem dX1_init_0 : decode cX1_init 0 = .ok (.aload_n 0, 1) := by decide +kernel
theorem dX1_init_1 : decode cX1_init 1 = .ok (.invokespecial 3, 3) := by decide +kernel
theorem dX1_init_4 : decode cX1_init 4 = .ok (.aload_n 0, 1) := by decide +kernel
theorem dX1_init_5 : decode cX1_init 5 = .ok (.bipush 60, 2) := by decide +kernel
theorem dX1_init_7 : decode cX1_init 7 = .ok (.newarray .int, 2) := by decide +kernel
theorem dX1_init_9 : decode cX1_init 9 = .ok (.putfield 9, 3) := by decide +kernel
theorem dX1_init_12 : decode cX1_init 12 = .ok (.aload_n 0, 1) := by decide +kernel
theorem dX1_init_13 : decode cX1_init 13 = .ok (.bipush 60, 2) := by decide +kernel
theorem dX1_init_15 : decode cX1_init 15 = .ok (.newarray .int, 2) := by decide +kernel
theorem dX1_init_17 : decode cX1_init 17 = .ok (.putfield 15, 3) := by decide +kernel
theorem dX1_init_20 : decode cX1_init 20 = .ok (.aload_n 0, 1) := by decide +kernel
theorem dX1_init_21 : decode cX1_init 21 = .ok (.bipush 60, 2) := by decide +kernel
theorem dX1_init_23 : decode cX1_init 23 = .ok (.newarray .int, 2) := by decide +kernel
theorem dX1_init_25 : decode cX1_init 25 = .ok (.putfield 18, 3) := by decide +kernel
theorem dX1_init_28 : decode cX1_init 28 = .ok (.aload_n 0, 1) := by decide +kernel
theorem dX1_init_29 : decode cX1_init 29 = .ok (.bipush 60, 2) := by decide +kernel
theorem dX1_init_31 : decode cX1_init 31 = .ok (.newarray .int, 2) := by decide +kernel
theorem dX1_init_33 : decode cX1_init 33 = .ok (.putfield 21, 3) := by decide +kernel
theorem dX1_init_36 : decode cX1_init 36 = .ok (.return_, 1) := by decide +kernel
theorem dX1_add_0 : decode cX1_add 0 = .ok (.aload_n 0, 1) := by decide +kernel
theorem dX1_add_1 : decode cX1_add 1 = .ok (.getfield 9, 3) := by decide +kernel
theorem dX1_add_4 : decode cX1_add 4 = .ok (.aload_n 0, 1) := by decide +kernel
theorem dX1_add_5 : decode cX1_add 5 = .ok (.getfield 24, 3) := by decide +kernel
theorem dX1_add_8 : decode cX1_add 8 = .ok (.iload_n 1, 1) := by decide +kernel
theorem dX1_add_9 : decode cX1_add 9 = .ok (.iastore, 1) := by decide +kernel
theorem dX1_add_10 : decode cX1_add 10 = .ok (.aload_n 0, 1) := by decide +kernel
theorem dX1_add_11 : decode cX1_add 11 = .ok (.getfield 15, 3) := by decide +kernel
theorem dX1_add_14 : decode cX1_add 14 = .ok (.aload_n 0, 1) := by decide +kernel
theorem dX1_add_15 : decode cX1_add 15 = .ok (.getfield 24, 3) := by decide +kernel
theorem dX1_add_18 : decode cX1_add 18 = .ok (.iload_n 2, 1) := by decide +kernel
theorem dX1_add_19 : decode cX1_add 19 = .ok (.iastore, 1) := by decide +kernel
theorem dX1_add_20 : decode cX1_add 20 = .ok (.aload_n 0, 1) := by decide +kernel
theorem dX1_add_21 : decode cX1_add 21 = .ok (.getfield 18, 3) := by decide +kernel
theorem dX1_add_24 : decode cX1_add 24 = .ok (.aload_n 0, 1) := by decide +kernel
theorem dX1_add_25 : decode cX1_add 25 = .ok (.getfield 24, 3) := by decide +kernel
theorem dX1_add_28 : decode cX1_add 28 = .ok (.iload_n 3, 1) := by decide +kernel
theorem dX1_add_29 : decode cX1_add 29 = .ok (.iastore, 1) := by decide +kernel
theorem dX1_add_30 : decode cX1_add 30 = .ok (.aload_n 0, 1) := by decide +kernel
theorem dX1_add_31 : decode cX1_add 31 = .ok (.getfield 21, 3) := by decide +kernel
theorem dX1_add_34 : decode cX1_add 34 = .ok (.aload_n 0, 1) := by decide +kernel
theorem dX1_add_35 : decode cX1_add 35 = .ok (.getfield 24, 3) := by decide +kernel
theorem dX1_add_38 : decode cX1_add 38 = .ok (.iconst 0, 1) := by decide +kernel
theorem dX1_add_39 : decode cX1_add 39 = .ok (.iastore, 1) := by decide +kernel
theorem dX1_add_40 : decode cX1_add 40 = .ok (.aload_n 0, 1) := by decide +kernel
theorem dX1_add_41 : decode cX1_add 41 = .ok (.dup, 1) := by decide +kernel
theorem dX1_add_42 : decode cX1_add 42 = .ok (.getfield 24, 3) := by decide +kernel
theorem dX1_add_45 : decode cX1_add 45 = .ok (.iconst 1, 1) := by decide +kernel
theorem dX1_add_46 : decode cX1_add 46 = .ok (.iadd, 1) := by decide +kernel
theorem dX1_add_47 : decode cX1_add 47 = .ok (.putfield 24, 3) := by decide +kernel
theorem dX1_add_50 : decode cX1_add 50 = .ok (.return_, 1) := by decide +kernel
theorem dX2_init_0 : decode cX2_init 0 = .ok (.aload_n 0, 1) := by decide +kernel
theorem dX2_init_1 : decode cX2_init 1 = .ok (.invokespecial 3, 3) := by decide +kernel
theorem dX2_init_4 : decode cX2_init 4 = .ok (.aload_n 0, 1) := by decide +kernel
theorem dX2_init_5 : decode cX2_init 5 = .ok (.iconst 5, 1) := by decide +kernel
theorem dX2_init_6 : decode cX2_init 6 = .ok (.sipush 200, 3) := by decide +kernel
theorem dX2_init_9 : decode cX2_init 9 = .ok (.multianewarray 9 2, 4) := by decide +kernel
theorem dX2_init_13 : decode cX2_init 13 = .ok (.putfield 11, 3) := by decide +kernel
theorem dX2_init_16 : decode cX2_init 16 = .ok (.aload_n 0, 1) := by decide +kernel
theorem dX2_init_17 : decode cX2_init 17 = .ok (.iconst 5, 1) := by decide +kernel
theorem dX2_init_18 : decode cX2_init 18 = .ok (.newarray .int, 2) := by decide +kernel
theorem dX2_init_20 : decode cX2_init 20 = .ok (.putfield 16, 3) := by decide +kernel
theorem dX2_init_23 : decode cX2_init 23 = .ok (.return_, 1) := by decide +kernel
theorem dX2_bring_0 : decode cX2_bring 0 = .ok (.aload_n 0, 1) := by decide +kernel
theorem dX2_bring_1 : decode cX2_bring 1 = .ok (.getfield 16, 3) := by decide +kernel
theorem dX2_bring_4 : decode cX2_bring 4 = .ok (.iload_n 1, 1) := by decide +kernel
theorem dX2_bring_5 : decode cX2_bring 5 = .ok (.iaload, 1) := by decide +kernel
theorem dX2_bring_6 : decode cX2_bring 6 = .ok (.iload_n 3, 1) := by decide +kernel
theorem dX2_bring_7 : decode cX2_bring 7 = .ok (.iadd, 1) := by decide +kernel
theorem dX2_bring_8 : decode cX2_bring 8 = .ok (.istore 4, 2) := by decide +kernel
theorem dX2_bring_10 : decode cX2_bring 10 = .ok (.aload_n 0, 1) := by decide +kernel
theorem dX2_bring_11 : decode cX2_bring 11 = .ok (.getfield 16, 3) := by decide +kernel
theorem dX2_bring_14 : decode cX2_bring 14 = .ok (.iload_n 1, 1) := by decide +kernel
theorem dX2_bring_15 : decode cX2_bring 15 = .ok (.iaload, 1) := by decide +kernel
theorem dX2_bring_16 : decode cX2_bring 16 = .ok (.istore 5, 2) := by decide +kernel
theorem dX2_bring_18 : decode cX2_bring 18 = .ok (.iload 5, 2) := by decide +kernel
theorem dX2_bring_20 : decode cX2_bring 20 = .ok (.iload 4, 2) := by decide +kernel
theorem dX2_bring_22 : decode cX2_bring 22 = .ok (.if_icmp .ge 19, 3) := by decide +kernel
theorem dX2_bring_25 : decode cX2_bring 25 = .ok (.aload_n 0, 1) := by decide +kernel
theorem dX2_bring_26 : decode cX2_bring 26 = .ok (.getfield 11, 3) := by decide +kernel
theorem dX2_bring_29 : decode cX2_bring 29 = .ok (.iload_n 1, 1) := by decide +kernel
theorem dX2_bring_30 : decode cX2_bring 30 = .ok (.aaload, 1) := by decide +kernel
theorem dX2_bring_31 : decode cX2_bring 31 = .ok (.iload 5, 2) := by decide +kernel
theorem dX2_bring_33 : decode cX2_bring 33 = .ok (.iload_n 2, 1) := by decide +kernel
theorem dX2_bring_34 : decode cX2_bring 34 = .ok (.iastore, 1) := by decide +kernel
theorem dX2_bring_35 : decode cX2_bring 35 = .ok (.iinc 5 1, 3) := by decide +kernel
theorem dX2_bring_38 : decode cX2_bring 38 = .ok (.goto (-20), 3) := by decide +kernel
theorem dX2_bring_41 : decode cX2_bring 41 = .ok (.aload_n 0, 1) := by decide +kernel
theorem dX2_bring_42 : decode cX2_bring 42 = .ok (.getfield 16, 3) := by decide +kernel
theorem dX2_bring_45 : decode cX2_bring 45 = .ok (.iload_n 1, 1) := by decide +kernel
theorem dX2_bring_46 : decode cX2_bring 46 = .ok (.iload 4, 2) := by decide +kernel
theorem dX2_bring_48 : decode cX2_bring 48 = .ok (.iastore, 1) := by decide +kernel
theorem dX2_bring_49 : decode cX2_bring 49 = .ok (.return_, 1) := by decide +kernel
theorem dX2_takeFirst_0 : decode cX2_takeFirst 0 = .ok (.iconst 0, 1) := by decide +kernel
theorem dX2_takeFirst_1 : decode cX2_takeFirst 1 = .ok (.istore_n 3, 1) := by decide +kernel
theorem dX2_takeFirst_2 : decode cX2_takeFirst 2 = .ok (.iconst 0, 1) := by decide +kernel
theorem dX2_takeFirst_3 : decode cX2_takeFirst 3 = .ok (.istore 4, 2) := by decide +kernel
theorem dX2_takeFirst_5 : decode cX2_takeFirst 5 = .ok (.iload 4, 2) := by decide +kernel
theorem dX2_takeFirst_7 : decode cX2_takeFirst 7 = .ok (.iload_n 2, 1) := by decide +kernel
theorem dX2_takeFirst_8 : decode cX2_takeFirst 8 = .ok (.if_icmp .ge 23, 3) := by decide +kernel
theorem dX2_takeFirst_11 : decode cX2_takeFirst 11 = .ok (.iload_n 3, 1) := by decide +kernel
theorem dX2_takeFirst_12 : decode cX2_takeFirst 12 = .ok (.iconst 1, 1) := by decide +kernel
theorem dX2_takeFirst_13 : decode cX2_takeFirst 13 = .ok (.aload_n 0, 1) := by decide +kernel
theorem dX2_takeFirst_14 : decode cX2_takeFirst 14 = .ok (.getfield 11, 3) := by decide +kernel
theorem dX2_takeFirst_17 : decode cX2_takeFirst 17 = .ok (.iload_n 1, 1) := by decide +kernel
theorem dX2_takeFirst_18 : decode cX2_takeFirst 18 = .ok (.aaload, 1) := by decide +kernel
theorem dX2_takeFirst_19 : decode cX2_takeFirst 19 = .ok (.iload 4, 2) := by decide +kernel
theorem dX2_takeFirst_21 : decode cX2_takeFirst 21 = .ok (.iaload, 1) := by decide +kernel
theorem dX2_takeFirst_22 : decode cX2_takeFirst 22 = .ok (.ishl, 1) := by decide +kernel
theorem dX2_takeFirst_23 : decode cX2_takeFirst 23 = .ok (.ior, 1) := by decide +kernel
theorem dX2_takeFirst_24 : decode cX2_takeFirst 24 = .ok (.istore_n 3, 1) := by decide +kernel
theorem dX2_takeFirst_25 : decode cX2_takeFirst 25 = .ok (.iinc 4 1, 3) := by decide +kernel
theorem dX2_takeFirst_28 : decode cX2_takeFirst 28 = .ok (.goto (-23), 3) := by decide +kernel
theorem dX2_takeFirst_31 : decode cX2_takeFirst 31 = .ok (.iload_n 2, 1) := by decide +kernel
theorem dX2_takeFirst_32 : decode cX2_takeFirst 32 = .ok (.istore 4, 2) := by decide +kernel
theorem dX2_takeFirst_34 : decode cX2_takeFirst 34 = .ok (.iload 4, 2) := by decide +kernel
theorem dX2_takeFirst_36 : decode cX2_takeFirst 36 = .ok (.aload_n 0, 1) := by decide +kernel
theorem dX2_takeFirst_37 : decode cX2_takeFirst 37 = .ok (.getfield 16, 3) := by decide +kernel
theorem dX2_takeFirst_40 : decode cX2_takeFirst 40 = .ok (.iload_n 1, 1) := by decide +kernel
theorem dX2_takeFirst_41 : decode cX2_takeFirst 41 = .ok (.iaload, 1) := by decide +kernel
theorem dX2_takeFirst_42 : decode cX2_takeFirst 42 = .ok (.if_icmp .ge 29, 3) := by decide +kernel
theorem dX2_takeFirst_45 : decode cX2_takeFirst 45 = .ok (.aload_n 0, 1) := by decide +kernel
theorem dX2_takeFirst_46 : decode cX2_takeFirst 46 = .ok (.getfield 11, 3) := by decide +kernel
theorem dX2_takeFirst_49 : decode cX2_takeFirst 49 = .ok (.iload_n 1, 1) := by decide +kernel
theorem dX2_takeFirst_50 : decode cX2_takeFirst 50 = .ok (.aaload, 1) := by decide +kernel
theorem dX2_takeFirst_51 : decode cX2_takeFirst 51 = .ok (.iload 4, 2) := by decide +kernel
theorem dX2_takeFirst_53 : decode cX2_takeFirst 53 = .ok (.iload_n 2, 1) := by decide +kernel
theorem dX2_takeFirst_54 : decode cX2_takeFirst 54 = .ok (.isub, 1) := by decide +kernel
theorem dX2_takeFirst_55 : decode cX2_takeFirst 55 = .ok (.aload_n 0, 1) := by decide +kernel
theorem dX2_takeFirst_56 : decode cX2_takeFirst 56 = .ok (.getfield 11, 3) := by decide +kernel
theorem dX2_takeFirst_59 : decode cX2_takeFirst 59 = .ok (.iload_n 1, 1) := by decide +kernel
theorem dX2_takeFirst_60 : decode cX2_takeFirst 60 = .ok (.aaload, 1) := by decide +kernel
theorem dX2_takeFirst_61 : decode cX2_takeFirst 61 = .ok (.iload 4, 2) := by decide +kernel
theorem dX2_takeFirst_63 : decode cX2_takeFirst 63 = .ok (.iaload, 1) := by decide +kernel
theorem dX2_takeFirst_64 : decode cX2_takeFirst 64 = .ok (.iastore, 1) := by decide +kernel
theorem dX2_takeFirst_65 : decode cX2_takeFirst 65 = .ok (.iinc 4 1, 3) := by decide +kernel
theorem dX2_takeFirst_68 : decode cX2_takeFirst 68 = .ok (.goto (-34), 3) := by decide +kernel
theorem dX2_takeFirst_71 : decode cX2_takeFirst 71 = .ok (.aload_n 0, 1) := by decide +kernel
theorem dX2_takeFirst_72 : decode cX2_takeFirst 72 = .ok (.getfield 16, 3) := by decide +kernel
theorem dX2_takeFirst_75 : decode cX2_takeFirst 75 = .ok (.iload_n 1, 1) := by decide +kernel
theorem dX2_takeFirst_76 : decode cX2_takeFirst 76 = .ok (.dup2, 1) := by decide +kernel
theorem dX2_takeFirst_77 : decode cX2_takeFirst 77 = .ok (.iaload, 1) := by decide +kernel
theorem dX2_takeFirst_78 : decode cX2_takeFirst 78 = .ok (.iload_n 2, 1) := by decide +kernel
theorem dX2_takeFirst_79 : decode cX2_takeFirst 79 = .ok (.isub, 1) := by decide +kernel
theorem dX2_takeFirst_80 : decode cX2_takeFirst 80 = .ok (.iastore, 1) := by decide +kernel
theorem dX2_takeFirst_81 : decode cX2_takeFirst 81 = .ok (.iload_n 3, 1) := by decide +kernel
theorem dX2_takeFirst_82 : decode cX2_takeFirst 82 = .ok (.ireturn, 1) := by decide +kernel
theorem dX2_throwOut_0 : decode cX2_throwOut 0 = .ok (.aload_n 0, 1) := by decide +kernel
theorem dX2_throwOut_1 : decode cX2_throwOut 1 = .ok (.dup, 1) := by decide +kernel
theorem dX2_throwOut_2 : decode cX2_throwOut 2 = .ok (.getfield 20, 3) := by decide +kernel
theorem dX2_throwOut_5 : decode cX2_throwOut 5 = .ok (.iconst 1, 1) := by decide +kernel
theorem dX2_throwOut_6 : decode cX2_throwOut 6 = .ok (.iload_n 1, 1) := by decide +kernel
theorem dX2_throwOut_7 : decode cX2_throwOut 7 = .ok (.ishl, 1) := by decide +kernel
theorem dX2_throwOut_8 : decode cX2_throwOut 8 = .ok (.ior, 1) := by decide +kernel
theorem dX2_throwOut_9 : decode cX2_throwOut 9 = .ok (.putfield 20, 3) := by decide +kernel
theorem dX2_throwOut_12 : decode cX2_throwOut 12 = .ok (.iconst 0, 1) := by decide +kernel
theorem dX2_throwOut_13 : decode cX2_throwOut 13 = .ok (.istore_n 2, 1) := by decide +kernel
theorem dX2_throwOut_14 : decode cX2_throwOut 14 = .ok (.iload_n 2, 1) := by decide +kernel
theorem dX2_throwOut_15 : decode cX2_throwOut 15 = .ok (.iconst 5, 1) := by decide +kernel
theorem dX2_throwOut_16 : decode cX2_throwOut 16 = .ok (.if_icmp .ge 15, 3) := by decide +kernel
theorem dX2_throwOut_19 : decode cX2_throwOut 19 = .ok (.aload_n 0, 1) := by decide +kernel
theorem dX2_throwOut_20 : decode cX2_throwOut 20 = .ok (.iload_n 2, 1) := by decide +kernel
theorem dX2_throwOut_21 : decode cX2_throwOut 21 = .ok (.iload_n 1, 1) := by decide +kernel
theorem dX2_throwOut_22 : decode cX2_throwOut 22 = .ok (.invokevirtual 24, 3) := by decide +kernel
theorem dX2_throwOut_25 : decode cX2_throwOut 25 = .ok (.iinc 2 1, 3) := by decide +kernel
theorem dX2_throwOut_28 : decode cX2_throwOut 28 = .ok (.goto (-14), 3) := by decide +kernel
theorem dX2_throwOut_31 : decode cX2_throwOut 31 = .ok (.return_, 1) := by decide +kernel
theorem dX2_throwOutOf_0 : decode cX2_throwOutOf 0 = .ok (.iconst 0, 1) := by decide +kernel
theorem dX2_throwOutOf_1 : decode cX2_throwOutOf 1 = .ok (.istore_n 3, 1) := by decide +kernel
theorem dX2_throwOutOf_2 : decode cX2_throwOutOf 2 = .ok (.iconst 0, 1) := by decide +kernel
theorem dX2_throwOutOf_3 : decode cX2_throwOutOf 3 = .ok (.istore 4, 2) := by decide +kernel
theorem dX2_throwOutOf_5 : decode cX2_throwOutOf 5 = .ok (.iload 4, 2) := by decide +kernel
theorem dX2_throwOutOf_7 : decode cX2_throwOutOf 7 = .ok (.aload_n 0, 1) := by decide +kernel
theorem dX2_throwOutOf_8 : decode cX2_throwOutOf 8 = .ok (.getfield 16, 3) := by decide +kernel
theorem dX2_throwOutOf_11 : decode cX2_throwOutOf 11 = .ok (.iload_n 1, 1) := by decide +kernel
theorem dX2_throwOutOf_12 : decode cX2_throwOutOf 12 = .ok (.iaload, 1) := by decide +kernel
theorem dX2_throwOutOf_13 : decode cX2_throwOutOf 13 = .ok (.if_icmp .ge 42, 3) := by decide +kernel
theorem dX2_throwOutOf_16 : decode cX2_throwOutOf 16 = .ok (.aload_n 0, 1) := by decide +kernel
theorem dX2_throwOutOf_17 : decode cX2_throwOutOf 17 = .ok (.getfield 11, 3) := by decide +kernel
theorem dX2_throwOutOf_20 : decode cX2_throwOutOf 20 = .ok (.iload_n 1, 1) := by decide +kernel
theorem dX2_throwOutOf_21 : decode cX2_throwOutOf 21 = .ok (.aaload, 1) := by decide +kernel
theorem dX2_throwOutOf_22 : decode cX2_throwOutOf 22 = .ok (.iload 4, 2) := by decide +kernel
theorem dX2_throwOutOf_24 : decode cX2_throwOutOf 24 = .ok (.iaload, 1) := by decide +kernel
theorem dX2_throwOutOf_25 : decode cX2_throwOutOf 25 = .ok (.iload_n 2, 1) := by decide +kernel
theorem dX2_throwOutOf_26 : decode cX2_throwOutOf 26 = .ok (.if_icmp .eq 23, 3) := by decide +kernel
theorem dX2_throwOutOf_29 : decode cX2_throwOutOf 29 = .ok (.aload_n 0, 1) := by decide +kernel
theorem dX2_throwOutOf_30 : decode cX2_throwOutOf 30 = .ok (.getfield 11, 3) := by decide +kernel
theorem dX2_throwOutOf_33 : decode cX2_throwOutOf 33 = .ok (.iload_n 1, 1) := by decide +kernel
theorem dX2_throwOutOf_34 : decode cX2_throwOutOf 34 = .ok (.aaload, 1) := by decide +kernel
theorem dX2_throwOutOf_35 : decode cX2_throwOutOf 35 = .ok (.iload_n 3, 1) := by decide +kernel
theorem dX2_throwOutOf_36 : decode cX2_throwOutOf 36 = .ok (.aload_n 0, 1) := by decide +kernel
theorem dX2_throwOutOf_37 : decode cX2_throwOutOf 37 = .ok (.getfield 11, 3) := by decide +kernel
theorem dX2_throwOutOf_40 : decode cX2_throwOutOf 40 = .ok (.iload_n 1, 1) := by decide +kernel
theorem dX2_throwOutOf_41 : decode cX2_throwOutOf 41 = .ok (.aaload, 1) := by decide +kernel
theorem dX2_throwOutOf_42 : decode cX2_throwOutOf 42 = .ok (.iload 4, 2) := by decide +kernel
theorem dX2_throwOutOf_44 : decode cX2_throwOutOf 44 = .ok (.iaload, 1) := by decide +kernel
theorem dX2_throwOutOf_45 : decode cX2_throwOutOf 45 = .ok (.iastore, 1) := by decide +kernel
theorem dX2_throwOutOf_46 : decode cX2_throwOutOf 46 = .ok (.iinc 3 1, 3) := by decide +kernel
theorem dX2_throwOutOf_49 : decode cX2_throwOutOf 49 = .ok (.iinc 4 1, 3) := by decide +kernel
theorem dX2_throwOutOf_52 : decode cX2_throwOutOf 52 = .ok (.goto (-47), 3) := by decide +kernel
theorem dX2_throwOutOf_55 : decode cX2_throwOutOf 55 = .ok (.aload_n 0, 1) := by decide +kernel
theorem dX2_throwOutOf_56 : decode cX2_throwOutOf 56 = .ok (.getfield 16, 3) := by decide +kernel
theorem dX2_throwOutOf_59 : decode cX2_throwOutOf 59 = .ok (.iload_n 1, 1) := by decide +kernel
theorem dX2_throwOutOf_60 : decode cX2_throwOutOf 60 = .ok (.iload_n 3, 1) := by decide +kernel
theorem dX2_throwOutOf_61 : decode cX2_throwOutOf 61 = .ok (.iastore, 1) := by decide +kernel
theorem dX2_throwOutOf_62 : decode cX2_throwOutOf 62 = .ok (.return_, 1) := by decide +kernel
theorem dX3_init_0 : decode cX3_init 0 = .ok (.aload_n 0, 1) := by decide +kernel
theorem dX3_init_1 : decode cX3_init 1 = .ok (.invokespecial 3, 3) := by decide +kernel
theorem dX3_init_4 : decode cX3_init 4 = .ok (.aload_n 0, 1) := by decide +kernel
theorem dX3_init_5 : decode cX3_init 5 = .ok (.sipush 512, 3) := by decide +kernel
theorem dX3_init_8 : decode cX3_init 8 = .ok (.newarray .int, 2) := by decide +kernel
theorem dX3_init_10 : decode cX3_init 10 = .ok (.putfield 9, 3) := by decide +kernel
theorem dX3_init_13 : decode cX3_init 13 = .ok (.aload_n 0, 1) := by decide +kernel
theorem dX3_init_14 : decode cX3_init 14 = .ok (.sipush 512, 3) := by decide +kernel
theorem dX3_init_17 : decode cX3_init 17 = .ok (.newarray .int, 2) := by decide +kernel
theorem dX3_init_19 : decode cX3_init 19 = .ok (.putfield 15, 3) := by decide +kernel
theorem dX3_init_22 : decode cX3_init 22 = .ok (.aload_n 0, 1) := by decide +kernel
theorem dX3_init_23 : decode cX3_init 23 = .ok (.sipush 512, 3) := by decide +kernel
theorem dX3_init_26 : decode cX3_init 26 = .ok (.newarray .int, 2) := by decide +kernel
theorem dX3_init_28 : decode cX3_init 28 = .ok (.putfield 18, 3) := by decide +kernel
theorem dX3_init_31 : decode cX3_init 31 = .ok (.return_, 1) := by decide +kernel
theorem dX3_add_0 : decode cX3_add 0 = .ok (.aload_n 0, 1) := by decide +kernel
theorem dX3_add_1 : decode cX3_add 1 = .ok (.getfield 21, 3) := by decide +kernel
theorem dX3_add_4 : decode cX3_add 4 = .ok (.sipush 512, 3) := by decide +kernel
theorem dX3_add_7 : decode cX3_add 7 = .ok (.if_icmp .ge 43, 3) := by decide +kernel
theorem dX3_add_10 : decode cX3_add 10 = .ok (.aload_n 0, 1) := by decide +kernel
theorem dX3_add_11 : decode cX3_add 11 = .ok (.getfield 9, 3) := by decide +kernel
theorem dX3_add_14 : decode cX3_add 14 = .ok (.aload_n 0, 1) := by decide +kernel
theorem dX3_add_15 : decode cX3_add 15 = .ok (.getfield 21, 3) := by decide +kernel
theorem dX3_add_18 : decode cX3_add 18 = .ok (.iload_n 1, 1) := by decide +kernel
theorem dX3_add_19 : decode cX3_add 19 = .ok (.iastore, 1) := by decide +kernel
theorem dX3_add_20 : decode cX3_add 20 = .ok (.aload_n 0, 1) := by decide +kernel
theorem dX3_add_21 : decode cX3_add 21 = .ok (.getfield 15, 3) := by decide +kernel
theorem dX3_add_24 : decode cX3_add 24 = .ok (.aload_n 0, 1) := by decide +kernel
theorem dX3_add_25 : decode cX3_add 25 = .ok (.getfield 21, 3) := by decide +kernel
theorem dX3_add_28 : decode cX3_add 28 = .ok (.iload_n 2, 1) := by decide +kernel
theorem dX3_add_29 : decode cX3_add 29 = .ok (.iastore, 1) := by decide +kernel
theorem dX3_add_30 : decode cX3_add 30 = .ok (.aload_n 0, 1) := by decide +kernel
theorem dX3_add_31 : decode cX3_add 31 = .ok (.getfield 18, 3) := by decide +kernel
theorem dX3_add_34 : decode cX3_add 34 = .ok (.aload_n 0, 1) := by decide +kernel
theorem dX3_add_35 : decode cX3_add 35 = .ok (.getfield 21, 3) := by decide +kernel
theorem dX3_add_38 : decode cX3_add 38 = .ok (.iload_n 3, 1) := by decide +kernel
theorem dX3_add_39 : decode cX3_add 39 = .ok (.iastore, 1) := by decide +kernel
theorem dX3_add_40 : decode cX3_add 40 = .ok (.aload_n 0, 1) := by decide +kernel
theorem dX3_add_41 : decode cX3_add 41 = .ok (.dup, 1) := by decide +kernel
theorem dX3_add_42 : decode cX3_add 42 = .ok (.getfield 21, 3) := by decide +kernel
theorem dX3_add_45 : decode cX3_add 45 = .ok (.iconst 1, 1) := by decide +kernel
theorem dX3_add_46 : decode cX3_add 46 = .ok (.iadd, 1) := by decide +kernel
theorem dX3_add_47 : decode cX3_add 47 = .ok (.putfield 21, 3) := by decide +kernel
theorem dX3_add_50 : decode cX3_add 50 = .ok (.return_, 1) := by decide +kernel
theorem dX4_init_0 : decode cX4_init 0 = .ok (.aload_n 0, 1) := by decide +kernel
theorem dX4_init_1 : decode cX4_init 1 = .ok (.invokespecial 3, 3) := by decide +kernel
theorem dX4_init_4 : decode cX4_init 4 = .ok (.aload_n 0, 1) := by decide +kernel
theorem dX4_init_5 : decode cX4_init 5 = .ok (.iconst 5, 1) := by decide +kernel
theorem dX4_init_6 : decode cX4_init 6 = .ok (.bipush 51, 2) := by decide +kernel
theorem dX4_init_8 : decode cX4_init 8 = .ok (.multianewarray 9 2, 4) := by decide +kernel
theorem dX4_init_12 : decode cX4_init 12 = .ok (.putfield 11, 3) := by decide +kernel
theorem dX4_init_15 : decode cX4_init 15 = .ok (.aload_n 0, 1) := by decide +kernel
theorem dX4_init_16 : decode cX4_init 16 = .ok (.iconst 5, 1) := by decide +kernel
theorem dX4_init_17 : decode cX4_init 17 = .ok (.newarray .int, 2) := by decide +kernel
theorem dX4_init_19 : decode cX4_init 19 = .ok (.putfield 16, 3) := by decide +kernel
theorem dX4_init_22 : decode cX4_init 22 = .ok (.iconst 0, 1) := by decide +kernel
theorem dX4_init_23 : decode cX4_init 23 = .ok (.istore_n 1, 1) := by decide +kernel
theorem dX4_init_24 : decode cX4_init 24 = .ok (.iload_n 1, 1) := by decide +kernel
theorem dX4_init_25 : decode cX4_init 25 = .ok (.iconst 5, 1) := by decide +kernel
theorem dX4_init_26 : decode cX4_init 26 = .ok (.if_icmp .ge 19, 3) := by decide +kernel
theorem dX4_init_29 : decode cX4_init 29 = .ok (.aload_n 0, 1) := by decide +kernel
theorem dX4_init_30 : decode cX4_init 30 = .ok (.getfield 11, 3) := by decide +kernel
theorem dX4_init_33 : decode cX4_init 33 = .ok (.iload_n 1, 1) := by decide +kernel
theorem dX4_init_34 : decode cX4_init 34 = .ok (.aaload, 1) := by decide +kernel
theorem dX4_init_35 : decode cX4_init 35 = .ok (.iconst (-1), 1) := by decide +kernel
theorem dX4_init_36 : decode cX4_init 36 = .ok (.invokestatic 20, 3) := by decide +kernel
theorem dX4_init_39 : decode cX4_init 39 = .ok (.iinc 1 1, 3) := by decide +kernel
theorem dX4_init_42 : decode cX4_init 42 = .ok (.goto (-18), 3) := by decide +kernel
theorem dX4_init_45 : decode cX4_init 45 = .ok (.return_, 1) := by decide +kernel
theorem dX4_slotAt_0 : decode cX4_slotAt 0 = .ok (.aload_n 0, 1) := by decide +kernel
theorem dX4_slotAt_1 : decode cX4_slotAt 1 = .ok (.getfield 11, 3) := by decide +kernel
theorem dX4_slotAt_4 : decode cX4_slotAt 4 = .ok (.iload_n 1, 1) := by decide +kernel
theorem dX4_slotAt_5 : decode cX4_slotAt 5 = .ok (.aaload, 1) := by decide +kernel
theorem dX4_slotAt_6 : decode cX4_slotAt 6 = .ok (.iload_n 2, 1) := by decide +kernel
theorem dX4_slotAt_7 : decode cX4_slotAt 7 = .ok (.bipush 51, 2) := by decide +kernel
theorem dX4_slotAt_9 : decode cX4_slotAt 9 = .ok (.irem, 1) := by decide +kernel
theorem dX4_slotAt_10 : decode cX4_slotAt 10 = .ok (.iaload, 1) := by decide +kernel
theorem dX4_slotAt_11 : decode cX4_slotAt 11 = .ok (.ireturn, 1) := by decide +kernel
theorem dX4_setSlot_0 : decode cX4_setSlot 0 = .ok (.aload_n 0, 1) := by decide +kernel
theorem dX4_setSlot_1 : decode cX4_setSlot 1 = .ok (.getfield 11, 3) := by decide +kernel
theorem dX4_setSlot_4 : decode cX4_setSlot 4 = .ok (.iload_n 1, 1) := by decide +kernel
theorem dX4_setSlot_5 : decode cX4_setSlot 5 = .ok (.aaload, 1) := by decide +kernel
theorem dX4_setSlot_6 : decode cX4_setSlot 6 = .ok (.iload_n 2, 1) := by decide +kernel
theorem dX4_setSlot_7 : decode cX4_setSlot 7 = .ok (.bipush 51, 2) := by decide +kernel
theorem dX4_setSlot_9 : decode cX4_setSlot 9 = .ok (.irem, 1) := by decide +kernel
theorem dX4_setSlot_10 : decode cX4_setSlot 10 = .ok (.iload_n 3, 1) := by decide +kernel
theorem dX4_setSlot_11 : decode cX4_setSlot 11 = .ok (.iastore, 1) := by decide +kernel
theorem dX4_setSlot_12 : decode cX4_setSlot 12 = .ok (.return_, 1) := by decide +kernel
theorem dX5_init_0 : decode cX5_init 0 = .ok (.aload_n 0, 1) := by decide +kernel
theorem dX5_init_1 : decode cX5_init 1 = .ok (.invokespecial 3, 3) := by decide +kernel
theorem dX5_init_4 : decode cX5_init 4 = .ok (.aload_n 0, 1) := by decide +kernel
theorem dX5_init_5 : decode cX5_init 5 = .ok (.sipush 512, 3) := by decide +kernel
theorem dX5_init_8 : decode cX5_init 8 = .ok (.newarray .int, 2) := by decide +kernel
theorem dX5_init_10 : decode cX5_init 10 = .ok (.putfield 9, 3) := by decide +kernel
theorem dX5_init_13 : decode cX5_init 13 = .ok (.aload_n 0, 1) := by decide +kernel
theorem dX5_init_14 : decode cX5_init 14 = .ok (.sipush 512, 3) := by decide +kernel
theorem dX5_init_17 : decode cX5_init 17 = .ok (.newarray .int, 2) := by decide +kernel
theorem dX5_init_19 : decode cX5_init 19 = .ok (.putfield 15, 3) := by decide +kernel
theorem dX5_init_22 : decode cX5_init 22 = .ok (.aload_n 0, 1) := by decide +kernel
theorem dX5_init_23 : decode cX5_init 23 = .ok (.sipush 512, 3) := by decide +kernel
theorem dX5_init_26 : decode cX5_init 26 = .ok (.newarray .int, 2) := by decide +kernel
theorem dX5_init_28 : decode cX5_init 28 = .ok (.putfield 18, 3) := by decide +kernel
theorem dX5_init_31 : decode cX5_init 31 = .ok (.return_, 1) := by decide +kernel
theorem dX5_write_0 : decode cX5_write 0 = .ok (.aload_n 0, 1) := by decide +kernel
theorem dX5_write_1 : decode cX5_write 1 = .ok (.getfield 21, 3) := by decide +kernel
theorem dX5_write_4 : decode cX5_write 4 = .ok (.sipush 512, 3) := by decide +kernel
theorem dX5_write_7 : decode cX5_write 7 = .ok (.if_icmp .ge 43, 3) := by decide +kernel
theorem dX5_write_10 : decode cX5_write 10 = .ok (.aload_n 0, 1) := by decide +kernel
theorem dX5_write_11 : decode cX5_write 11 = .ok (.getfield 9, 3) := by decide +kernel
theorem dX5_write_14 : decode cX5_write 14 = .ok (.aload_n 0, 1) := by decide +kernel
theorem dX5_write_15 : decode cX5_write 15 = .ok (.getfield 21, 3) := by decide +kernel
theorem dX5_write_18 : decode cX5_write 18 = .ok (.iload_n 1, 1) := by decide +kernel
theorem dX5_write_19 : decode cX5_write 19 = .ok (.iastore, 1) := by decide +kernel
theorem dX5_write_20 : decode cX5_write 20 = .ok (.aload_n 0, 1) := by decide +kernel
theorem dX5_write_21 : decode cX5_write 21 = .ok (.getfield 15, 3) := by decide +kernel
theorem dX5_write_24 : decode cX5_write 24 = .ok (.aload_n 0, 1) := by decide +kernel
theorem dX5_write_25 : decode cX5_write 25 = .ok (.getfield 21, 3) := by decide +kernel
theorem dX5_write_28 : decode cX5_write 28 = .ok (.iload_n 2, 1) := by decide +kernel
theorem dX5_write_29 : decode cX5_write 29 = .ok (.iastore, 1) := by decide +kernel
theorem dX5_write_30 : decode cX5_write 30 = .ok (.aload_n 0, 1) := by decide +kernel
theorem dX5_write_31 : decode cX5_write 31 = .ok (.getfield 18, 3) := by decide +kernel
theorem dX5_write_34 : decode cX5_write 34 = .ok (.aload_n 0, 1) := by decide +kernel
theorem dX5_write_35 : decode cX5_write 35 = .ok (.getfield 21, 3) := by decide +kernel
theorem dX5_write_38 : decode cX5_write 38 = .ok (.iload_n 3, 1) := by decide +kernel
theorem dX5_write_39 : decode cX5_write 39 = .ok (.iastore, 1) := by decide +kernel
theorem dX5_write_40 : decode cX5_write 40 = .ok (.aload_n 0, 1) := by decide +kernel
theorem dX5_write_41 : decode cX5_write 41 = .ok (.dup, 1) := by decide +kernel
theorem dX5_write_42 : decode cX5_write 42 = .ok (.getfield 21, 3) := by decide +kernel
theorem dX5_write_45 : decode cX5_write 45 = .ok (.iconst 1, 1) := by decide +kernel
theorem dX5_write_46 : decode cX5_write 46 = .ok (.iadd, 1) := by decide +kernel
theorem dX5_write_47 : decode cX5_write 47 = .ok (.putfield 21, 3) := by decide +kernel
theorem dX5_write_50 : decode cX5_write 50 = .ok (.return_, 1) := by decide +kernel
theorem dX6_init_0 : decode cX6_init 0 = .ok (.aload_n 0, 1) := by decide +kernel
theorem dX6_init_1 : decode cX6_init 1 = .ok (.invokespecial 3, 3) := by decide +kernel
theorem dX6_init_4 : decode cX6_init 4 = .ok (.aload_n 0, 1) := by decide +kernel
theorem dX6_init_5 : decode cX6_init 5 = .ok (.bipush 60, 2) := by decide +kernel
theorem dX6_init_7 : decode cX6_init 7 = .ok (.newarray .int, 2) := by decide +kernel
theorem dX6_init_9 : decode cX6_init 9 = .ok (.putfield 9, 3) := by decide +kernel
theorem dX6_init_12 : decode cX6_init 12 = .ok (.aload_n 0, 1) := by decide +kernel
theorem dX6_init_13 : decode cX6_init 13 = .ok (.bipush 60, 2) := by decide +kernel
theorem dX6_init_15 : decode cX6_init 15 = .ok (.newarray .int, 2) := by decide +kernel
theorem dX6_init_17 : decode cX6_init 17 = .ok (.putfield 15, 3) := by decide +kernel
theorem dX6_init_20 : decode cX6_init 20 = .ok (.aload_n 0, 1) := by decide +kernel
theorem dX6_init_21 : decode cX6_init 21 = .ok (.bipush 60, 2) := by decide +kernel
theorem dX6_init_23 : decode cX6_init 23 = .ok (.newarray .int, 2) := by decide +kernel
theorem dX6_init_25 : decode cX6_init 25 = .ok (.putfield 18, 3) := by decide +kernel
theorem dX6_init_28 : decode cX6_init 28 = .ok (.return_, 1) := by decide +kernel
theorem dX6_note_0 : decode cX6_note 0 = .ok (.aload_n 0, 1) := by decide +kernel
theorem dX6_note_1 : decode cX6_note 1 = .ok (.getfield 9, 3) := by decide +kernel
theorem dX6_note_4 : decode cX6_note 4 = .ok (.iload_n 1, 1) := by decide +kernel
theorem dX6_note_5 : decode cX6_note 5 = .ok (.iload_n 2, 1) := by decide +kernel
theorem dX6_note_6 : decode cX6_note 6 = .ok (.iastore, 1) := by decide +kernel
theorem dX6_note_7 : decode cX6_note 7 = .ok (.aload_n 0, 1) := by decide +kernel
theorem dX6_note_8 : decode cX6_note 8 = .ok (.getfield 15, 3) := by decide +kernel
theorem dX6_note_11 : decode cX6_note 11 = .ok (.iload_n 1, 1) := by decide +kernel
theorem dX6_note_12 : decode cX6_note 12 = .ok (.iload_n 3, 1) := by decide +kernel
theorem dX6_note_13 : decode cX6_note 13 = .ok (.iastore, 1) := by decide +kernel
theorem dX6_note_14 : decode cX6_note 14 = .ok (.aload_n 0, 1) := by decide +kernel
theorem dX6_note_15 : decode cX6_note 15 = .ok (.getfield 18, 3) := by decide +kernel
theorem dX6_note_18 : decode cX6_note 18 = .ok (.iload_n 1, 1) := by decide +kernel
theorem dX6_note_19 : decode cX6_note 19 = .ok (.iload 4, 2) := by decide +kernel
theorem dX6_note_21 : decode cX6_note 21 = .ok (.iastore, 1) := by decide +kernel
theorem dX6_note_22 : decode cX6_note 22 = .ok (.return_, 1) := by decide +kernel
theorem dJ6_bitCount_0f7a4_0 : decode cJ6_bitCount_0f7a4 0 = .ok (.iload_n 0, 1) := by decide +kernel
theorem dJ6_bitCount_0f7a4_1 : decode cJ6_bitCount_0f7a4 1 = .ok (.iload_n 0, 1) := by decide +kernel
theorem dJ6_bitCount_0f7a4_2 : decode cJ6_bitCount_0f7a4 2 = .ok (.iconst 1, 1) := by decide +kernel
theorem dJ6_bitCount_0f7a4_3 : decode cJ6_bitCount_0f7a4 3 = .ok (.iushr, 1) := by decide +kernel
theorem dJ6_bitCount_0f7a4_4 : decode cJ6_bitCount_0f7a4 4 = .ok (.ldc_w 265, 3) := by decide +kernel
theorem dJ6_bitCount_0f7a4_7 : decode cJ6_bitCount_0f7a4 7 = .ok (.iand, 1) := by decide +kernel
theorem dJ6_bitCount_0f7a4_8 : decode cJ6_bitCount_0f7a4 8 = .ok (.isub, 1) := by decide +kernel
theorem dJ6_bitCount_0f7a4_9 : decode cJ6_bitCount_0f7a4 9 = .ok (.istore_n 0, 1) := by decide +kernel
theorem dJ6_bitCount_0f7a4_10 : decode cJ6_bitCount_0f7a4 10 = .ok (.iload_n 0, 1) := by decide +kernel
theorem dJ6_bitCount_0f7a4_11 : decode cJ6_bitCount_0f7a4 11 = .ok (.ldc_w 266, 3) := by decide +kernel
theorem dJ6_bitCount_0f7a4_14 : decode cJ6_bitCount_0f7a4 14 = .ok (.iand, 1) := by decide +kernel
theorem dJ6_bitCount_0f7a4_15 : decode cJ6_bitCount_0f7a4 15 = .ok (.iload_n 0, 1) := by decide +kernel
theorem dJ6_bitCount_0f7a4_16 : decode cJ6_bitCount_0f7a4 16 = .ok (.iconst 2, 1) := by decide +kernel
theorem dJ6_bitCount_0f7a4_17 : decode cJ6_bitCount_0f7a4 17 = .ok (.iushr, 1) := by decide +kernel
theorem dJ6_bitCount_0f7a4_18 : decode cJ6_bitCount_0f7a4 18 = .ok (.ldc_w 266, 3) := by decide +kernel
theorem dJ6_bitCount_0f7a4_21 : decode cJ6_bitCount_0f7a4 21 = .ok (.iand, 1) := by decide +kernel
theorem dJ6_bitCount_0f7a4_22 : decode cJ6_bitCount_0f7a4 22 = .ok (.iadd, 1) := by decide +kernel
theorem dJ6_bitCount_0f7a4_23 : decode cJ6_bitCount_0f7a4 23 = .ok (.istore_n 0, 1) := by decide +kernel
theorem dJ6_bitCount_0f7a4_24 : decode cJ6_bitCount_0f7a4 24 = .ok (.iload_n 0, 1) := by decide +kernel
theorem dJ6_bitCount_0f7a4_25 : decode cJ6_bitCount_0f7a4 25 = .ok (.iload_n 0, 1) := by decide +kernel
theorem dJ6_bitCount_0f7a4_26 : decode cJ6_bitCount_0f7a4 26 = .ok (.iconst 4, 1) := by decide +kernel
theorem dJ6_bitCount_0f7a4_27 : decode cJ6_bitCount_0f7a4 27 = .ok (.iushr, 1) := by decide +kernel
theorem dJ6_bitCount_0f7a4_28 : decode cJ6_bitCount_0f7a4 28 = .ok (.iadd, 1) := by decide +kernel
theorem dJ6_bitCount_0f7a4_29 : decode cJ6_bitCount_0f7a4 29 = .ok (.ldc_w 267, 3) := by decide +kernel
theorem dJ6_bitCount_0f7a4_32 : decode cJ6_bitCount_0f7a4 32 = .ok (.iand, 1) := by decide +kernel
theorem dJ6_bitCount_0f7a4_33 : decode cJ6_bitCount_0f7a4 33 = .ok (.istore_n 0, 1) := by decide +kernel
theorem dJ6_bitCount_0f7a4_34 : decode cJ6_bitCount_0f7a4 34 = .ok (.iload_n 0, 1) := by decide +kernel
theorem dJ6_bitCount_0f7a4_35 : decode cJ6_bitCount_0f7a4 35 = .ok (.iload_n 0, 1) := by decide +kernel
theorem dJ6_bitCount_0f7a4_36 : decode cJ6_bitCount_0f7a4 36 = .ok (.bipush 8, 2) := by decide +kernel
theorem dJ6_bitCount_0f7a4_38 : decode cJ6_bitCount_0f7a4 38 = .ok (.iushr, 1) := by decide +kernel
theorem dJ6_bitCount_0f7a4_39 : decode cJ6_bitCount_0f7a4 39 = .ok (.iadd, 1) := by decide +kernel
theorem dJ6_bitCount_0f7a4_40 : decode cJ6_bitCount_0f7a4 40 = .ok (.istore_n 0, 1) := by decide +kernel
theorem dJ6_bitCount_0f7a4_41 : decode cJ6_bitCount_0f7a4 41 = .ok (.iload_n 0, 1) := by decide +kernel
theorem dJ6_bitCount_0f7a4_42 : decode cJ6_bitCount_0f7a4 42 = .ok (.iload_n 0, 1) := by decide +kernel
theorem dJ6_bitCount_0f7a4_43 : decode cJ6_bitCount_0f7a4 43 = .ok (.bipush 16, 2) := by decide +kernel
theorem dJ6_bitCount_0f7a4_45 : decode cJ6_bitCount_0f7a4 45 = .ok (.iushr, 1) := by decide +kernel
theorem dJ6_bitCount_0f7a4_46 : decode cJ6_bitCount_0f7a4 46 = .ok (.iadd, 1) := by decide +kernel
theorem dJ6_bitCount_0f7a4_47 : decode cJ6_bitCount_0f7a4 47 = .ok (.istore_n 0, 1) := by decide +kernel
theorem dJ6_bitCount_0f7a4_48 : decode cJ6_bitCount_0f7a4 48 = .ok (.iload_n 0, 1) := by decide +kernel
theorem dJ6_bitCount_0f7a4_49 : decode cJ6_bitCount_0f7a4 49 = .ok (.bipush 63, 2) := by decide +kernel
theorem dJ6_bitCount_0f7a4_51 : decode cJ6_bitCount_0f7a4 51 = .ok (.iand, 1) := by decide +kernel
theorem dJ6_bitCount_0f7a4_52 : decode cJ6_bitCount_0f7a4 52 = .ok (.ireturn, 1) := by decide +kernel
theorem dJ9_min_7cf53_0 : decode cJ9_min_7cf53 0 = .ok (.iload_n 0, 1) := by decide +kernel
theorem dJ9_min_7cf53_1 : decode cJ9_min_7cf53 1 = .ok (.iload_n 1, 1) := by decide +kernel
theorem dJ9_min_7cf53_2 : decode cJ9_min_7cf53 2 = .ok (.if_icmp .gt 7, 3) := by decide +kernel
theorem dJ9_min_7cf53_5 : decode cJ9_min_7cf53 5 = .ok (.iload_n 0, 1) := by decide +kernel
theorem dJ9_min_7cf53_6 : decode cJ9_min_7cf53 6 = .ok (.goto 4, 3) := by decide +kernel
theorem dJ9_min_7cf53_9 : decode cJ9_min_7cf53 9 = .ok (.iload_n 1, 1) := by decide +kernel
theorem dJ9_min_7cf53_10 : decode cJ9_min_7cf53 10 = .ok (.ireturn, 1) := by decide +kernel
theorem dJ7_fill_53178_0 : decode cJ7_fill_53178 0 = .ok (.iconst 0, 1) := by decide +kernel
theorem dJ7_fill_53178_1 : decode cJ7_fill_53178 1 = .ok (.istore_n 2, 1) := by decide +kernel
theorem dJ7_fill_53178_2 : decode cJ7_fill_53178 2 = .ok (.aload_n 0, 1) := by decide +kernel
theorem dJ7_fill_53178_3 : decode cJ7_fill_53178 3 = .ok (.arraylength, 1) := by decide +kernel
theorem dJ7_fill_53178_4 : decode cJ7_fill_53178 4 = .ok (.istore_n 3, 1) := by decide +kernel
theorem dJ7_fill_53178_5 : decode cJ7_fill_53178 5 = .ok (.iload_n 2, 1) := by decide +kernel
theorem dJ7_fill_53178_6 : decode cJ7_fill_53178 6 = .ok (.iload_n 3, 1) := by decide +kernel
theorem dJ7_fill_53178_7 : decode cJ7_fill_53178 7 = .ok (.if_icmp .ge 13, 3) := by decide +kernel
theorem dJ7_fill_53178_10 : decode cJ7_fill_53178 10 = .ok (.aload_n 0, 1) := by decide +kernel
theorem dJ7_fill_53178_11 : decode cJ7_fill_53178 11 = .ok (.iload_n 2, 1) := by decide +kernel
theorem dJ7_fill_53178_12 : decode cJ7_fill_53178 12 = .ok (.iload_n 1, 1) := by decide +kernel
theorem dJ7_fill_53178_13 : decode cJ7_fill_53178 13 = .ok (.iastore, 1) := by decide +kernel
theorem dJ7_fill_53178_14 : decode cJ7_fill_53178 14 = .ok (.iinc 2 1, 3) := by decide +kernel
theorem dJ7_fill_53178_17 : decode cJ7_fill_53178 17 = .ok (.goto (-12), 3) := by decide +kernel
theorem dJ7_fill_53178_20 : decode cJ7_fill_53178 20 = .ok (.return_, 1) := by decide +kernel
